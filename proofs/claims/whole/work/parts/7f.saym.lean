/-! say of the reference, whole. -/
theorem KM.fl0 {M : MM} {F : Nat} {G wd : Nat → Nat → Nat} {S : CS} (hK : KM M F G wd S) : KM (st2 (st2 M 19 26 (nI 1)) 19 34 (nI 0)) F G wd (fl0 S) := by
  obtain ⟨vl, hb, sk, hd, ls, pl, n, st, sn, fl, wt, rf, rv, k0, k1⟩ := S
  obtain ⟨c1, cD, c2, c3, c4, c5, c6, c7, c8, c9, c10, c11⟩ := hK
  have g : ∀ c j, (c = 19 → j ≠ 26 ∧ j ≠ 34) → st2 (st2 M 19 26 (nI 1)) 19 34 (nI 0) c j = M c j := fun c j q => by
    by_cases hc : c = 19
    · have := q hc
      rw [st2_nj' _ this.2, st2_nj' _ this.1]
    · rw [st2_nc _ hc, st2_nc _ hc]
  have g19 : ∀ j, j ≠ 26 → j ≠ 34 → st2 (st2 M 19 26 (nI 1)) 19 34 (nI 0) 19 j = M 19 j := fun j q1 q2 => g 19 j (fun _ => ⟨q1, q2⟩)
  exact ⟨c1.fr (g19 0 (by decide) (by decide)) (fun c j q1 q2 => g c j (fun e => by omega)), cD.fr (fun c j q1 q2 => g c j (fun e => by omega)), (g19 29 (by decide) (by decide)).trans c2, (g19 30 (by decide) (by decide)).trans c3, (g19 31 (by decide) (by decide)).trans c4, fun i hi => (g 40 i (fun e => by omega)).trans (c5 i hi), (g19 27 (by decide) (by decide)).trans c6, (g19 28 (by decide) (by decide)).trans c7, st2_at _ _ _ _, (g19 32 (by decide) (by decide)).trans c9, fun q => ⟨(g19 36 (by decide) (by decide)).trans (c10 q).1, (g19 37 (by decide) (by decide)).trans (c10 q).2⟩, fun q => ⟨⟨(g 41 0 (fun e => by omega)).trans (c11 q).1.1, (g 42 0 (fun e => by omega)).trans (c11 q).1.2⟩, (g 41 1 (fun e => by omega)).trans (c11 q).2.1, (g 42 1 (fun e => by omega)).trans (c11 q).2.2⟩⟩
theorem p_saym {M : MM} {F P no od ne mi : Nat} {G wd : Nat → Nat → Nat} {S : CS} {c w k : Nat → Nat} {t : T2} (hG : GW F G wd) (hK : KM M F G wd S) (hI : IV F G S) (hW : WH P c w k) (hH : RHm M P c w k) (h12 : M 19 12 = nI no) (h13 : M 19 13 = nI od) (h14 : M 19 14 = nI ne) (hno : no ≤ 99) (hod : od ≤ 99) (hne : ne ≤ 200) (h33 : M 19 33 = nI mi) (hmi : mi ≤ 9) (hok : okT t) (hC : tC P no od F G wd c w k t S) (htk : t.1 ≠ none → okTK F (hdS S) (lsS S) t) : ∃ M' : MM, mX10_say [.inr (some 19)] M = some (some (.inl (nI (sayS F G P ne t S).1)), M') ∧ KM M' F G wd (sayS F G P ne t S).2 ∧ M' 19 16 = nI 0 ∧ M' 19 33 = nI (miS (sayS F G P ne t S).1 mi) ∧ M' 43 0 = nI (sayS F G P ne t S).1 ∧ TM M' t ∧ M' 43 7 = nI (flS (sayS F G P ne t S).2) ∧ M' 43 8 = (if nearT t ne = 1 then dfP G (hdS S) t else 0) ∧ M' 19 26 = nI 1 ∧ (∀ j, j = 12 ∨ j = 13 ∨ j = 14 → M' 19 j = M 19 j) ∧ ∀ c j, c ≤ 18 ∨ 44 ≤ c → M' c j = M c j := by
  obtain ⟨z1, z2, z3, z4⟩ := fl0_hd S
  have hP8 := hW.1
  have hI0 := hI.fl0
  have hK0 := hK.fl0
  obtain ⟨v1, v2, v3⟩ := IV_hd hI
  -- the nine numbers that are told
  have loop : ∀ m i (M1 : MM), i + m = 9 → ∃ M2 : MM, gX10_say 12 [some (.inr (some 19)), some (.inl (nI i)), none, none] [] M1 = gX10_say 12 [some (.inr (some 19)), some (.inl (nI 9)), none, none] [] M2 ∧ (∀ j, i ≤ j → j < 9 → M2 43 j = if j < 7 then -nI 1 else nI 0) ∧ (∀ j, j < i → M2 43 j = M1 43 j) ∧ ∀ c j, c ≠ 43 → M2 c j = M1 c j := by
    intro m
    induction m with
    | zero =>
      intro i M1 hi
      obtain rfl : i = 9 := by omega
      exact ⟨M1, rfl, fun j q1 q2 => by omega, fun _ _ => rfl, fun _ _ _ => rfl⟩
    | succ m ih =>
      intro i M1 hi
      have gi := gI (c := i) (N := 9) (by omega) (by omega)
      obtain ⟨M2, a1, a2, a3, a4⟩ := ih (i + 1) (st2 M1 43 i (if i < 7 then -nI 1 else nI 0)) (by omega)
      refine ⟨M2, ?_, fun j q1 q2 => ?_, fun j q => ?_, fun c j q => by rw [a4 c j q, st2_nc _ q]⟩
      · rw [eX10_say_12, if_neg (by rw [L9, q_le (by omega) (by omega)]; omega), q_cl (show i < 2147483648 by omega), if_neg gi, if_neg gi, L1, q_add]
        by_cases h7 : i < 7
        · rw [if_pos h7] at a1
          rw [if_neg (by rw [L7, q_le (by omega) (by omega)]; omega)]
          exact a1
        · rw [if_neg h7] at a1
          rw [if_pos (by rw [L7]; exact nI_le (by omega) (by omega)), L0]
          exact a1
      · by_cases he : j = i
        · rw [he, a3 i (by omega), st2_at]
        · exact a2 j (by omega) q2
      · rw [a3 j (by omega), st2_nj' _ (by omega)]
  obtain ⟨M2, a1, a2, a3, a4⟩ := loop 9 0 (st2 (st2 M 19 26 (nI 1)) 19 34 (nI 0)) (by omega)
  have hK2 : KM M2 F G wd (fl0 S) := hK0.fr (fun c j q1 q2 q3 q4 => a4 c j (by omega))
  have e2 : ∀ c j, c ≠ 43 → (c = 19 → j ≠ 26 ∧ j ≠ 34) → M2 c j = M c j := fun c j q1 q2 => by
    rw [a4 c j q1]
    by_cases hc : c = 19
    · have := q2 hc
      rw [st2_nj' _ this.2, st2_nj' _ this.1]
    · rw [st2_nc _ hc, st2_nc _ hc]
  have e26 : M2 19 26 = nI 1 := by rw [a4 19 26 (by decide), st2_nj' _ (by decide), st2_at]
  obtain ⟨j1, j2, j3, j4, j5⟩ := KM_hd hK2
  rw [z1] at j1
  rw [z2] at j2
  rw [z3] at j3
  have e16 : M2 19 16 = nI P := by rw [e2 19 16 (by decide) (fun _ => ⟨by decide, by decide⟩)]; exact hH.1
  have h60 : mX10_say [.inr (some 19)] M = gX10_say 60 [some (.inr (some 19)), some (.inl (nI 9)), none, none] [.inl (nI (if P = 0 ∧ S.2.2.2.2.2.2.2.1 = 0 then 0 else 1))] M2 := by
    rw [iX10_say, eX10_say_0, L0, L1, a1, eX10_say_12, if_pos (by rw [L9]; exact nI_le (Nat.le_refl _) (by omega)), e16, j3]
    by_cases hP : P = 0
    · rw [if_pos (by rw [hP]; rfl)]
      by_cases h0 : S.2.2.2.2.2.2.2.1 = 0
      · rw [if_pos (by rw [h0]; rfl), if_pos ⟨hP, h0⟩]
        rfl
      · rw [if_neg (by rw [L0, q_eq (by omega) (by omega)]; exact h0), if_neg (fun e => h0 e.2), eX10_say_59]
        rfl
    · rw [if_neg (by rw [L0, q_eq (by omega) (by omega)]; exact hP), if_neg (fun e => hP e.1), eX10_say_59]
      rfl
  have hT2 : TM M2 (none, none) := by
    have h : ∀ j, j < 7 → M2 43 j = -nI 1 := fun j q => by rw [a2 j (by omega) (by omega), if_pos q]
    exact ⟨⟨h 1 (by omega), h 2 (by omega), h 3 (by omega)⟩, h 4 (by omega), h 5 (by omega), h 6 (by omega)⟩
  have h28 : M2 43 8 = 0 := by rw [a2 8 (by omega) (by omega), if_neg (by decide)]; rfl
  have h233 : M2 19 33 = nI mi := by rw [e2 19 33 (by decide) (fun _ => ⟨by decide, by decide⟩)]; exact h33
  -- nothing read
  have nothing : ∀ (M3 : MM) (d2 d3 : Option AV), t = (none, none) → gX10_say 60 [some (.inr (some 19)), some (.inl (nI 9)), none, none] [.inl (nI (if P = 0 ∧ S.2.2.2.2.2.2.2.1 = 0 then 0 else 1))] M2 = gX10_say 260 [some (.inr (some 19)), some (.inl (nI (if P = 0 ∧ S.2.2.2.2.2.2.2.1 = 0 then 0 else 1))), d2, d3] [] M3 → (∀ c j, ¬ (35 ≤ c ∧ c ≤ 39) → ¬ (c = 19 ∧ j = 24) → M3 c j = M2 c j) → ∃ M' : MM, mX10_say [.inr (some 19)] M = some (some (.inl (nI (sayS F G P ne t S).1)), M') ∧ KM M' F G wd (sayS F G P ne t S).2 ∧ M' 19 16 = nI 0 ∧ M' 19 33 = nI (miS (sayS F G P ne t S).1 mi) ∧ M' 43 0 = nI (sayS F G P ne t S).1 ∧ TM M' t ∧ M' 43 7 = nI (flS (sayS F G P ne t S).2) ∧ M' 43 8 = (if nearT t ne = 1 then dfP G (hdS S) t else 0) ∧ M' 19 26 = nI 1 ∧ (∀ j, j = 12 ∨ j = 13 ∨ j = 14 → M' 19 j = M 19 j) ∧ ∀ c j, c ≤ 18 ∨ 44 ≤ c → M' c j = M c j := by
    intro M3 d2 d3 ht h hfr
    subst ht
    have hs : sayS F G P ne (none, none) S = (if P = 0 ∧ S.2.2.2.2.2.2.2.1 = 0 then 0 else 1, fl0 S) := if_pos rfl
    have hK3 : KM M3 F G wd (fl0 S) := hK2.fr (fun c j q1 q2 q3 q4 => hfr c j (by omega) (fun e => by have := q4 e.1; omega))
    have hT3 : TM M3 (none, none) := by
      have h : ∀ j, M3 43 j = M2 43 j := fun j => hfr 43 j (by omega) (fun e => by omega)
      exact ⟨⟨(h 1).trans hT2.1.1, (h 2).trans hT2.1.2.1, (h 3).trans hT2.1.2.2⟩, (h 4).trans hT2.2.1, (h 5).trans hT2.2.2.1, (h 6).trans hT2.2.2.2⟩
    obtain ⟨M', t1, t2, t3, t4, t5, t6, t7, t8, t9⟩ := p_sayTm (d2 := d2) (d3 := d3) (a := if P = 0 ∧ S.2.2.2.2.2.2.2.1 = 0 then 0 else 1) hK3 hT3 ((hfr 43 8 (by omega) (fun e => by omega)).trans h28) (by split <;> omega) ((hfr 19 33 (by omega) (fun e => by omega)).trans h233) hmi
    refine ⟨M', by rw [h60, h, t1, hs], by rw [hs]; exact t2, t3, by rw [hs]; exact t4, by rw [hs]; exact t5, t6, by rw [hs]; exact t7, ?_, ?_, fun j q => ?_, fun c j q => ?_⟩
    · rw [t8, if_neg (show ¬ nearT (none, none) ne = 1 by intro h; cases h)]
    · rw [t9 19 26 (by decide) (fun _ => ⟨by decide, by decide⟩), hfr 19 26 (by omega) (fun e => by omega)]; exact e26
    · rw [t9 19 j (by decide) (fun _ => by omega), hfr 19 j (by omega) (fun e => by omega), e2 19 j (by decide) (fun _ => by omega)]
    · rw [t9 c j (by omega) (fun e => by omega), hfr c j (by omega) (fun e => by omega), e2 c j (by omega) (fun e => by omega)]
  by_cases hP : P = 0
  · refine nothing M2 none none ?_ ?_ (fun _ _ _ _ => rfl)
    · by_cases h0 : S.2.2.2.2.2.2.2.1 = 0
      · have hc := hC.1 h0
        subst hP
        exact CX_empty hW hG v1 v2 hc
      · exact hC.2 h0
    · rw [eX10_say_60, e16, if_pos (by rw [hP]; decide)]
  by_cases h0 : S.2.2.2.2.2.2.2.1 = 0
  · -- all is read
    have hb : LB M2 P c w k no od F G wd (hdS S) (lsS S) := ⟨hH.congr (e2 19 16 (by decide) (fun _ => ⟨by decide, by decide⟩)) (funext fun j => e2 32 j (by decide) (fun e => by omega)) (funext fun j => e2 33 j (by decide) (fun e => by omega)) (funext fun j => e2 34 j (by decide) (fun e => by omega)), (e2 19 12 (by decide) (fun _ => ⟨by decide, by decide⟩)).trans h12, (e2 19 13 (by decide) (fun _ => ⟨by decide, by decide⟩)).trans h13, j4, j1, j2⟩
    obtain ⟨M3, t', b1, b2, b3, b4, b5⟩ := p_readAll hW hG v1 v2 hno hod hb
    obtain rfl : t = t' := same_two hW hG v1 v2 (hC.1 h0) b5
    have h79 : gX10_say 60 [some (.inr (some 19)), some (.inl (nI 9)), none, none] [.inl (nI (if P = 0 ∧ S.2.2.2.2.2.2.2.1 = 0 then 0 else 1))] M2 = gX10_say 79 [some (.inr (some 19)), some (.inl (nI (if P = 0 ∧ S.2.2.2.2.2.2.2.1 = 0 then 0 else 1))), none, none] [] M3 := by
      rw [eX10_say_60, e16, if_neg (by rw [L0, q_le (by omega) (by omega)]; omega), j3, if_pos (by rw [h0]; rfl), b1]
      simp only [bnd0, Option.toList_none, List.nil_append]
    have hfr3 : ∀ c j, ¬ (35 ≤ c ∧ c ≤ 39) → ¬ (c = 19 ∧ j = 24) → M3 c j = M2 c j := fun c j q1 q2 => b4 c j (by omega) (by omega) (by omega) (by omega) (by omega) q2
    have hK3 : KM M3 F G wd (fl0 S) := hK2.fr (fun c j q1 q2 q3 q4 => hfr3 c j (by omega) (fun e => by have := q4 e.1; omega))
    by_cases ht : t.1 = none
    · refine nothing M3 none none ?_ ?_ hfr3
      · obtain ⟨ta, tb⟩ := t
        have ht : ta = none := ht
        subst ht
        have := b3.2.2 rfl
        have this : tb = none := this
        rw [this]
      · have r1 := b2.1
        rw [ht] at r1
        have r1 : M3 37 0 = iZ 1000000 := r1
        rw [h79, eX10_say_79, r1, if_pos (by decide)]
    · obtain ⟨ta, tb⟩ := t
      obtain ⟨ra, rb⟩ := id b2
      obtain ⟨oa, ob, oab⟩ := id b3
      cases ta with
      | none => exact absurd rfl ht
      | some q0 =>
      obtain ⟨x0, key0⟩ := q0
      obtain ⟨s, v, rfl, hs8, hv8, m37, m35, m36⟩ := ra
      obtain ⟨aa1, aa2, aa3⟩ := oa
      have es : key2 s v / 100000000 = s := by unfold key2; omega
      have ev : key2 s v % 100000000 = v := by unfold key2; omega
      have eoS : oS (some (x0, key2 s v)) = some s := by show some (key2 s v / 100000000) = some s; rw [es]
      have eoV : oV (some (x0, key2 s v)) = some v := by show some (key2 s v % 100000000) = some v; rw [ev]
      have n37 : ¬ (1000000 : Int32) ≤ iZ x0 := by
        rw [L1000000, iZ_nat, z_le (by omega) (by omega) (by omega) (by omega)]
        show ¬ ((1000000 : Nat) : Int) ≤ x0
        omega
      obtain ⟨y1, y2, y3, y4, y5⟩ := KM_hd hK3
      rw [z1] at y1
      have e314 : M3 19 14 = nI ne := by rw [hfr3 19 14 (by omega) (fun e => by omega), e2 19 14 (by decide) (fun _ => ⟨by decide, by decide⟩)]; exact h14
      generalize hy0 : nI (if P = 0 ∧ S.2.2.2.2.2.2.2.1 = 0 then 0 else 1) = y0 at h79
      generalize hdf : (if nearT (some (x0, key2 s v), tb) ne = 1 then dfP G (hdS S) (some (x0, key2 s v), tb) else 0 : Int32) = df
      -- which digits differ
      have h142 : df = 0 → gX10_say 142 [some (.inr (some 19)), some (.inl y0), none, none] [] M3 = gX10_say 182 [some (.inr (some 19)), some (.inl y0), some (.inl (0 : Int32)), none] [.inl df, .inl (8 : Int32), .inr (some 43)] M3 := fun e => by
        rw [e, eX10_say_142, eX10_say_143, if_pos rfl, eX10_say_181]
      have h182 : ∃ ys : Int32, gX10_say 79 [some (.inr (some 19)), some (.inl y0), none, none] [] M3 = gX10_say 182 [some (.inr (some 19)), some (.inl y0), some (.inl ys), none] [.inl df, .inl (8 : Int32), .inr (some 43)] M3 := by
        rw [eX10_say_79, m37, if_neg n37, y1]
        cases hh : hdS S with
        | none =>
          refine ⟨0, ?_⟩
          rw [if_pos (show oI none < 0 by decide)]
          refine h142 ?_
          rw [← hdf, hh]
          show (if _ then (0 : Int32) else 0) = 0
          split <;> rfl
        | some f =>
          have hf := v1 f hh
          have hF := hG.1
          have g1 := (hG.2 f hf).2.1
          have eh : oI (some f) = nI f := rfl
          have gf := gI (c := f) (N := 12) (by omega) (by omega)
          have edf : df = if nearT (some (x0, key2 s v), tb) ne = 1 then (if oS (some (x0, key2 s v)) = some 0 ∧ oS tb = some 0 then difI (G 1 f) 0 (oI (oV (some (x0, key2 s v)))) (oI (oV tb)) else 0) else 0 := by rw [← hdf, hh]; rfl
          rw [eh, if_neg (by rw [L0, q_lt (by omega) (by omega)]; omega), q_cl (show f < 2147483648 by omega), if_neg gf, (y4.2 f hf).2.1]
          by_cases hl : G 1 f = 0
          · refine ⟨0, ?_⟩
            rw [if_pos (by rw [hl]; decide)]
            refine h142 ?_
            rw [edf, hl]
            show (if _ then (if _ then (0 : Int32) else 0) else 0) = 0
            split
            · split <;> rfl
            · rfl
          rw [if_neg (by rw [L0, q_le (by omega) (by omega)]; omega)]
          cases tb with
          | none =>
            have e : M3 37 1 = iZ 1000000 := rb
            refine ⟨0, ?_⟩
            rw [e, if_pos (by decide)]
            exact h142 (by rw [edf]; rfl)
          | some q1 =>
            obtain ⟨x1, key1⟩ := q1
            obtain ⟨s1, v1', rfl, hs1, hv1, p37, p35, p36⟩ := rb
            obtain ⟨bb1, bb2, bb3⟩ := ob
            have ks1 : key2 s1 v1' / 100000000 = s1 := by unfold key2; omega
            have kv1 : key2 s1 v1' % 100000000 = v1' := by unfold key2; omega
            have es1 : oS (some (x1, key2 s1 v1')) = some s1 := congrArg some ks1
            have ev1 : oV (some (x1, key2 s1 v1')) = some v1' := congrArg some kv1
            have en : nearT (some (x0, key2 s v), some (x1, key2 s1 v1')) ne = if x1 < x0 + (ne : Int) then 1 else 0 := rfl
            rw [p37, if_neg (by rw [L1000000, iZ_nat, z_le (by omega) (by omega) (by omega) (by omega)]; show ¬ ((1000000 : Nat) : Int) ≤ x1; omega), m35, p35]
            rw [eoS, es1, eoV, ev1, en] at edf
            by_cases hs0 : s = 0
            · rw [if_pos (by rw [hs0]; rfl)]
              by_cases hs10 : s1 = 0
              · rw [if_pos (by rw [hs10]; rfl)]
                refine ⟨1, ?_⟩
                rw [eX10_say_143, if_neg (by decide), m37, p37, e314, iZ_nat ne, z_add]
                by_cases hnear : x1 < x0 + (ne : Int)
                · rw [if_neg (by rw [z_le (by omega) (by omega) (by omega) (by omega)]; omega), p_unlike hG y4 (by rw [y1, hh]; rfl) hf]
                  simp only [bnd1, Option.toList_some, List.cons_append, List.nil_append, eX10_say_178]
                  rw [if_pos hnear, if_pos rfl, if_pos ⟨by rw [hs0], by rw [hs10]⟩] at edf
                  rw [edf, m36, p36]
                  rfl
                · rw [if_pos (by rw [z_le (by omega) (by omega) (by omega) (by omega)]; omega), eX10_say_181]
                  rw [if_neg hnear, if_neg (by decide)] at edf
                  rw [edf]
              · rw [if_neg (by rw [L0, q_eq (by omega) (by omega)]; exact hs10)]
                refine ⟨0, h142 ?_⟩
                rw [edf, if_neg (show ¬ (some s = some 0 ∧ some s1 = some 0) from fun e => hs10 (Option.some.inj e.2))]
                split <;> rfl
            · rw [if_neg (by rw [L0, q_eq (by omega) (by omega)]; exact hs0)]
              refine ⟨0, h142 ?_⟩
              rw [edf, if_neg (show ¬ (some s = some 0 ∧ some s1 = some 0) from fun e => hs0 (Option.some.inj e.1))]
              split <;> rfl
      obtain ⟨ys, h182⟩ := h182
      -- the two meanings are told
      have step : ∀ (Mx : MM) (kk : Nat) (x : Int), kk ≤ 1 → Mx 37 kk = iZ x → -1000000 ≤ x → x < 1000000 → gX10_say 185 [some (.inr (some 19)), some (.inl y0), some (.inl ys), some (.inl (nI kk))] [] Mx = gX10_say 185 [some (.inr (some 19)), some (.inl y0), some (.inl ys), some (.inl (nI (kk + 1)))] [] (st2 (st2 (st2 Mx 43 (3 * kk + 1) (Mx 35 kk)) 43 (3 * kk + 2) (Mx 36 kk)) 43 (3 * kk + 3) (Mx 37 kk)) := by
        intro Mx kk x hkk e q1 q2
        have gk := gI (c := kk) (N := 2) (by omega) (by omega)
        rw [eX10_say_185, if_neg (by rw [L2, q_le (by omega) (by omega)]; omega), q_cl (show kk < 2147483648 by omega), if_neg gk, e, if_neg (by rw [L1000000, iZ_nat, z_le (by omega) (by omega) (by omega) (by omega)]; show ¬ ((1000000 : Nat) : Int) ≤ x; omega), if_neg gk, L1, L2, L3, q_mul, q_add, q_add, q_add, q_cl (show 3 * kk + 1 < 2147483648 by omega), q_cl (show 3 * kk + 2 < 2147483648 by omega), q_cl (show 3 * kk + 3 < 2147483648 by omega), if_neg (gI (by omega) (by omega)), if_neg gk, if_neg (gI (by omega) (by omega)), if_neg gk, if_neg (gI (by omega) (by omega)), st2_nc _ (by decide), st2_nc _ (by decide), st2_nc _ (by decide), e, q_add]
      have stop : ∀ (Mx : MM), Mx 37 1 = iZ 1000000 → gX10_say 185 [some (.inr (some 19)), some (.inl y0), some (.inl ys), some (.inl (nI 1))] [] Mx = gX10_say 255 [some (.inr (some 19)), some (.inl y0), some (.inl ys), some (.inl (nI 1))] [] Mx := by
        intro Mx e
        rw [eX10_say_185, if_neg (show ¬ (2 : Int32) ≤ nI 1 by decide), q_cl (show 1 < 2147483648 by omega), if_neg (gI (show 1 < 2 by omega) (by omega)), e, if_pos (by decide)]
      have h255 : ∃ (M4 : MM) (x3 : Int32), gX10_say 185 [some (.inr (some 19)), some (.inl y0), some (.inl ys), some (.inl (nI 0))] [] (st2 M3 43 8 df) = gX10_say 255 [some (.inr (some 19)), some (.inl y0), some (.inl ys), some (.inl x3)] [] M4 ∧ TM M4 (some (x0, key2 s v), tb) ∧ M4 43 8 = df ∧ ∀ c j, c ≠ 43 → M4 c j = M3 c j := by
        have hold : ∀ j, j < 7 → 0 < j → (st2 M3 43 8 df) 43 j = -nI 1 := fun j q1 q2 => by
          rw [st2_nj' _ (by omega), hfr3 43 j (by omega) (fun e => by omega), a2 j (by omega) (by omega), if_pos q1]
        rw [step (st2 M3 43 8 df) 0 x0 (by omega) (by rw [st2_nc _ (by decide)]; exact m37) aa1 aa2]
        have hm : ∀ c j, c ≠ 43 → st2 (st2 (st2 (st2 M3 43 8 df) 43 (3 * 0 + 1) (st2 M3 43 8 df 35 0)) 43 (3 * 0 + 2) (st2 M3 43 8 df 36 0)) 43 (3 * 0 + 3) (st2 M3 43 8 df 37 0) c j = M3 c j := fun c j q => by
          rw [st2_nc _ q, st2_nc _ q, st2_nc _ q, st2_nc _ q]
        have r1 : st2 M3 43 8 df 35 0 = nI s := by rw [st2_nc _ (by decide)]; exact m35
        have r2 : st2 M3 43 8 df 36 0 = nI v := by rw [st2_nc _ (by decide)]; exact m36
        have r3 : st2 M3 43 8 df 37 0 = iZ x0 := by rw [st2_nc _ (by decide)]; exact m37
        have w1 : oI (oS (some (x0, key2 s v))) = nI s := by rw [eoS]; rfl
        have w2 : oI (oV (some (x0, key2 s v))) = nI v := by rw [eoV]; rfl
        cases tb with
        | none =>
          have e : M3 37 1 = iZ 1000000 := rb
          refine ⟨_, _, stop _ (by rw [hm 37 1 (by decide)]; exact e), ⟨⟨?_, ?_, ?_⟩, ?_, ?_, ?_⟩, ?_, hm⟩
          · rw [st2_nj' _ (by decide), st2_nj' _ (by decide), st2_at, r1]; exact w1.symm
          · rw [st2_nj' _ (by decide), st2_at, r2]; exact w2.symm
          · rw [st2_at, r3]; rfl
          · rw [st2_nj' _ (by decide), st2_nj' _ (by decide), st2_nj' _ (by decide)]; exact hold 4 (by omega) (by omega)
          · rw [st2_nj' _ (by decide), st2_nj' _ (by decide), st2_nj' _ (by decide)]; exact hold 5 (by omega) (by omega)
          · rw [st2_nj' _ (by decide), st2_nj' _ (by decide), st2_nj' _ (by decide)]; exact hold 6 (by omega) (by omega)
          · rw [st2_nj' _ (by decide), st2_nj' _ (by decide), st2_nj' _ (by decide), st2_at]
        | some q1 =>
          obtain ⟨x1, key1⟩ := q1
          obtain ⟨s1, v1', rfl, hs1, hv1, p37, p35, p36⟩ := rb
          obtain ⟨bb1, bb2, bb3⟩ := ob
          have ks1 : key2 s1 v1' / 100000000 = s1 := by unfold key2; omega
          have kv1 : key2 s1 v1' % 100000000 = v1' := by unfold key2; omega
          have u1 : oI (oS (some (x1, key2 s1 v1'))) = nI s1 := congrArg nI ks1
          have u2 : oI (oV (some (x1, key2 s1 v1'))) = nI v1' := congrArg nI kv1
          rw [step _ (0 + 1) x1 (by omega) (by rw [hm 37 (0 + 1) (by decide)]; exact p37) bb1 bb2, hm 35 (0 + 1) (by decide), hm 36 (0 + 1) (by decide), hm 37 (0 + 1) (by decide)]
          have h2e : ∀ Mx : MM, gX10_say 185 [some (.inr (some 19)), some (.inl y0), some (.inl ys), some (.inl (nI (0 + 1 + 1)))] [] Mx = gX10_say 255 [some (.inr (some 19)), some (.inl y0), some (.inl ys), some (.inl (nI (0 + 1 + 1)))] [] Mx := fun Mx => by
            rw [eX10_say_185, if_pos (show (2 : Int32) ≤ nI (0 + 1 + 1) by decide)]
          refine ⟨_, _, h2e _, ⟨⟨?_, ?_, ?_⟩, ?_, ?_, ?_⟩, ?_, fun c j q => by rw [st2_nc _ q, st2_nc _ q, st2_nc _ q]; exact hm c j q⟩
          · rw [st2_nj' _ (by decide), st2_nj' _ (by decide), st2_nj' _ (by decide), st2_nj' _ (by decide), st2_nj' _ (by decide), st2_at, r1]; exact w1.symm
          · rw [st2_nj' _ (by decide), st2_nj' _ (by decide), st2_nj' _ (by decide), st2_nj' _ (by decide), st2_at, r2]; exact w2.symm
          · rw [st2_nj' _ (by decide), st2_nj' _ (by decide), st2_nj' _ (by decide), st2_at, r3]; rfl
          · rw [st2_nj' _ (by decide), st2_nj' _ (by decide), st2_at, p35]; exact u1.symm
          · rw [st2_nj' _ (by decide), st2_at, p36]; exact u2.symm
          · rw [st2_at, p37]; rfl
          · rw [st2_nj' _ (by decide), st2_nj' _ (by decide), st2_nj' _ (by decide), st2_nj' _ (by decide), st2_nj' _ (by decide), st2_nj' _ (by decide), st2_at]
      obtain ⟨M4, x3, c1, c2, c3, c4⟩ := h255
      have hK4 : KM M4 F G wd (fl0 S) := hK3.fr (fun c j q1 q2 q3 q4 => c4 c j (by omega))
      have hR4 : RM M4 (some (x0, key2 s v), tb) := ⟨RM1_copy b2.1 (c4 37 0 (by decide)) (c4 35 0 (by decide)) (c4 36 0 (by decide)), RM1_copy b2.2 (c4 37 1 (by decide)) (c4 35 1 (by decide)) (c4 36 1 (by decide))⟩
      have htk0 : okTK F (fl0 S).2.2.2.1 (fl0 S).2.2.2.2.1 (some (x0, key2 s v), tb) := by
        have := htk ht
        rw [← z1, ← z2] at this
        exact this
      obtain ⟨M5, d1, d2, d3⟩ := p_actM hG hK4 hI0 z4 hR4 b3 ht htk0 ((c4 19 14 (by decide)).trans e314) hne
      obtain ⟨n1, n2, n3⟩ := hear_26 F G ne (some (x0, key2 s v), tb) (fl0 S)
      have hs : sayS F G P ne (some (x0, key2 s v), tb) S = hearS F G ne (some (x0, key2 s v), tb) (fl0 S) := if_neg ht
      have f5 : ∀ j, M5 43 j = M4 43 j := fun j => d3 43 j (by decide) (by decide) (by decide) (by decide) (by decide) (by decide) (fun e => by omega)
      have hT5 : TM M5 (some (x0, key2 s v), tb) := ⟨⟨(f5 1).trans c2.1.1, (f5 2).trans c2.1.2.1, (f5 3).trans c2.1.2.2⟩, (f5 4).trans c2.2.1, (f5 5).trans c2.2.2.1, (f5 6).trans c2.2.2.2⟩
      have f19 : ∀ j, j ≤ 23 ∨ j = 25 ∨ j = 26 ∨ j = 33 → M5 19 j = M2 19 j := fun j q => by
        rw [d3 19 j (by decide) (by decide) (by decide) (by decide) (by decide) (by decide) (fun _ => by omega), c4 19 j (by decide), hfr3 19 j (by omega) (fun e => by omega)]
      obtain ⟨M', t1, t2, t3, t4, t5, t6, t7, t8, t9⟩ := p_sayTm (d2 := some (.inl ys)) (d3 := some (.inl x3)) d2 hT5 ((f5 8).trans c3) n3 ((f19 33 (by omega)).trans h233) hmi
      refine ⟨M', ?_, by rw [hs]; exact t2, t3, by rw [hs]; exact t4, by rw [hs]; exact t5, t6, by rw [hs]; exact t7, t8, ?_, fun j q => ?_, fun c j q => ?_⟩
      · rw [h60, hy0, h79, h182, eX10_say_182, L8, q_cl (show 8 < 2147483648 by omega), if_neg (gI (show 8 < 9 by omega) (by omega)), L0, c1, eX10_say_255, d1]
        simp only [bnd1, Option.toList_some, List.cons_append, List.nil_append, eX10_say_259]
        rw [t1, hs]
      · rw [t9 19 26 (by decide) (fun _ => ⟨by decide, by decide⟩), f19 26 (by omega)]; exact e26
      · rw [t9 19 j (by decide) (fun _ => by omega), f19 j (by omega), e2 19 j (by decide) (fun _ => by omega)]
      · rw [t9 c j (by omega) (fun e => by omega), d3 c j (by omega) (by omega) (by omega) (by omega) (by omega) (by omega) (fun e => by omega), c4 c j (by omega), hfr3 c j (by omega) (fun e => by omega), e2 c j (by omega) (fun e => by omega)]
  · refine nothing M2 none none (hC.2 h0) ?_ (fun _ _ _ _ => rfl)
    rw [eX10_say_60, e16, if_neg (by rw [L0, q_le (by omega) (by omega)]; omega), j3, if_neg (by rw [L0, q_eq (by omega) (by omega)]; exact h0)]
