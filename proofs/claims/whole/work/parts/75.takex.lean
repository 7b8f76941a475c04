/-! skip, goTo, take of the class. -/
theorem FF.sk {M : MM} {F h x : Nat} {G wd : Nat → Nat → Nat} {vl : Nat → Option Nat} {hb sk : Nat → Nat} (hF : FF M F G wd vl hb sk) (hG : GW F G wd) (hh : h < F) : FF (st2 M (h + 44) 12 (nI x)) F G wd vl hb (uq sk h x) := by
  have h12 := hG.1
  obtain ⟨h1, h2, h3⟩ := hF
  refine ⟨h1.fr (st2_nc _ (by omega)) (fun c j _ q => st2_nj' _ (by omega)) hG, fun g hg => (st2_nj' _ (by decide)).trans (h2 g hg), fun g hg => ?_⟩
  obtain ⟨a, b, c, d⟩ := h3 g hg
  refine ⟨(st2_nj' _ (by decide)).trans a, fun v e => (st2_nj' _ (by decide)).trans (b v e), (st2_nj' _ (by decide)).trans c, ?_⟩
  by_cases he : g = h
  · rw [he, st2_at, uq_at]
  · rw [st2_nc _ (by omega), uq_ne _ _ he]
    exact d
theorem KX.sk {M : MM} {F h x : Nat} {G wd : Nat → Nat → Nat} {vl : Nat → Option Nat} {hb sk : Nat → Nat} {r : Option Nat × Option Nat × (Nat → Nat) × Nat × Nat × Nat × Nat × Nat × Nat × Nat × Nat × Nat} (hK : KX M F G wd (vl, hb, sk, r)) (hG : GW F G wd) (hh : h < F) : KX (st2 M (h + 44) 12 (nI x)) F G wd (vl, hb, uq sk h x, r) := by
  obtain ⟨hd, ls, pl, n, st, sn, fl, wt, rf, rv, k0, k1⟩ := r
  obtain ⟨c1, c2, c3, c4, c5, c6, c7, c8, c9, c10, c11⟩ := hK
  have e : ∀ c j, c < 44 → st2 M (h + 44) 12 (nI x) c j = M c j := fun c j q => st2_nc _ (by omega)
  exact ⟨c1.sk hG hh, (e 4 3 (by omega)).trans c2, (e 4 4 (by omega)).trans c3, (e 14 1 (by omega)).trans c4, fun i hi => (e 18 i (by omega)).trans (c5 i hi), (e 4 5 (by omega)).trans c6, (e 4 6 (by omega)).trans c7, (e 4 7 (by omega)).trans c8, (e 4 8 (by omega)).trans c9, fun q => ⟨(e 4 9 (by omega)).trans (c10 q).1, (e 4 10 (by omega)).trans (c10 q).2⟩, fun q => ⟨(e 4 11 (by omega)).trans (c11 q).1, (e 4 12 (by omega)).trans (c11 q).2⟩⟩
theorem IVa.sk {F h x : Nat} {G : Nat → Nat → Nat} {vl : Nat → Option Nat} {hb sk : Nat → Nat} {r : Option Nat × Option Nat × (Nat → Nat) × Nat × Nat × Nat × Nat × Nat × Nat × Nat × Nat × Nat} (hI : IVa F G (vl, hb, sk, r)) (hx : x ≤ 1) : IVa F G (vl, hb, uq sk h x, r) := by
  obtain ⟨hd, ls, pl, n, st, sn, fl, wt, rf, rv, k0, k1⟩ := r
  obtain ⟨i1, hr⟩ := hI
  refine ⟨fun g hg => ?_, hr⟩
  obtain ⟨j1, j2, j3, j4⟩ := i1 g hg
  refine ⟨j1, ?_, j3, j4⟩
  by_cases he : g = h
  · rw [he, uq_at]; exact hx
  · rw [uq_ne _ _ he]; exact j2
theorem p_skipX {M : MM} {F : Nat} {G wd : Nat → Nat → Nat} {S : CS} (hG : GW F G wd) (hK : KX M F G wd S) (hI : IV F G S) : ∃ M' : MM, mX6_skip [.inr (some 4)] M = some (some (.inl (nI (skipS F G S).1)), M') ∧ KX M' F G wd (skipS F G S).2 ∧ FT M M' := by
  obtain ⟨vl, hb, sk, hd, ls, pl, n, st, sn, fl, wt, rf, rv, k0, k1⟩ := S
  have hF := hG.1
  have hIa := hI.1
  have hhF : ∀ f, hd = some f → f < F := hIa.2.1
  have e43 : M 4 3 = oI hd := hK.2.1
  rw [iX6_skip, eX6_skip_0, e43, p_slotAt hF hK.1.1.1 hhF]
  simp only [bnd1, Option.toList_some, List.cons_append, List.nil_append]
  cases hd with
  | none =>
    rw [Option.map_none, eX6_skip_11]
    exact ⟨M, rfl, hK, fun _ _ _ _ _ _ => rfl⟩
  | some h =>
    have hh := hhF h rfl
    have hz := zkd_slot (i := h) (by omega)
    have hK2 := hK.sk (x := 1) hG hh
    have hI2 := hIa.sk (h := h) (x := 1) (Nat.le_refl _)
    obtain ⟨M2, b1, b2, b3⟩ := p_come (x := nxB F G vl (uq sk h 1) h) hG hK2 hI2 (fun g e => (nxB_ok e).1)
    rw [Option.map_some, eX6_skip_11]
    dsimp only
    have e2 : st2 M (h + 44) 12 (nI 1) 4 3 = nI h := hK2.2.1
    rw [if_pos hz, L1, e2, p_nextBehind1 hG hK2.1.1.1 hK2.1.2.1 hK2.1.2.2 (fun g hg => (hI2.1 g hg).2.1) hh]
    simp only [bnd1, Option.toList_some, List.cons_append, List.nil_append, eX6_skip_36]
    rw [b1]
    simp only [bnd0, Option.toList_none, List.nil_append, eX6_skip_39]
    exact ⟨M2, rfl, b2, fun c j q1 q2 q3 q4 => by rw [b3 c j q1 q2 q3 q4, st2_nc _ (by omega)]⟩
theorem p_goToX {M : MM} {F f : Nat} {G wd : Nat → Nat → Nat} {S : CS} (hG : GW F G wd) (hK : KX M F G wd S) (hI : IV F G S) (hf : f < F) : ∃ M' : MM, mX6_goTo [.inr (some 4), .inl (nI f)] M = some (some (.inl (nI (goS G f S).1)), M') ∧ KX M' F G wd (goS G f S).2 ∧ FT M M' := by
  obtain ⟨vl, hb, sk, r⟩ := S
  have hF := hG.1
  have hz := zkd_slot (i := f) (by omega)
  have hal := ak_le G vl f
  have hKF : FF M F G wd vl hb sk := by obtain ⟨hd, ls, pl, n, st, sn, fl, wt, rf, rv, k0, k1⟩ := r; exact hK.1
  have hsl : mX1_slotAt [.inr (some 1), .inl (nI f)] M = some (some (.inr (some (f + 44))), M) := p_slotAt (o := some f) hF hKF.1.1 (fun g e => by cases e; exact hf)
  rw [iX6_goTo, eX6_goTo_0, hsl]
  simp only [bnd1, Option.toList_some, List.cons_append, List.nil_append, eX6_goTo_8]
  rw [if_pos hz, hKF.2.1 f hf, if_pos hz]
  by_cases hc : ak G vl f = 0
  · have e : goS G f (vl, hb, sk, r) = (6, (vl, hb, sk, r)) := if_pos hc
    rw [e, if_pos (by rw [hc]; rfl), L6]
    exact ⟨M, rfl, hK, fun _ _ _ _ _ _ => rfl⟩
  · have e : goS G f (vl, hb, sk, r) = (5, comeS (some f) (vl, hb, uq sk f 0, r)) := if_neg hc
    have hK2 := hK.sk (x := 0) hG hf
    have hI2 := hI.1.sk (h := f) (x := 0) (by omega)
    obtain ⟨M2, b1, b2, b3⟩ := p_come (x := some f) hG hK2 hI2 (fun g e => by cases e; exact hf)
    have b1 : mX6_come [.inr (some 4), .inl (nI f)] (st2 M (f + 44) 12 (nI 0)) = some (none, M2) := b1
    rw [e, if_neg (by rw [L0, q_eq (by omega) (by omega)]; exact hc), L0, b1]
    simp only [bnd0, Option.toList_none, List.nil_append, eX6_goTo_33]
    exact ⟨M2, rfl, b2, fun c j q1 q2 q3 q4 => by rw [b3 c j q1 q2 q3 q4, st2_nc _ (by omega)]⟩
theorem p_takeX {M : MM} {F key : Nat} {G wd : Nat → Nat → Nat} {S : CS} (hG : GW F G wd) (hK : KX M F G wd S) (hI : IV F G S) (hw : S.2.2.2.2.2.2.2.2.2.2.1 = 0) (ho : okK F S.2.2.2.1 S.2.2.2.2.1 key) : ∃ M' : MM, mX6_take [.inr (some 4), .inl (nI key)] M = some (some (.inl (nI (takeS F G (key / 100000000) (key % 100000000) S).1)), M') ∧ KX M' F G wd (takeS F G (key / 100000000) (key % 100000000) S).2 ∧ FT M M' := by
  obtain ⟨o1, o2, o3, o4⟩ := ho
  have hv : key % 100000000 < 100000000 := Nat.mod_lt _ (by decide)
  have hs : key / 100000000 ≤ 8 := by omega
  have e9 : ∀ x2 : Int32, gX6_take 9 [some (.inr (some 4)), some (.inl (nI key)), some (.inl x2)] [.inl (nI (key / 100000000))] M = gX6_take 9 [some (.inr (some 4)), some (.inl (nI key)), some (.inl x2)] [.inl (nI (key / 100000000))] M := fun _ => rfl
  have hhead : mX6_take [.inr (some 4), .inl (nI key)] M = gX6_take 9 [some (.inr (some 4)), some (.inl (nI key)), some (.inl (nI (key % 100000000)))] [.inl (nI (key / 100000000))] M := by
    rw [iX6_take, eX6_take_0, iX4_valueOf, eX4_valueOf_0, L100000000, q_rem (by omega) (by decide) (by decide)]
    simp only [bnd1, Option.toList_some, List.cons_append, List.nil_append, eX6_take_4]
    rw [iX4_sortOf, eX4_sortOf_0, L100000000, q_div (by omega) (by decide) (by decide)]
    simp only [bnd1, Option.toList_some, List.cons_append, List.nil_append]
  rw [hhead, eX6_take_9]
  generalize hsn : key / 100000000 = s at o2 o3 o4 hs
  generalize key % 100000000 = v at hv o4
  have ne : ∀ a : Nat, a ≤ 8 → s ≠ a → ¬ nI s = nI a := fun a ha h => by rw [q_eq (by omega) (by omega)]; exact h
  unfold takeS
  rw [L0, L1, L2, L3, L4, L5, L6, L7, L8]
  by_cases h0 : s = 0
  · rw [if_pos (by rw [h0]), if_pos h0]
    cases hh : S.2.2.2.1 with
    | none => exact absurd hh (o2 h0)
    | some f =>
      have h43 : M 4 3 = nI f ∧ f < F := by
        obtain ⟨vl, hb, sk, hd, ls, pl, n, st, sn, fl, wt, rf, rv, k0, k1⟩ := S
        have hh : hd = some f := hh
        have := hK.2.1
        rw [hh] at this
        exact ⟨this, hI.1.2.1 f hh⟩
      obtain ⟨M', a1, a2, a3⟩ := p_takeAnswer hG hK hI h43.2 (hI.2 f hh) hv hw
      refine ⟨M', ?_, a2, a3⟩
      rw [h43.1, a1]
      simp only [bnd1, Option.toList_some, List.cons_append, List.nil_append, eX6_take_69]
      rfl
  rw [if_neg (ne 0 (by omega) h0), if_neg h0]
  by_cases h1 : s = 1
  · rw [if_pos (by rw [h1]), if_pos h1]
    obtain ⟨M', a1, a2, a3⟩ := p_goBackX hG hK hI
    refine ⟨M', ?_, a2, a3⟩
    rw [a1]
    simp only [bnd1, Option.toList_some, List.cons_append, List.nil_append, eX6_take_74]
  rw [if_neg (ne 1 (by omega) h1), if_neg h1]
  by_cases h2 : s = 2
  · rw [if_pos (by rw [h2]), if_pos h2]
    obtain ⟨M', a1, a2, a3⟩ := p_skipX hG hK hI
    refine ⟨M', ?_, a2, a3⟩
    rw [a1]
    simp only [bnd1, Option.toList_some, List.cons_append, List.nil_append, eX6_take_79]
  rw [if_neg (ne 2 (by omega) h2), if_neg h2]
  by_cases h3 : s = 3
  · rw [if_pos (by rw [h3]), if_pos h3]
    exact ⟨M, rfl, hK, fun _ _ _ _ _ _ => rfl⟩
  rw [if_neg (ne 3 (by omega) h3), if_neg h3]
  by_cases h4 : s = 4
  · rw [if_pos (by rw [h4]), if_pos h4]
    obtain ⟨vl, hb, sk, hd, ls, pl, n, st, sn, fl, wt, rf, rv, k0, k1⟩ := S
    obtain ⟨c1, c2, c3, c4, c5, c6, c7, c8, c9, c10, c11⟩ := hK
    refine ⟨_, rfl, ⟨c1.fr hG (st2_nc _ (by decide)) (fun c j q => st2_nc _ (by omega)), ?_, ?_, ?_, fun i hi => ?_, by rw [st2_at], ?_, ?_, ?_, fun h => ?_, fun h => ?_⟩, fun c j q1 q2 q3 q4 => st2_nc _ q1⟩
    · rw [st2_nj' _ (by decide)]; exact c2
    · rw [st2_nj' _ (by decide)]; exact c3
    · rw [st2_nc _ (by decide)]; exact c4
    · rw [st2_nc _ (by decide)]; exact c5 i hi
    · rw [st2_nj' _ (by decide)]; exact c7
    · rw [st2_nj' _ (by decide)]; exact c8
    · rw [st2_nj' _ (by decide)]; exact c9
    · rw [st2_nj' _ (by decide), st2_nj' _ (by decide)]; exact c10 h
    · rw [st2_nj' _ (by decide), st2_nj' _ (by decide)]; exact c11 h
  rw [if_neg (ne 4 (by omega) h4), if_neg h4]
  by_cases h5 : s = 5
  · rw [if_pos (by rw [h5]), if_neg (by omega), if_neg (by omega)]
    exact ⟨M, rfl, hK, fun _ _ _ _ _ _ => rfl⟩
  rw [if_neg (ne 5 (by omega) h5)]
  by_cases h6 : s = 6
  · rw [if_pos (by rw [h6]), if_neg (by omega), if_neg (by omega)]
    exact ⟨M, rfl, hK, fun _ _ _ _ _ _ => rfl⟩
  rw [if_neg (ne 6 (by omega) h6)]
  by_cases h7 : s = 7
  · rw [if_pos (by rw [h7]), if_pos h7]
    obtain ⟨M', a1, a2, a3⟩ := p_goToX hG hK hI (o4 h7)
    refine ⟨M', ?_, a2, a3⟩
    rw [a1]
    simp only [bnd1, Option.toList_some, List.cons_append, List.nil_append, eX6_take_94]
  rw [if_neg (ne 7 (by omega) h7), if_neg h7]
  have h8 : s = 8 := by omega
  rw [if_pos (by rw [h8]), if_pos h8]
  cases hh : S.2.2.2.2.1 with
  | none => exact absurd hh (o3 h8)
  | some f =>
    have h44 : M 4 4 = nI f ∧ f < F ∧ ak G S.1 f = 1 := by
      obtain ⟨vl, hb, sk, hd, ls, pl, n, st, sn, fl, wt, rf, rv, k0, k1⟩ := S
      have hh : ls = some f := hh
      have := hK.2.2.1
      rw [hh] at this
      exact ⟨this, hI.1.2.2.1 f hh⟩
    obtain ⟨M', a1, a2, a3⟩ := p_takeAnswer hG hK hI h44.2.1 h44.2.2 hv hw
    refine ⟨M', ?_, a2, a3⟩
    rw [h44.1, a1]
    simp only [bnd1, Option.toList_some, List.cons_append, List.nil_append, eX6_take_104]
    rfl
