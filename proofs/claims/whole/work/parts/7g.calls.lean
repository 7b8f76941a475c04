/-! The relation of both systems, and the easy calls. -/
def UN (M : MM) (F : Nat) (S : CS) : Prop := (∀ f, f < F → S.1 f = none) ∧ hdS S = (if F = 0 then none else some 0) ∧ lsS S = none ∧ S.2.2.2.2.2.2.2.2.2.2.1 = 0 ∧ ∀ f, F ≤ f → f < 12 → (M (f + 44) 1 = nI 0 ∧ M (f + 44) 2 = nI 0 ∧ M (f + 44) 5 = nI 0 ∧ M (f + 44) 6 = -nI 1 ∧ M (f + 44) 7 = nI 0 ∧ M (f + 44) 9 = nI 0 ∧ M (f + 44) 11 = nI 0 ∧ M (f + 44) 12 = nI 0) ∧ M 21 f = nI 0 ∧ M 22 f = nI 0 ∧ M 23 f = nI 0 ∧ M 27 f = nI 0 ∧ M 29 f = nI 0 ∧ M 30 f = nI 0
def CR (M : MM) (F mi : Nat) (G wd : Nat → Nat → Nat) (S : CS) (la : Option Nat) (t : T2) : Prop := GW F G wd ∧ KX M F G wd S ∧ KM M F G wd S ∧ IV F G S ∧ RT M 11 12 0 t ∧ okT t ∧ M 0 5 = oI la ∧ (∀ a, la = some a → a ≤ 6) ∧ M 19 26 = nI (hv la) ∧ M 0 6 = nI mi ∧ M 19 33 = nI mi ∧ mi ≤ 9 ∧ (la ≠ none → M 43 0 = oI la ∧ TM M t ∧ M 43 7 = nI (flS S) ∧ M 43 8 = M 0 7) ∧ (la = none → UN M F S)
def HR (M : MM) (P : Nat) (c w k : Nat → Nat) : Prop := WH P c w k ∧ RHx M P c w k ∧ RHm M P c w k
def NR (M : MM) (no od ne : Nat) : Prop := RNx M no od ne ∧ (M 19 12 = nI no ∧ M 19 13 = nI od ∧ M 19 14 = nI ne) ∧ no ≤ 99 ∧ od ≤ 99 ∧ ne ≤ 200
def RR (M : MM) : Prop := ∃ (F mi : Nat) (G wd : Nat → Nat → Nat) (S : CS) (la : Option Nat) (t : T2) (P : Nat) (c w k : Nat → Nat) (no od ne : Nat), CR M F mi G wd S la t ∧ HR M P c w k ∧ NR M no od ne
/-- both answer alike, and stay related -/
def OKc (M : MM) (f9 f10 : MM → Option AR) : Prop := ∃ (a : Int32) (M1 M2 : MM), f9 M = some (some (.inl a), M1) ∧ f10 M1 = some (some (.inl a), M2) ∧ RR M2
theorem CR.fr {M M' : MM} {F mi : Nat} {G wd : Nat → Nat → Nat} {S : CS} {la : Option Nat} {t : T2} (h : CR M F mi G wd S la t) (hf : ∀ c j, c ≠ 2 → c ≠ 3 → c ≠ 5 → c ≠ 7 → c ≠ 8 → c ≠ 9 → (c = 19 → j ≠ 12 ∧ j ≠ 13 ∧ j ≠ 14 ∧ j ≠ 16) → ¬ (31 ≤ c ∧ c ≤ 39) → M' c j = M c j) : CR M' F mi G wd S la t := by
  obtain ⟨h1, h2, h3, h4, h5, h6, h7, h8, h9, h10, h11, h12, h13, h14⟩ := h
  have g : ∀ c j, c ≠ 2 → c ≠ 3 → c ≠ 5 → c ≠ 7 → c ≠ 8 → c ≠ 9 → c ≠ 19 → ¬ (31 ≤ c ∧ c ≤ 39) → M' c j = M c j := fun c j a b d e f i l m => hf c j a b d e f i (fun e => absurd e l) m
  have g0 : ∀ j, M' 0 j = M 0 j := fun j => g 0 j (by decide) (by decide) (by decide) (by decide) (by decide) (by decide) (by decide) (by decide)
  have g19 : ∀ j, j ≠ 12 → j ≠ 13 → j ≠ 14 → j ≠ 16 → M' 19 j = M 19 j := fun j a b d e => hf 19 j (by decide) (by decide) (by decide) (by decide) (by decide) (by decide) (fun _ => ⟨a, b, d, e⟩) (by decide)
  have g43 : ∀ j, M' 43 j = M 43 j := fun j => g 43 j (by decide) (by decide) (by decide) (by decide) (by decide) (by decide) (by decide) (by decide)
  refine ⟨h1, h2.fr h1 (fun c j q => g c j (by omega) (by omega) (by omega) (by omega) (by omega) (by omega) (by omega) (by omega)), h3.fr (fun c j q1 q2 q3 q4 => hf c j (by omega) (by omega) (by omega) (by omega) (by omega) (by omega) (fun e => by have := q4 e; omega) (by omega)), h4, h5.fr (fun j => g 11 j (by decide) (by decide) (by decide) (by decide) (by decide) (by decide) (by decide) (by decide)) (fun j => g 12 j (by decide) (by decide) (by decide) (by decide) (by decide) (by decide) (by decide) (by decide)), h6, (g0 5).trans h7, h8, (g19 26 (by decide) (by decide) (by decide) (by decide)).trans h9, (g0 6).trans h10, (g19 33 (by decide) (by decide) (by decide) (by decide)).trans h11, h12, fun hl => ?_, fun hl => ?_⟩
  · obtain ⟨j1, j2, j3, j4⟩ := h13 hl
    exact ⟨(g43 0).trans j1, ⟨⟨(g43 1).trans j2.1.1, (g43 2).trans j2.1.2.1, (g43 3).trans j2.1.2.2⟩, (g43 4).trans j2.2.1, (g43 5).trans j2.2.2.1, (g43 6).trans j2.2.2.2⟩, (g43 7).trans j3, (g43 8).trans (j4.trans (g0 7).symm)⟩
  · obtain ⟨j1, j2, j3, j4, j5⟩ := h14 hl
    refine ⟨j1, j2, j3, j4, fun f hf1 hf2 => ?_⟩
    obtain ⟨⟨k1, k2, k3, k4, k5, k6, k7, k8⟩, k9, k10, k11, k12, k13, k14⟩ := j5 f hf1 hf2
    have gs : ∀ j, M' (f + 44) j = M (f + 44) j := fun j => g (f + 44) j (by omega) (by omega) (by omega) (by omega) (by omega) (by omega) (by omega) (by omega)
    have gm : ∀ c, 20 ≤ c → c ≤ 30 → M' c f = M c f := fun c q1 q2 => g c f (by omega) (by omega) (by omega) (by omega) (by omega) (by omega) (by omega) (by omega)
    exact ⟨⟨(gs 1).trans k1, (gs 2).trans k2, (gs 5).trans k3, (gs 6).trans k4, (gs 7).trans k5, (gs 9).trans k6, (gs 11).trans k7, (gs 12).trans k8⟩, (gm 21 (by decide) (by decide)).trans k9, (gm 22 (by decide) (by decide)).trans k10, (gm 23 (by decide) (by decide)).trans k11, (gm 27 (by decide) (by decide)).trans k12, (gm 29 (by decide) (by decide)).trans k13, (gm 30 (by decide) (by decide)).trans k14⟩
theorem c_place {M : MM} (h : RR M) : OKc M (mX9_place [.inr (some 0)]) (mX10_place [.inr (some 19)]) := by
  obtain ⟨F, mi, G, wd, S, la, t, P, c, w, k, no, od, ne, hC, ⟨hW, hH, hm⟩, hN, hNm, hb⟩ := h
  have h8 := hW.1
  have a9 := p_place9 h8 hH.1
  by_cases hP : P < 8
  · rw [if_pos hP] at a9
    have e16 : st2 (st2 M 9 P (nI 0)) 2 3 (nI (P + 1)) 19 16 = nI P := by rw [st2_nc _ (by decide), st2_nc _ (by decide)]; exact hm.1
    have a10 := p_place10 h8 e16
    rw [if_pos hP] at a10
    refine ⟨_, _, _, a9, a10, F, mi, G, wd, S, la, t, P + 1, uq c P 0, w, k, no, od, ne, hC.fr (fun c j q1 q2 q3 q4 q5 q6 q7 q8 => ?_), ⟨⟨by omega, fun p hp => ?_⟩, ⟨?_, fun p hp => ?_⟩, ?_, fun p hp => ?_⟩, ⟨?_, ?_, ?_⟩, ⟨?_, ?_, ?_⟩, hb⟩
    · by_cases hc : c = 19
      · rw [st2_nj' _ (q7 hc).2.2.2, st2_nc _ (by omega), st2_nc _ q1, st2_nc _ q6]
      · rw [st2_nc _ hc, st2_nc _ (by omega), st2_nc _ q1, st2_nc _ q6]
    · by_cases he : p = P
      · rw [he, uq_at]
        exact ⟨Nat.zero_le _, fun i hi => absurd hi (Nat.not_lt_zero _), fun i j hi => absurd hi (Nat.not_lt_zero _)⟩
      · rw [uq_ne _ _ he]; exact hW.2 p (by omega)
    · rw [st2_nc _ (by decide), st2_nc _ (by decide), st2_at]
    · rw [st2_nc _ (by decide), st2_nc _ (by decide), st2_nc _ (by decide)]
      by_cases he : p = P
      · rw [he, uq_at, st2_at]
        exact ⟨rfl, fun i hi => absurd hi (Nat.not_lt_zero _)⟩
      · rw [uq_ne _ _ he, st2_nj' _ he]
        refine ⟨(hH.2 p (by omega)).1, fun i hi => ?_⟩
        obtain ⟨j1, j2⟩ := (hH.2 p (by omega)).2 i hi
        exact ⟨by rw [st2_nc _ (by decide), st2_nc _ (by decide), st2_nc _ (by decide), st2_nc _ (by decide)]; exact j1, by rw [st2_nc _ (by decide), st2_nc _ (by decide), st2_nc _ (by decide), st2_nc _ (by decide)]; exact j2⟩
    · rw [st2_at]
    · rw [st2_nc _ (by decide)]
      by_cases he : p = P
      · rw [he, uq_at, st2_at]
        exact ⟨rfl, fun i hi => absurd hi (Nat.not_lt_zero _)⟩
      · rw [uq_ne _ _ he, st2_nj' _ he, st2_nc _ (by decide), st2_nc _ (by decide)]
        refine ⟨(hm.2 p (by omega)).1, fun i hi => ?_⟩
        obtain ⟨j1, j2⟩ := (hm.2 p (by omega)).2 i hi
        exact ⟨by rw [st2_nc _ (by decide), st2_nc _ (by decide), st2_nc _ (by decide), st2_nc _ (by decide)]; exact j1, by rw [st2_nc _ (by decide), st2_nc _ (by decide), st2_nc _ (by decide), st2_nc _ (by decide)]; exact j2⟩
    · rw [st2_nc _ (by decide), st2_nc _ (by decide), st2_nc _ (by decide), st2_nc _ (by decide)]; exact hN.1
    · rw [st2_nc _ (by decide), st2_nc _ (by decide), st2_nc _ (by decide), st2_nc _ (by decide)]; exact hN.2.1
    · rw [st2_nc _ (by decide), st2_nc _ (by decide), st2_nc _ (by decide), st2_nc _ (by decide)]; exact hN.2.2
    · rw [st2_nj' _ (by decide), st2_nc _ (by decide), st2_nc _ (by decide), st2_nc _ (by decide)]; exact hNm.1
    · rw [st2_nj' _ (by decide), st2_nc _ (by decide), st2_nc _ (by decide), st2_nc _ (by decide)]; exact hNm.2.1
    · rw [st2_nj' _ (by decide), st2_nc _ (by decide), st2_nc _ (by decide), st2_nc _ (by decide)]; exact hNm.2.2
  · rw [if_neg hP] at a9
    have a10 := p_place10 h8 hm.1
    rw [if_neg hP] at a10
    exact ⟨_, _, _, a9, a10, F, mi, G, wd, S, la, t, P, c, w, k, no, od, ne, hC, ⟨hW, hH, hm⟩, hN, hNm, hb⟩
theorem c_word {M : MM} (h : RR M) (x1 x2 : Int32) : OKc M (mX9_word [.inr (some 0), .inl x1, .inl x2]) (mX10_word [.inr (some 19), .inl x1, .inl x2]) := by
  obtain ⟨F, mi, G, wd, S, la, t, P, c, w, k, no, od, ne, hC, ⟨hW, hH, hm⟩, hN, hNm, hb⟩ := h
  have h8 := hW.1
  by_cases ho : ∃ a b, a ≤ 59 ∧ b ≤ 99 ∧ x1 = nI a ∧ x2 = nI b ∧ okW P c w a
  · obtain ⟨a, b, ha, hb2, rfl, rfl, ho⟩ := ho
    have a9 := p_word9_ok hW hH ha hb2 ho
    obtain ⟨o1, o2, o3⟩ := ho
    have o3' := fnd_none o3
    have f9 : ∀ c' j, c' ≠ 7 → c' ≠ 8 → c' ≠ 9 → Mw9 M (P - 1) (c (P - 1)) a b c' j = M c' j := fun c' j q1 q2 q3 => by
      unfold Mw9
      rw [st2_nc _ q3, st2_nc _ q2, st2_nc _ q1]
    have hm1 : RHm (Mw9 M (P - 1) (c (P - 1)) a b) P c w k := hm.congr (f9 19 16 (by decide) (by decide) (by decide)) (funext fun j => f9 32 j (by decide) (by decide) (by decide)) (funext fun j => f9 33 j (by decide) (by decide) (by decide)) (funext fun j => f9 34 j (by decide) (by decide) (by decide))
    have a10 := p_word10_ok hW hm1 ha hb2 ⟨o1, o2, o3⟩
    have f10 : ∀ c' j, c' ≠ 32 → c' ≠ 33 → c' ≠ 34 → Mw10 (Mw9 M (P - 1) (c (P - 1)) a b) (P - 1) (c (P - 1)) a b c' j = Mw9 M (P - 1) (c (P - 1)) a b c' j := fun c' j q1 q2 q3 => by
      unfold Mw10
      rw [st2_nc _ q1, st2_nc _ q3, st2_nc _ q2]
    have f2 : ∀ c' j, c' ≠ 7 → c' ≠ 8 → c' ≠ 9 → c' ≠ 32 → c' ≠ 33 → c' ≠ 34 → Mw10 (Mw9 M (P - 1) (c (P - 1)) a b) (P - 1) (c (P - 1)) a b c' j = M c' j := fun c' j q1 q2 q3 q4 q5 q6 => by rw [f10 c' j q4 q5 q6, f9 c' j q1 q2 q3]
    have r7 : ∀ j, Mw9 M (P - 1) (c (P - 1)) a b 7 j = if j = 4 * (P - 1) + c (P - 1) then nI a else M 7 j := fun j => by
      unfold Mw9
      rw [st2_nc _ (by decide), st2_nc _ (by decide), st2_if]
    have r8 : ∀ j, Mw9 M (P - 1) (c (P - 1)) a b 8 j = if j = 4 * (P - 1) + c (P - 1) then nI b else M 8 j := fun j => by
      unfold Mw9
      rw [st2_nc _ (by decide), st2_if, st2_nc _ (by decide)]
    have r33 : ∀ j, Mw10 (Mw9 M (P - 1) (c (P - 1)) a b) (P - 1) (c (P - 1)) a b 33 j = if j = 4 * (P - 1) + c (P - 1) then nI a else Mw9 M (P - 1) (c (P - 1)) a b 33 j := fun j => by
      unfold Mw10
      rw [st2_nc _ (by decide), st2_nc _ (by decide), st2_if]
    have r34 : ∀ j, Mw10 (Mw9 M (P - 1) (c (P - 1)) a b) (P - 1) (c (P - 1)) a b 34 j = if j = 4 * (P - 1) + c (P - 1) then nI b else Mw9 M (P - 1) (c (P - 1)) a b 34 j := fun j => by
      unfold Mw10
      rw [st2_nc _ (by decide), st2_if, st2_nc _ (by decide)]
    have hidx : ∀ p i, p < P → i < 4 → 4 * p + i = 4 * (P - 1) + c (P - 1) → p = P - 1 ∧ i = c (P - 1) := fun p i _ _ e => by omega
    refine ⟨_, _, _, a9, a10, F, mi, G, wd, S, la, t, P, uq c (P - 1) (c (P - 1) + 1), uq w (4 * (P - 1) + c (P - 1)) a, uq k (4 * (P - 1) + c (P - 1)) b, no, od, ne, hC.fr (fun c' j q1 q2 q3 q4 q5 q6 q7 q8 => f2 c' j q4 q5 q6 (by omega) (by omega) (by omega)), ⟨⟨h8, fun p hp => ?_⟩, ⟨?_, fun p hp => ?_⟩, ?_, fun p hp => ?_⟩, ⟨?_, ?_, ?_⟩, ⟨?_, ?_, ?_⟩, hb⟩
    · obtain ⟨g1, g2, g3⟩ := hW.2 p hp
      by_cases he : p = P - 1
      · subst he
        rw [uq_at]
        refine ⟨by omega, fun i hi => ?_, fun i j hi hj e => ?_⟩
        · by_cases hi2 : i = c (P - 1)
          · rw [hi2, uq_at, uq_at]; exact ⟨ha, hb2⟩
          · rw [uq_ne _ _ (by omega), uq_ne _ _ (by omega)]; exact g2 i (by omega)
        · by_cases hi2 : i = c (P - 1)
          · by_cases hj2 : j = c (P - 1)
            · omega
            · rw [hi2, uq_at, uq_ne _ _ (by omega)] at e
              exact absurd e.symm (o3' j (Nat.zero_le _) (by omega))
          · by_cases hj2 : j = c (P - 1)
            · rw [hj2, uq_at, uq_ne _ _ (by omega)] at e
              exact absurd e (o3' i (Nat.zero_le _) (by omega))
            · rw [uq_ne _ _ (by omega), uq_ne _ _ (by omega)] at e
              exact g3 i j (by omega) (by omega) e
      · rw [uq_ne _ _ he]
        refine ⟨g1, fun i hi => ?_, fun i j hi hj e => ?_⟩
        · rw [uq_ne _ _ (by omega), uq_ne _ _ (by omega)]; exact g2 i hi
        · rw [uq_ne _ _ (by omega), uq_ne _ _ (by omega)] at e
          exact g3 i j hi hj e
    · rw [f2 2 3 (by decide) (by decide) (by decide) (by decide) (by decide) (by decide)]; exact hH.1
    · rw [f10 9 p (by decide) (by decide) (by decide)]
      have g1 := (hW.2 p hp).1
      have e9 : Mw9 M (P - 1) (c (P - 1)) a b 9 p = nI (uq c (P - 1) (c (P - 1) + 1) p) := by
        unfold Mw9
        by_cases he : p = P - 1
        · rw [he, st2_at, uq_at]
        · rw [st2_nj' _ he, st2_nc _ (by decide), st2_nc _ (by decide), uq_ne _ _ he]; exact (hH.2 p hp).1
      refine ⟨e9, fun i hi => ?_⟩
      rw [f10 7 _ (by decide) (by decide) (by decide), f10 8 _ (by decide) (by decide) (by decide)]
      rw [r7, r8]
      by_cases he : 4 * p + i = 4 * (P - 1) + c (P - 1)
      · rw [he, uq_at, uq_at, if_pos rfl, if_pos rfl]; exact ⟨rfl, rfl⟩
      · have hic : i < c p := by
          by_cases hp2 : p = P - 1
          · subst hp2; rw [uq_at] at hi; omega
          · rw [uq_ne _ _ hp2] at hi; exact hi
        rw [uq_ne _ _ he, uq_ne _ _ he, if_neg he, if_neg he]
        exact (hH.2 p hp).2 i hic
    · rw [f2 19 16 (by decide) (by decide) (by decide) (by decide) (by decide) (by decide)]; exact hm.1
    · have g1 := (hW.2 p hp).1
      have e9 : Mw10 (Mw9 M (P - 1) (c (P - 1)) a b) (P - 1) (c (P - 1)) a b 32 p = nI (uq c (P - 1) (c (P - 1) + 1) p) := by
        unfold Mw10
        by_cases he : p = P - 1
        · rw [he, st2_at, uq_at]
        · rw [st2_nj' _ he, st2_nc _ (by decide), st2_nc _ (by decide), uq_ne _ _ he]; exact (hm1.2 p hp).1
      refine ⟨e9, fun i hi => ?_⟩
      rw [r33, r34]
      by_cases he : 4 * p + i = 4 * (P - 1) + c (P - 1)
      · rw [he, uq_at, uq_at, if_pos rfl, if_pos rfl]; exact ⟨rfl, rfl⟩
      · have hic : i < c p := by
          by_cases hp2 : p = P - 1
          · subst hp2; rw [uq_at] at hi; omega
          · rw [uq_ne _ _ hp2] at hi; exact hi
        rw [uq_ne _ _ he, uq_ne _ _ he, if_neg he, if_neg he]
        exact (hm1.2 p hp).2 i hic
    · rw [f2 3 4 (by decide) (by decide) (by decide) (by decide) (by decide) (by decide)]; exact hN.1
    · rw [f2 3 5 (by decide) (by decide) (by decide) (by decide) (by decide) (by decide)]; exact hN.2.1
    · rw [f2 3 6 (by decide) (by decide) (by decide) (by decide) (by decide) (by decide)]; exact hN.2.2
    · rw [f2 19 12 (by decide) (by decide) (by decide) (by decide) (by decide) (by decide)]; exact hNm.1
    · rw [f2 19 13 (by decide) (by decide) (by decide) (by decide) (by decide) (by decide)]; exact hNm.2.1
    · rw [f2 19 14 (by decide) (by decide) (by decide) (by decide) (by decide) (by decide)]; exact hNm.2.2
  · have hno : ∀ a b, a ≤ 59 → b ≤ 99 → x1 = nI a → x2 = nI b → ¬ okW P c w a := fun a b q1 q2 q3 q4 q5 => ho ⟨a, b, q1, q2, q3, q4, q5⟩
    exact ⟨_, _, _, p_word9_no hW hH x1 x2 hno, p_word10_no hW hm x1 x2 hno, F, mi, G, wd, S, la, t, P, c, w, k, no, od, ne, hC, ⟨hW, hH, hm⟩, hN, hNm, hb⟩
theorem c_costs {M : MM} (h : RR M) (x1 x2 x3 : Int32) : OKc M (mX9_costs [.inr (some 0), .inl x1, .inl x2, .inl x3]) (mX10_costs [.inr (some 19), .inl x1, .inl x2, .inl x3]) := by
  have hR := h
  obtain ⟨F, mi, G, wd, S, la, t, P, c, w, k, no, od, ne, hC, ⟨hW, hH, hm⟩, hN, hNm, hb⟩ := h
  have stay : mX9_costs [.inr (some 0), .inl x1, .inl x2, .inl x3] M = some (some (.inl 0), M) → mX10_costs [.inr (some 19), .inl x1, .inl x2, .inl x3] M = some (some (.inl 0), M) → OKc M (mX9_costs [.inr (some 0), .inl x1, .inl x2, .inl x3]) (mX10_costs [.inr (some 19), .inl x1, .inl x2, .inl x3]) := fun a b => ⟨0, M, M, a, b, hR⟩
  have i9 : ∀ (M : MM) (x : Int32) (n : Nat), n < 2147483647 → ((∃ a, a ≤ n ∧ x = nI a) ∧ mX9_isWithin [.inl x, .inl (nI n)] M = some (some (.inl (nI 1)), M) ∧ mX10_isIn [.inl x, .inl (nI 0), .inl (nI n)] M = some (some (.inl (nI 1)), M)) ∨ (mX9_isWithin [.inl x, .inl (nI n)] M = some (some (.inl (nI 0)), M) ∧ mX10_isIn [.inl x, .inl (nI 0), .inl (nI n)] M = some (some (.inl (nI 0)), M)) := by
    intro M x n hn
    rcases rng x n hn with ⟨a, ha, rfl⟩ | hx
    · exact Or.inl ⟨⟨a, ha, rfl⟩, p_isWithin_in ha (by omega), p_isIn_in (Nat.zero_le _) ha (by omega)⟩
    · exact Or.inr ⟨p_isWithin_out hx, p_isIn_out hx⟩
  rcases i9 M x1 99 (by omega) with ⟨⟨a1, b1, rfl⟩, u1, u2⟩ | ⟨u1, u2⟩
  · rcases i9 M x2 99 (by omega) with ⟨⟨a2, b2, rfl⟩, v1, v2⟩ | ⟨v1, v2⟩
    · rcases i9 M x3 200 (by omega) with ⟨⟨a3, b3, rfl⟩, w1, w2⟩ | ⟨w1, w2⟩
      · have f9 : ∀ c' j, c' ≠ 3 → st2 (st2 (st2 M 3 4 (nI a1)) 3 5 (nI a2)) 3 6 (nI a3) c' j = M c' j := fun c' j q => by rw [st2_nc _ q, st2_nc _ q, st2_nc _ q]
        refine ⟨1, st2 (st2 (st2 M 3 4 (nI a1)) 3 5 (nI a2)) 3 6 (nI a3), st2 (st2 (st2 (st2 (st2 (st2 M 3 4 (nI a1)) 3 5 (nI a2)) 3 6 (nI a3)) 19 12 (nI a1)) 19 13 (nI a2)) 19 14 (nI a3), ?_, ?_, F, mi, G, wd, S, la, t, P, c, w, k, a1, a2, a3, hC.fr (fun c' j q1 q2 q3 q4 q5 q6 q7 q8 => ?_), ⟨hW, hH.congr ?_ ?_ ?_ ?_, hm.congr ?_ ?_ ?_ ?_⟩, ⟨?_, ?_, ?_⟩, ⟨?_, ?_, ?_⟩, b1, b2, b3⟩
        · rw [iX9_costs, eX9_costs_0, L99, u1]
          simp only [bnd1, Option.toList_some, List.cons_append, List.nil_append, eX9_costs_6]
          rw [if_neg (show ¬ nI 1 = 0 by decide), L99, v1]
          simp only [bnd1, Option.toList_some, List.cons_append, List.nil_append, eX9_costs_15]
          rw [if_neg (show ¬ nI 1 = 0 by decide), L200, w1]
          simp only [bnd1, Option.toList_some, List.cons_append, List.nil_append, eX9_costs_25]
          rw [if_neg (show ¬ nI 1 = 0 by decide)]
        · obtain ⟨u, hu⟩ : ∃ u, u = st2 (st2 (st2 M 3 4 (nI a1)) 3 5 (nI a2)) 3 6 (nI a3) := ⟨_, rfl⟩
          rw [← hu, iX10_costs, eX10_costs_0, L0, L99, p_isIn_in (Nat.zero_le _) b1 (by omega)]
          simp only [bnd1, Option.toList_some, List.cons_append, List.nil_append, eX10_costs_7]
          rw [if_neg (show ¬ nI 1 = 0 by decide), L0, L99, p_isIn_in (Nat.zero_le _) b2 (by omega)]
          simp only [bnd1, Option.toList_some, List.cons_append, List.nil_append, eX10_costs_17]
          rw [if_neg (show ¬ nI 1 = 0 by decide), L0, L200, p_isIn_in (Nat.zero_le _) b3 (by omega)]
          simp only [bnd1, Option.toList_some, List.cons_append, List.nil_append, eX10_costs_28]
          rw [if_neg (show ¬ nI 1 = 0 by decide)]
        · by_cases hc : c' = 19
          · obtain ⟨r1, r2, r3, r4⟩ := q7 hc
            rw [st2_nj' _ r3, st2_nj' _ r2, st2_nj' _ r1]; exact f9 c' j q2
          · rw [st2_nc _ hc, st2_nc _ hc, st2_nc _ hc]; exact f9 c' j q2
        · rw [st2_nc _ (by decide), st2_nc _ (by decide), st2_nc _ (by decide)]; exact f9 2 3 (by decide)
        · funext j; rw [st2_nc _ (by decide), st2_nc _ (by decide), st2_nc _ (by decide)]; exact f9 7 j (by decide)
        · funext j; rw [st2_nc _ (by decide), st2_nc _ (by decide), st2_nc _ (by decide)]; exact f9 8 j (by decide)
        · funext j; rw [st2_nc _ (by decide), st2_nc _ (by decide), st2_nc _ (by decide)]; exact f9 9 j (by decide)
        · rw [st2_nj' _ (by decide), st2_nj' _ (by decide), st2_nj' _ (by decide)]; exact f9 19 16 (by decide)
        · funext j; rw [st2_nc _ (by decide), st2_nc _ (by decide), st2_nc _ (by decide)]; exact f9 32 j (by decide)
        · funext j; rw [st2_nc _ (by decide), st2_nc _ (by decide), st2_nc _ (by decide)]; exact f9 33 j (by decide)
        · funext j; rw [st2_nc _ (by decide), st2_nc _ (by decide), st2_nc _ (by decide)]; exact f9 34 j (by decide)
        · simp (disch := omega) only [st2_nc, st2_nj, st2_at]
        · simp (disch := omega) only [st2_nc, st2_nj, st2_at]
        · simp (disch := omega) only [st2_nc, st2_nj, st2_at]
        · simp (disch := omega) only [st2_nc, st2_nj, st2_at]
        · simp (disch := omega) only [st2_nc, st2_nj, st2_at]
        · simp (disch := omega) only [st2_nc, st2_nj, st2_at]
      · refine stay ?_ ?_
        · rw [iX9_costs, eX9_costs_0, L99, u1]
          simp only [bnd1, Option.toList_some, List.cons_append, List.nil_append, eX9_costs_6]
          rw [if_neg (show ¬ nI 1 = 0 by decide), L99, v1]
          simp only [bnd1, Option.toList_some, List.cons_append, List.nil_append, eX9_costs_15]
          rw [if_neg (show ¬ nI 1 = 0 by decide), L200, w1]
          simp only [bnd1, Option.toList_some, List.cons_append, List.nil_append, eX9_costs_25]
          rw [if_pos (show nI 0 = 0 from rfl)]
        · rw [iX10_costs, eX10_costs_0, L0, L99, u2]
          simp only [bnd1, Option.toList_some, List.cons_append, List.nil_append, eX10_costs_7]
          rw [if_neg (show ¬ nI 1 = 0 by decide), L0, L99, v2]
          simp only [bnd1, Option.toList_some, List.cons_append, List.nil_append, eX10_costs_17]
          rw [if_neg (show ¬ nI 1 = 0 by decide), L0, L200, w2]
          simp only [bnd1, Option.toList_some, List.cons_append, List.nil_append, eX10_costs_28]
          rw [if_pos (show nI 0 = 0 from rfl)]
          rfl
    · refine stay ?_ ?_
      · rw [iX9_costs, eX9_costs_0, L99, u1]
        simp only [bnd1, Option.toList_some, List.cons_append, List.nil_append, eX9_costs_6]
        rw [if_neg (show ¬ nI 1 = 0 by decide), L99, v1]
        simp only [bnd1, Option.toList_some, List.cons_append, List.nil_append, eX9_costs_15]
        rw [if_pos (show nI 0 = 0 from rfl)]
      · rw [iX10_costs, eX10_costs_0, L0, L99, u2]
        simp only [bnd1, Option.toList_some, List.cons_append, List.nil_append, eX10_costs_7]
        rw [if_neg (show ¬ nI 1 = 0 by decide), L0, L99, v2]
        simp only [bnd1, Option.toList_some, List.cons_append, List.nil_append, eX10_costs_17]
        rw [if_pos (show nI 0 = 0 from rfl)]
        rfl
  · refine stay ?_ ?_
    · rw [iX9_costs, eX9_costs_0, L99, u1]
      simp only [bnd1, Option.toList_some, List.cons_append, List.nil_append, eX9_costs_6]
      rw [if_pos (show nI 0 = 0 from rfl)]
    · rw [iX10_costs, eX10_costs_0, L0, L99, u2]
      simp only [bnd1, Option.toList_some, List.cons_append, List.nil_append, eX10_costs_7]
      rw [if_pos (show nI 0 = 0 from rfl)]
      rfl
