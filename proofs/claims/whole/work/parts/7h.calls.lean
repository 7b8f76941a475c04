/-! say, goOn, told. -/
theorem CR.upd {M M' : MM} {F mi : Nat} {G wd : Nat → Nat → Nat} {S S' : CS} {la : Option Nat} {t : T2} (h : CR M F mi G wd S la t) (hX : KX M' F G wd S') (hM : KM M' F G wd S') (hI : IV F G S') (hfl : flS S' = flS S) (hU : la = none → UN M' F S') (h0 : ∀ j, M' 0 j = M 0 j) (h11 : ∀ j, M' 11 j = M 11 j) (h12 : ∀ j, M' 12 j = M 12 j) (h43 : ∀ j, M' 43 j = M 43 j) (h26 : M' 19 26 = M 19 26) (h33 : M' 19 33 = M 19 33) : CR M' F mi G wd S' la t := by
  obtain ⟨a1, a2, a3, a4, a5, a6, a7, a8, a9, a10, a11, a12, a13, a14⟩ := h
  refine ⟨a1, hX, hM, hI, a5.fr h11 h12, a6, (h0 5).trans a7, a8, h26.trans a9, (h0 6).trans a10, h33.trans a11, a12, fun hl => ?_, hU⟩
  obtain ⟨j1, j2, j3, j4⟩ := a13 hl
  exact ⟨(h43 0).trans j1, ⟨⟨(h43 1).trans j2.1.1, (h43 2).trans j2.1.2.1, (h43 3).trans j2.1.2.2⟩, (h43 4).trans j2.2.1, (h43 5).trans j2.2.2.1, (h43 6).trans j2.2.2.2⟩, by rw [h43 7, hfl]; exact j3, (h43 8).trans (j4.trans (h0 7).symm)⟩
theorem c_say {M : MM} (h : RR M) : OKc M (mX9_say [.inr (some 0)]) (mX10_say [.inr (some 19)]) := by
  obtain ⟨F, mi, G, wd, S, la, t0, P, c, w, k, no, od, ne, ⟨hG, hX, hM, hI, hRT, hokT, r5, r6, r26, r06, r33, hmi, rt, ru⟩, ⟨hW, hH, hm⟩, hN, ⟨n12, n13, n14⟩, b1, b2, b3⟩ := h
  obtain ⟨M1, t, a1, a2, a3, a4, a5, a6, a7, a8, a9, a10, a11, a12, a13, a14⟩ := p_sayX hG hX hI hW hH hN b1 b2 b3 r06 hmi
  have hM1 : KM M1 F G wd S := hM.fr (fun c j q1 q2 _ _ => a14 c j q1 (by omega))
  have hm1 : RHm M1 P c w k := hm.congr (a14 19 16 (by decide) (by decide)) (funext fun j => a14 32 j (by decide) (by decide)) (funext fun j => a14 33 j (by decide) (by decide)) (funext fun j => a14 34 j (by decide) (by decide))
  obtain ⟨M2, d1, d2, d3, d4, d5, d6, d7, d8, d9, d10, d11⟩ := p_saym hG hM1 hI hW hm1 ((a14 19 12 (by decide) (by decide)).trans n12) ((a14 19 13 (by decide) (by decide)).trans n13) ((a14 19 14 (by decide) (by decide)).trans n14) b1 b2 b3 ((a14 19 33 (by decide) (by decide)).trans r33) hmi a6 a7 a8
  have hmis : miS (sayS F G P ne t S).1 mi ≤ 9 := by unfold miS; split <;> (try split) <;> omega
  refine ⟨_, M1, M2, a1, d1, F, _, G, wd, (sayS F G P ne t S).2, some (sayS F G P ne t S).1, t, 0, c, w, k, no, od, ne, ⟨hG, a2.fr hG (fun c j q => d11 c j (by omega)), d2, a3, a5.fr (fun j => d11 11 j (by omega)) (fun j => d11 12 j (by omega)), a6, (d11 0 5 (by omega)).trans a9, fun a e => by cases e; exact a4, d9, (d11 0 6 (by omega)).trans a10, d4, hmis, fun _ => ⟨d5, d6, d7, ?_⟩, fun e => by cases e⟩, ⟨⟨by omega, fun p hp => absurd hp (Nat.not_lt_zero _)⟩, ⟨(d11 2 3 (by omega)).trans a12, fun p hp => absurd hp (Nat.not_lt_zero _)⟩, d3, fun p hp => absurd hp (Nat.not_lt_zero _)⟩, ⟨?_, ?_, ?_⟩, ⟨?_, ?_, ?_⟩, b1, b2, b3⟩
  · rw [d8, d11 0 7 (by omega), a11]
  · rw [d11 3 4 (by omega), a13 4]; exact hN.1
  · rw [d11 3 5 (by omega), a13 5]; exact hN.2.1
  · rw [d11 3 6 (by omega), a13 6]; exact hN.2.2
  · rw [d10 12 (by omega), a14 19 12 (by decide) (by decide)]; exact n12
  · rw [d10 13 (by omega), a14 19 13 (by decide) (by decide)]; exact n13
  · rw [d10 14 (by omega), a14 19 14 (by decide) (by decide)]; exact n14
theorem HR.fr {M M' : MM} {P : Nat} {c w k : Nat → Nat} (h : HR M P c w k) (hf : ∀ c' j, c' = 2 ∨ c' = 7 ∨ c' = 8 ∨ c' = 9 ∨ (c' = 19 ∧ j = 16) ∨ c' = 32 ∨ c' = 33 ∨ c' = 34 → M' c' j = M c' j) : HR M' P c w k := ⟨h.1, h.2.1.congr (hf 2 3 (by omega)) (funext fun j => hf 7 j (by omega)) (funext fun j => hf 8 j (by omega)) (funext fun j => hf 9 j (by omega)), h.2.2.congr (hf 19 16 (by omega)) (funext fun j => hf 32 j (by omega)) (funext fun j => hf 33 j (by omega)) (funext fun j => hf 34 j (by omega))⟩
theorem NR.fr {M M' : MM} {no od ne : Nat} (h : NR M no od ne) (h3 : ∀ j, M' 3 j = M 3 j) (h19 : ∀ j, j = 12 ∨ j = 13 ∨ j = 14 → M' 19 j = M 19 j) : NR M' no od ne := ⟨⟨(h3 4).trans h.1.1, (h3 5).trans h.1.2.1, (h3 6).trans h.1.2.2⟩, ⟨(h19 12 (by omega)).trans h.2.1.1, (h19 13 (by omega)).trans h.2.1.2.1, (h19 14 (by omega)).trans h.2.1.2.2⟩, h.2.2⟩
theorem c_goOn {M : MM} (h : RR M) : OKc M (mX9_goOn [.inr (some 0)]) (mX10_goOn [.inr (some 19)]) := by
  obtain ⟨F, mi, G, wd, S, la, t0, P, c, w, k, no, od, ne, hC, hH, hN⟩ := h
  obtain ⟨hG, hX, hM, hI, hRT, hokT, r5, r6, r26, r06, r33, hmi, rt, ru⟩ := id hC
  obtain ⟨vl, hb, sk, hd, ls, pl, n, st, sn, fl, wt, rf, rv, k0, k1⟩ := S
  obtain ⟨⟨i1, i2, i3, i4, i5, i6, i7, i8, i9, i10, i11⟩, iA⟩ := id hI
  obtain ⟨c1, c2, c3, c4, c5, c6, c7, c8, c9, c10, c11⟩ := id hX
  have e27 : M 19 27 = nI st := hM.2.2.2.2.2.2.1
  have g : ∀ c j, (c = 4 → j ≠ 5) → st2 M 4 5 (0 : Int32) c j = M c j := fun c j q => by
    by_cases hc : c = 4
    · exact st2_nj' _ (q hc)
    · exact st2_nc _ hc
  have hI' : IV F G (vl, hb, sk, hd, ls, pl, n, 0, sn, fl, wt, rf, rv, k0, k1) := ⟨⟨i1, i2, i3, i4, i5, Nat.zero_le _, i7, i8, i9, i10, i11⟩, iA⟩
  have hX' : KX (st2 M 4 5 (0 : Int32)) F G wd (vl, hb, sk, hd, ls, pl, n, 0, sn, fl, wt, rf, rv, k0, k1) := ⟨c1.fr hG (g 1 1 (by decide)) (fun c j q => g c j (fun e => by omega)), (g 4 3 (by decide)).trans c2, (g 4 4 (by decide)).trans c3, (g 14 1 (by decide)).trans c4, fun i hi => (g 18 i (fun e => by omega)).trans (c5 i hi), st2_at _ _ _ _, (g 4 6 (by decide)).trans c7, (g 4 7 (by decide)).trans c8, (g 4 8 (by decide)).trans c9, fun q => ⟨(g 4 9 (by decide)).trans (c10 q).1, (g 4 10 (by decide)).trans (c10 q).2⟩, fun q => ⟨(g 4 11 (by decide)).trans (c11 q).1, (g 4 12 (by decide)).trans (c11 q).2⟩⟩
  have h9 : mX9_goOn [.inr (some 0)] M = some (some (.inl (nI st)), st2 M 4 5 (0 : Int32)) := by
    rw [iX9_goOn, eX9_goOn_0, c6, if_pos]
    rcases (show st = 0 ∨ st = 1 by omega) with rfl | rfl
    · exact Or.inl rfl
    · exact Or.inr rfl
  have hU : ∀ M' : MM, (∀ f j, M' (f + 44) j = M (f + 44) j) → (∀ c j, 20 ≤ c → c ≤ 30 → M' c j = M c j) → la = none → UN M' F (vl, hb, sk, hd, ls, pl, n, 0, sn, fl, wt, rf, rv, k0, k1) := fun M' gs gm hl => by
    obtain ⟨j1, j2, j3, j4, j5⟩ := ru hl
    refine ⟨j1, j2, j3, j4, fun f hf1 hf2 => ?_⟩
    obtain ⟨⟨k1, k2, k3, k4, k5, k6, k7, k8⟩, k9, k10, k11, k12, k13, k14⟩ := j5 f hf1 hf2
    exact ⟨⟨(gs f 1).trans k1, (gs f 2).trans k2, (gs f 5).trans k3, (gs f 6).trans k4, (gs f 7).trans k5, (gs f 9).trans k6, (gs f 11).trans k7, (gs f 12).trans k8⟩, (gm 21 f (by decide) (by decide)).trans k9, (gm 22 f (by decide) (by decide)).trans k10, (gm 23 f (by decide) (by decide)).trans k11, (gm 27 f (by decide) (by decide)).trans k12, (gm 29 f (by decide) (by decide)).trans k13, (gm 30 f (by decide) (by decide)).trans k14⟩
  have e27' : st2 M 4 5 (0 : Int32) 19 27 = nI st := (g 19 27 (by decide)).trans e27
  rcases (show st = 0 ∨ st = 1 by omega) with rfl | rfl
  · refine ⟨_, _, st2 M 4 5 (0 : Int32), h9, ?_, F, mi, G, wd, (vl, hb, sk, hd, ls, pl, n, 0, sn, fl, wt, rf, rv, k0, k1), la, t0, P, c, w, k, no, od, ne, hC.upd hX' (hM.fr (fun c j q1 q2 q3 q4 => g c j (fun e => by omega))) hI' rfl (hU _ (fun f j => g _ j (fun e => by omega)) (fun c j q1 q2 => g c j (fun e => by omega))) (fun j => g 0 j (fun e => by omega)) (fun j => g 11 j (fun e => by omega)) (fun j => g 12 j (fun e => by omega)) (fun j => g 43 j (fun e => by omega)) (g 19 26 (by decide)) (g 19 33 (by decide)), hH.fr (fun c j q => g c j (fun e => by omega)), hN.fr (fun j => g 3 j (fun e => by omega)) (fun j q => g 19 j (fun e => by omega))⟩
    rw [iX10_goOn, eX10_goOn_0, e27', if_pos (show nI 0 = 0 from rfl), L0]
  · have g2 : ∀ c j, (c = 4 → j ≠ 5) → (c = 19 → j ≠ 27) → st2 (st2 M 4 5 (0 : Int32)) 19 27 (0 : Int32) c j = M c j := fun c j q1 q2 => by
      by_cases hc : c = 19
      · rw [st2_nj' _ (q2 hc)]; exact g c j q1
      · rw [st2_nc _ hc]; exact g c j q1
    have hM' : KM (st2 (st2 M 4 5 (0 : Int32)) 19 27 (0 : Int32)) F G wd (vl, hb, sk, hd, ls, pl, n, 0, sn, fl, wt, rf, rv, k0, k1) := by
      obtain ⟨d1, dD, d2, d3, d4, d5, d6, d7, d8, d9, d10, d11⟩ := hM
      exact ⟨d1.fr (g2 19 0 (by decide) (by decide)) (fun c j q1 q2 => g2 c j (fun e => by omega) (fun e => by omega)), dD.fr (fun c j q1 q2 => g2 c j (fun e => by omega) (fun e => by omega)), (g2 19 29 (by decide) (by decide)).trans d2, (g2 19 30 (by decide) (by decide)).trans d3, (g2 19 31 (by decide) (by decide)).trans d4, fun i hi => (g2 40 i (fun e => by omega) (fun e => by omega)).trans (d5 i hi), st2_at _ _ _ _, (g2 19 28 (by decide) (by decide)).trans d7, (g2 19 34 (by decide) (by decide)).trans d8, (g2 19 32 (by decide) (by decide)).trans d9, fun h => ⟨(g2 19 36 (by decide) (by decide)).trans (d10 h).1, (g2 19 37 (by decide) (by decide)).trans (d10 h).2⟩, fun h => ⟨⟨(g2 41 0 (by decide) (by decide)).trans (d11 h).1.1, (g2 42 0 (by decide) (by decide)).trans (d11 h).1.2⟩, (g2 41 1 (by decide) (by decide)).trans (d11 h).2.1, (g2 42 1 (by decide) (by decide)).trans (d11 h).2.2⟩⟩
    refine ⟨_, _, st2 (st2 M 4 5 (0 : Int32)) 19 27 (0 : Int32), h9, ?_, F, mi, G, wd, (vl, hb, sk, hd, ls, pl, n, 0, sn, fl, wt, rf, rv, k0, k1), la, t0, P, c, w, k, no, od, ne, hC.upd (hX'.fr hG (fun c j q => st2_nc _ (by omega))) hM' hI' rfl (hU _ (fun f j => g2 _ j (fun e => by omega) (fun e => by omega)) (fun c j q1 q2 => g2 c j (fun e => by omega) (fun e => by omega))) (fun j => g2 0 j (fun e => by omega) (fun e => by omega)) (fun j => g2 11 j (fun e => by omega) (fun e => by omega)) (fun j => g2 12 j (fun e => by omega) (fun e => by omega)) (fun j => g2 43 j (fun e => by omega) (fun e => by omega)) (g2 19 26 (by decide) (by decide)) (g2 19 33 (by decide) (by decide)), hH.fr (fun c j q => g2 c j (fun e => by omega) (fun e => by omega)), hN.fr (fun j => g2 3 j (fun e => by omega) (fun e => by omega)) (fun j q => g2 19 j (fun e => by omega) (fun e => by omega))⟩
    rw [iX10_goOn, eX10_goOn_0, e27', if_neg (show ¬ nI 1 = 0 by decide)]
    rfl
theorem ne_out {x : Int32} {n : Nat} (h : x < nI 0 ∨ nI n < x) (hn : n < 2147483648) (a : Nat) (ha : a ≤ n) : ¬ x = nI a := by
  rintro rfl
  rcases h with h | h
  · rw [q_lt (by omega) (by omega)] at h; omega
  · rw [q_lt (by omega) (by omega)] at h; omega
theorem c_told {M : MM} (h : RR M) (x : Int32) : OKc M (mX9_told [.inr (some 0), .inl x]) (mX10_told [.inr (some 19), .inl x]) := by
  have hR := h
  obtain ⟨F, mi, G, wd, S, la, t, P, c, w, k, no, od, ne, hC, hH, hN⟩ := h
  obtain ⟨hG, hX, hM, hI, hRT, hokT, r5, r6, r26, r06, r33, hmi, rt, ru⟩ := id hC
  have stay : ∀ a : Int32, mX9_told [.inr (some 0), .inl x] M = some (some (.inl a), M) → mX10_told [.inr (some 19), .inl x] M = some (some (.inl a), M) → OKc M (mX9_told [.inr (some 0), .inl x]) (mX10_told [.inr (some 19), .inl x]) := fun a p q => ⟨a, M, M, p, q, hR⟩
  cases la with
  | none =>
    refine stay (-nI 1) ?_ ?_
    · rw [iX9_told, eX9_told_0, r5, if_pos (show oI none = (-1 : Int32) from rfl)]
      rfl
    · rw [iX10_told, eX10_told_0, r26, if_pos (show nI (hv none) = 0 from rfl)]
      rfl
  | some a =>
    have ha := r6 a rfl
    obtain ⟨j0, ⟨⟨j1, j2, j3⟩, j4, j5, j6⟩, j7, j8⟩ := rt (fun e => by cases e)
    have ea : oI (some a) = nI a := rfl
    have e1 : ¬ oI (some a) = (-1 : Int32) := by
      show ¬ nI a = (-1 : Int32)
      rw [L1, q_m1e (by omega)]
      exact fun h => h
    have e26 : ¬ nI (hv (some a)) = 0 := by show ¬ nI 1 = 0; decide
    have k0 : rk2 t 0 = t.1 := rfl
    have k1 : rk2 t 1 = t.2 := rfl
    have e47 : M 4 7 = nI (flS S) := by
      obtain ⟨vl, hb, sk, hd, ls, pl, n, st, sn, fl, wt, rf, rv, k0, k1⟩ := S
      exact hX.2.2.2.2.2.2.2.1
    rcases rng x 8 (by omega) with ⟨b, hb, rfl⟩ | hx
    · have h10 : mX10_told [.inr (some 19), .inl (nI b)] M = some (some (.inl (M 43 b)), M) := by
        rw [iX10_told, eX10_told_0, r26, if_neg e26, L0, L8, p_isIn_in (Nat.zero_le _) hb (by omega)]
        simp only [bnd1, Option.toList_some, List.cons_append, List.nil_append, eX10_told_14]
        rw [if_neg (show ¬ nI 1 = 0 by decide), q_cl (show b < 2147483648 by omega), if_neg (gI (by omega) (by omega))]
      refine stay (M 43 b) ?_ h10
      rw [iX9_told, eX9_told_0, r5, if_neg e1]
      rcases (show b = 0 ∨ b = 1 ∨ b = 2 ∨ b = 3 ∨ b = 4 ∨ b = 5 ∨ b = 6 ∨ b = 7 ∨ b = 8 by omega) with rfl | rfl | rfl | rfl | rfl | rfl | rfl | rfl | rfl
      · rw [if_pos (by decide), j0]
      · rw [if_neg (by decide), if_pos (by decide), L0, p_sort4 hRT hokT (by omega), j1]
        simp only [bnd1, Option.toList_some, List.cons_append, List.nil_append, eX9_told_73]
        rfl
      · rw [if_neg (by decide), if_neg (by decide), if_pos (by decide), L0, p_value4 hRT hokT (by omega), j2]
        simp only [bnd1, Option.toList_some, List.cons_append, List.nil_append, eX9_told_82]
        rfl
      · rw [if_neg (by decide), if_neg (by decide), if_neg (by decide), if_pos (by decide), L0, p_cost4 hRT hokT (by omega), j3]
        simp only [bnd1, Option.toList_some, List.cons_append, List.nil_append, eX9_told_91]
        rfl
      · rw [if_neg (by decide), if_neg (by decide), if_neg (by decide), if_neg (by decide), if_pos (by decide), L1, p_sort4 hRT hokT (by omega), j4]
        simp only [bnd1, Option.toList_some, List.cons_append, List.nil_append, eX9_told_100]
        rfl
      · rw [if_neg (by decide), if_neg (by decide), if_neg (by decide), if_neg (by decide), if_neg (by decide), if_pos (by decide), L1, p_value4 hRT hokT (by omega), j5]
        simp only [bnd1, Option.toList_some, List.cons_append, List.nil_append, eX9_told_109]
        rfl
      · rw [if_neg (by decide), if_neg (by decide), if_neg (by decide), if_neg (by decide), if_neg (by decide), if_neg (by decide), if_pos (by decide), L1, p_cost4 hRT hokT (by omega), j6]
        simp only [bnd1, Option.toList_some, List.cons_append, List.nil_append, eX9_told_118]
        rfl
      · rw [if_neg (by decide), if_neg (by decide), if_neg (by decide), if_neg (by decide), if_neg (by decide), if_neg (by decide), if_neg (by decide), if_pos (by decide), j7, e47]
      · rw [if_neg (by decide), if_neg (by decide), if_neg (by decide), if_neg (by decide), if_neg (by decide), if_neg (by decide), if_neg (by decide), if_neg (by decide), if_pos (by decide), j8]
    · have nx := ne_out hx (by omega)
      refine stay (-nI 1) ?_ ?_
      · rw [iX9_told, eX9_told_0, r5, if_neg e1, L0, L1, L2, L3, L4, L5, L6, L7, L8, if_neg (nx 0 (by omega)), if_neg (nx 1 (by omega)), if_neg (nx 2 (by omega)), if_neg (nx 3 (by omega)), if_neg (nx 4 (by omega)), if_neg (nx 5 (by omega)), if_neg (nx 6 (by omega)), if_neg (nx 7 (by omega)), if_neg (nx 8 (by omega))]
      · rw [iX10_told, eX10_told_0, r26, if_neg e26, L0, L8, p_isIn_out hx]
        simp only [bnd1, Option.toList_some, List.cons_append, List.nil_append, eX10_told_14]
        rw [if_pos (show nI 0 = 0 from rfl)]
        rfl
