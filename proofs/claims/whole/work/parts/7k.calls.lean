/-! hearBack, send. -/
/-- m FIELDS from f on are heard back -/
def hbk (vl : Nat → Option Nat) (hb : Nat → Nat) (n : Nat) : Nat → Nat := fun f => if f < n then hv (vl f) else hb f
theorem c_hearBack {M : MM} (h : RR M) : OKc M (mX9_hearBack [.inr (some 0)]) (mX10_hearBack [.inr (some 19)]) := by
  obtain ⟨F, mi, G, wd, S, la, t, P, c, w, k, no, od, ne, hC, hH, hN⟩ := h
  obtain ⟨hG, hX, hM, hI, hRT, hokT, r5, r6, r26, r06, r33, hmi, rt, ru⟩ := id hC
  obtain ⟨vl, hb, sk, hd, ls, pl, n, st, sn, fl, wt, rf, rv, k0, k1⟩ := S
  obtain ⟨⟨i1, i2, i3, i4, i5, i6, i7, i8, i9, i10, i11⟩, iA⟩ := id hI
  have hF := hG.1
  have hv01 : ∀ f, hv (vl f) ≤ 1 := fun f => by unfold hv; split <;> omega
  have hstepf : ∀ i, (fun f => if f < i + 1 then hv (vl f) else hb f) = uq (fun f => if f < i then hv (vl f) else hb f) i (hv (vl i)) := fun i => by
    funext f
    show _ = (if f = i then hv (vl i) else (if f < i then hv (vl f) else hb f))
    by_cases h1 : f = i
    · rw [if_pos h1, h1, if_pos (by omega)]
    · rw [if_neg h1]
      by_cases h2 : f < i
      · rw [if_pos h2, if_pos (by omega)]
      · rw [if_neg h2, if_neg (by omega)]
  -- the class
  have loop9 : ∀ m i (M1 : MM) (a : Int32), i + m = F → KX M1 F G wd (vl, hbk vl hb i, sk, hd, ls, pl, n, st, sn, fl, wt, rf, rv, k0, k1) → ∃ M2 : MM, gX1_hearAllBack 7 [some (.inr (some 1)), some (.inl a), some (.inl (nI i))] [] M1 = some (some (.inl a), M2) ∧ KX M2 F G wd (vl, hbk vl hb F, sk, hd, ls, pl, n, st, sn, fl, wt, rf, rv, k0, k1) ∧ ∀ c j, ¬ (44 ≤ c ∧ c < 44 + F ∧ j = 11) → M2 c j = M1 c j := by
    intro m
    induction m with
    | zero =>
      intro i M1 a hi hK
      obtain rfl : i = F := by omega
      refine ⟨M1, ?_, hK, fun _ _ _ => rfl⟩
      rw [eX1_hearAllBack_7, hK.1.1.1, if_pos (nI_le (Nat.le_refl _) (by omega))]
    | succ m ih =>
      intro i M1 a hi hK
      have hz := zkd_slot (i := i) (by omega)
      have gi := gI (c := i) (N := 12) (by omega) (by omega)
      obtain ⟨⟨f1, f2, f3⟩, hr⟩ := id hK
      obtain ⟨d1, d2, d3, d4⟩ := f3 i (by omega)
      have h01 : nI (hv (vl i)) = 0 ∨ nI (hv (vl i)) = 1 := by
        cases vl i with
        | none => exact Or.inl rfl
        | some v => exact Or.inr rfl
      have hK2 : KX (st2 M1 (i + 44) 11 (nI (hv (vl i)))) F G wd (vl, hbk vl hb (i + 1), sk, hd, ls, pl, n, st, sn, fl, wt, rf, rv, k0, k1) := by
        obtain ⟨c2, c3, c4, c5, c6, c7, c8, c9, c10, c11⟩ := hr
        have e : ∀ c j, c < 44 → st2 M1 (i + 44) 11 (nI (hv (vl i))) c j = M1 c j := fun c j q => st2_nc _ (by omega)
        refine ⟨⟨f1.fr (e 1 1 (by omega)) (fun c j _ q => st2_nj' _ (by omega)) hG, fun g hg => (st2_nj' _ (by decide)).trans (f2 g hg), fun g hg => ?_⟩, (e 4 3 (by omega)).trans c2, (e 4 4 (by omega)).trans c3, (e 14 1 (by omega)).trans c4, fun i hi => (e 18 i (by omega)).trans (c5 i hi), (e 4 5 (by omega)).trans c6, (e 4 6 (by omega)).trans c7, (e 4 7 (by omega)).trans c8, (e 4 8 (by omega)).trans c9, fun q => ⟨(e 4 9 (by omega)).trans (c10 q).1, (e 4 10 (by omega)).trans (c10 q).2⟩, fun q => ⟨(e 4 11 (by omega)).trans (c11 q).1, (e 4 12 (by omega)).trans (c11 q).2⟩⟩
        obtain ⟨q1, q2, q3, q4⟩ := f3 g hg
        refine ⟨(st2_nj' _ (by decide)).trans q1, fun v e => (st2_nj' _ (by decide)).trans (q2 v e), ?_, (st2_nj' _ (by decide)).trans q4⟩
        have e2 : hbk vl hb (i + 1) = uq (hbk vl hb i) i (hv (vl i)) := hstepf i
        rw [e2]
        by_cases he : g = i
        · rw [he, st2_at, uq_at]
        · rw [st2_nc _ (by omega), uq_ne _ _ he]; exact q3
      obtain ⟨M2, b1, b2, b3⟩ := ih (i + 1) _ a (by omega) hK2
      refine ⟨M2, ?_, b2, fun c j q => by rw [b3 c j q]; exact (by
        by_cases hc : c = i + 44
        · exact st2_nj' _ (fun e => q ⟨by omega, by omega, e⟩)
        · exact st2_nc _ hc)⟩
      rw [eX1_hearAllBack_7, f1.1, if_neg (by rw [q_le (by omega) (by omega)]; omega), if_neg (by rw [L12, q_le (by omega) (by omega)]; omega), q_cl (show i < 2147483648 by omega), if_neg gi, if_neg gi, if_pos hz, if_pos hz, d1, if_pos h01, L1, q_add]
      exact b1
  -- the reference
  have loop10 : ∀ m i (M1 : MM) (a : Nat), i + m = F → KM M1 F G wd (vl, hbk vl hb i, sk, hd, ls, pl, n, st, sn, fl, wt, rf, rv, k0, k1) → ∃ M2 : MM, gX10_hearBack 4 [some (.inr (some 19)), some (.inl (nI a)), some (.inl (nI i))] [] M1 = some (some (.inl (nI (a + cU vl hb m i))), M2) ∧ KM M2 F G wd (vl, hbk vl hb F, sk, hd, ls, pl, n, st, sn, fl, wt, rf, rv, k0, k1) ∧ ∀ c j, ¬ (c = 29 ∧ j < F) → M2 c j = M1 c j := by
    intro m
    induction m with
    | zero =>
      intro i M1 a hi hK
      obtain rfl : i = F := by omega
      refine ⟨M1, ?_, hK, fun _ _ _ => rfl⟩
      rw [eX10_hearBack_4, hK.1.1, if_pos (nI_le (Nat.le_refl _) (by omega))]
      rfl
    | succ m ih =>
      intro i M1 a hi hK
      have gi := gI (c := i) (N := 12) (by omega) (by omega)
      obtain ⟨d1, dD, hr⟩ := id hK
      obtain ⟨q1, q2, q3⟩ := dD i (by omega)
      obtain ⟨j1, j2, j3, j4⟩ := i1 i (by omega)
      have hbi : hbk vl hb i i = hb i := if_neg (Nat.lt_irrefl i)
      rw [hbi] at q2
      have e2 : hbk vl hb (i + 1) = uq (hbk vl hb i) i (hv (vl i)) := hstepf i
      have same : hv (vl i) = hb i → hbk vl hb (i + 1) = hbk vl hb i := fun e => by
        rw [e2]
        funext g
        by_cases he : g = i
        · rw [he, uq_at, hbi]; exact e
        · rw [uq_ne _ _ he]
      have hV := VM_of d1 dD (fun g v hg e => ((i1 g hg).2.2.1 v e).1)
      rw [eX10_hearBack_4, d1.1, if_neg (by rw [q_le (by omega) (by omega)]; omega), q_cl (show i < 2147483648 by omega), if_neg gi, q1, L1, q_add]
      cases hx : vl i with
      | none =>
        have hb0 := j4 hx
        obtain ⟨M2, b1, b2, b3⟩ := ih (i + 1) M1 a (by omega) (by rw [same (by rw [hx, hb0]; rfl)]; exact hK)
        refine ⟨M2, ?_, b2, b3⟩
        rw [if_pos (show oI none < 0 by decide), b1]
        have : cU vl hb (m + 1) i = cU vl hb m (i + 1) := by
          show (if vl i ≠ none ∧ hb i = 0 then 1 else 0) + cU vl hb m (i + 1) = _
          rw [if_neg (fun e => e.1 hx), Nat.zero_add]
        rw [this]
      | some v =>
        obtain ⟨v8, vak⟩ := j3 v hx
        rw [if_neg (show ¬ oI (some v) < 0 by show ¬ nI v < 0; rw [L0, q_lt (by omega) (by omega)]; omega), p_isAsked hG hV (by omega)]
        simp only [bnd1, Option.toList_some, List.cons_append, List.nil_append, eX10_hearBack_26]
        rw [vak, if_neg (show ¬ nI 1 = 0 by decide), q_cl (show i < 2147483648 by omega), if_neg gi, q2, if_neg gi, L1, q_add, q_add]
        by_cases hb0 : hb i = 0
        · have hK2 : KM (st2 M1 29 i (nI 1)) F G wd (vl, hbk vl hb (i + 1), sk, hd, ls, pl, n, st, sn, fl, wt, rf, rv, k0, k1) := by
            obtain ⟨c2, c3, c4, c5, c6, c7, c8, c9, c10, c11⟩ := hr
            have e : ∀ c j, c ≠ 29 → st2 M1 29 i (nI 1) c j = M1 c j := fun c j q => st2_nc _ q
            refine ⟨d1.fr (e 19 0 (by decide)) (fun c j q1 q2 => e c j (by omega)), fun g hg => ?_, (e 19 29 (by decide)).trans c2, (e 19 30 (by decide)).trans c3, (e 19 31 (by decide)).trans c4, fun i hi => (e 40 i (by decide)).trans (c5 i hi), (e 19 27 (by decide)).trans c6, (e 19 28 (by decide)).trans c7, (e 19 34 (by decide)).trans c8, (e 19 32 (by decide)).trans c9, fun q => ⟨(e 19 36 (by decide)).trans (c10 q).1, (e 19 37 (by decide)).trans (c10 q).2⟩, fun q => ⟨⟨(e 41 0 (by decide)).trans (c11 q).1.1, (e 42 0 (by decide)).trans (c11 q).1.2⟩, (e 41 1 (by decide)).trans (c11 q).2.1, (e 42 1 (by decide)).trans (c11 q).2.2⟩⟩
            obtain ⟨u1, u2, u3⟩ := dD g hg
            refine ⟨(e _ _ (by decide)).trans u1, ?_, (e _ _ (by decide)).trans u3⟩
            rw [e2]
            by_cases he : g = i
            · rw [he, st2_at, uq_at, hx]; rfl
            · rw [st2_nj' _ he, uq_ne _ _ he]; exact u2
          obtain ⟨M2, b1, b2, b3⟩ := ih (i + 1) _ (a + 1) (by omega) hK2
          refine ⟨M2, ?_, b2, fun c j q => by rw [b3 c j q]; exact (by
            by_cases hc : c = 29
            · exact st2_nj' _ (fun e => q ⟨hc, by omega⟩)
            · exact st2_nc _ hc)⟩
          rw [if_pos (by rw [hb0]; rfl), b1]
          have : a + cU vl hb (m + 1) i = a + 1 + cU vl hb m (i + 1) := by
            show a + ((if vl i ≠ none ∧ hb i = 0 then 1 else 0) + cU vl hb m (i + 1)) = _
            rw [if_pos ⟨(by rw [hx]; exact fun e => (by cases e)), hb0⟩]
            omega
          rw [this]
        · obtain ⟨M2, b1, b2, b3⟩ := ih (i + 1) M1 a (by omega) (by rw [same (by rw [hx]; show 1 = hb i; omega)]; exact hK)
          refine ⟨M2, ?_, b2, b3⟩
          rw [if_neg (by rw [L0, q_eq (by omega) (by omega)]; exact hb0), b1]
          have : cU vl hb (m + 1) i = cU vl hb m (i + 1) := by
            show (if vl i ≠ none ∧ hb i = 0 then 1 else 0) + cU vl hb m (i + 1) = _
            rw [if_neg (fun e => hb0 e.2), Nat.zero_add]
          rw [this]
  have e0 : hbk vl hb 0 = hb := by funext f; exact if_neg (Nat.not_lt_zero f)
  obtain ⟨M1, a1, a2, a3⟩ := loop9 F 0 M (nI (cU vl hb F 0)) (by omega) (by rw [e0]; exact hX)
  have h9 : mX9_hearBack [.inr (some 0)] M = some (some (.inl (nI (cU vl hb F 0))), M1) := by
    rw [iX9_hearBack, eX9_hearBack_0, iX1_hearAllBack, eX1_hearAllBack_0, p_countUnheard hG hX.1 i1]
    simp only [bnd1, Option.toList_some, List.cons_append, List.nil_append, eX1_hearAllBack_4]
    rw [L0, a1]
    simp only [bnd1, Option.toList_some, List.cons_append, List.nil_append, eX9_hearBack_7]
  have hM1 : KM M1 F G wd (vl, hb, sk, hd, ls, pl, n, st, sn, fl, wt, rf, rv, k0, k1) := hM.fr (fun c j q1 q2 q3 q4 => a3 c j (by omega))
  obtain ⟨M2, b1, b2, b3⟩ := loop10 F 0 M1 0 (by omega) (by rw [e0]; exact hM1)
  have h10 : mX10_hearBack [.inr (some 19)] M1 = some (some (.inl (nI (cU vl hb F 0))), M2) := by
    rw [iX10_hearBack, eX10_hearBack_0, L0, b1, Nat.zero_add]
  have g : ∀ c j, ¬ (44 ≤ c ∧ c < 44 + F ∧ j = 11) → ¬ (c = 29 ∧ j < F) → M2 c j = M c j := fun c j q1 q2 => by rw [b3 c j q2, a3 c j q1]
  have hI' : IV F G (vl, hbk vl hb F, sk, hd, ls, pl, n, st, sn, fl, wt, rf, rv, k0, k1) := by
    refine ⟨⟨fun f hf => ?_, i2, i3, i4, i5, i6, i7, i8, i9, i10, i11⟩, iA⟩
    obtain ⟨j1, j2, j3, j4⟩ := i1 f hf
    have e : hbk vl hb F f = hv (vl f) := if_pos hf
    refine ⟨by rw [e]; exact hv01 f, j2, j3, fun hn => by rw [e, hn]; rfl⟩
  refine ⟨_, M1, M2, h9, h10, F, mi, G, wd, (vl, hbk vl hb F, sk, hd, ls, pl, n, st, sn, fl, wt, rf, rv, k0, k1), la, t, P, c, w, k, no, od, ne, hC.upd (a2.fr hG (fun c j q => b3 c j (by omega))) b2 hI' rfl (fun hl => ?_) (fun j => g 0 j (by omega) (by omega)) (fun j => g 11 j (by omega) (by omega)) (fun j => g 12 j (by omega) (by omega)) (fun j => g 43 j (by omega) (by omega)) (g 19 26 (by omega) (by omega)) (g 19 33 (by omega) (by omega)), hH.fr (fun c j q => g c j (by omega) (by omega)), hN.fr (fun j => g 3 j (by omega) (by omega)) (fun j q => g 19 j (by omega) (by omega))⟩
  obtain ⟨j1, j2, j3, j4, j5⟩ := ru hl
  refine ⟨j1, j2, j3, j4, fun f hf1 hf2 => ?_⟩
  obtain ⟨⟨k1, k2, k3, k4, k5, k6, k7, k8⟩, k9, k10, k11, k12, k13, k14⟩ := j5 f hf1 hf2
  have gs : ∀ j, M2 (f + 44) j = M (f + 44) j := fun j => g (f + 44) j (by omega) (by omega)
  exact ⟨⟨(gs 1).trans k1, (gs 2).trans k2, (gs 5).trans k3, (gs 6).trans k4, (gs 7).trans k5, (gs 9).trans k6, (gs 11).trans k7, (gs 12).trans k8⟩, (g 21 f (by omega) (by omega)).trans k9, (g 22 f (by omega) (by omega)).trans k10, (g 23 f (by omega) (by omega)).trans k11, (g 27 f (by omega) (by omega)).trans k12, (g 29 f (by omega) (by omega)).trans k13, (g 30 f (by omega) (by omega)).trans k14⟩
