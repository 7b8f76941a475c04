/-! What is taken: the class. -/
def answS (F : Nat) (G : Nat → Nat → Nat) (f v : Nat) : CS → Nat × CS
  | (vl, hb, sk, hd, ls, pl, n, st, sn, fl, wt, rf, rv, k) => if G 3 f = 1 ∧ G 2 f = 0 then (3, (vl, hb, sk, hd, ls, pl, n, st, sn, fl, 1, f, v, k)) else (4, keepS F G f v 0 (vl, hb, sk, hd, ls, pl, n, st, sn, fl, wt, rf, rv, k))
def bkS (G : Nat → Nat → Nat) (vl : Nat → Option Nat) (pl : Nat → Nat) : Nat → Option Nat × Nat
  | 0 => (none, 0)
  | n + 1 => if ak G vl (pl n) = 1 then (some (pl n), n) else bkS G vl pl n
def backT (vl : Nat → Option Nat) (hb sk : Nat → Nat) (hd ls : Option Nat) (pl : Nat → Nat) (r : Nat × Nat × Nat × Nat × Nat × Nat × Nat × Nat) : Option Nat × Nat → Nat × CS
  | (none, m) => (6, (vl, hb, sk, hd, ls, pl, m, r))
  | (some f, m) => (5, (vl, hb, sk, some f, ls, pl, m, r))
def backS (G : Nat → Nat → Nat) : CS → Nat × CS
  | (vl, hb, sk, hd, ls, pl, n, r) => backT vl hb sk hd ls pl r (bkS G vl pl n)
def skipS (F : Nat) (G : Nat → Nat → Nat) : CS → Nat × CS
  | (vl, hb, sk, none, r) => (6, (vl, hb, sk, none, r))
  | (vl, hb, sk, some h, r) => (5, comeS (nxB F G vl (uq sk h 1) h) (vl, hb, uq sk h 1, some h, r))
def goS (G : Nat → Nat → Nat) (f : Nat) : CS → Nat × CS
  | (vl, hb, sk, r) => if ak G vl f = 0 then (6, (vl, hb, sk, r)) else (5, comeS (some f) (vl, hb, uq sk f 0, r))
def stopS : CS → CS
  | (vl, hb, sk, hd, ls, pl, n, _, r) => (vl, hb, sk, hd, ls, pl, n, 1, r)
def answO (F : Nat) (G : Nat → Nat → Nat) (o : Option Nat) (v : Nat) (S : CS) : Nat × CS := match o with
  | none => (6, S)
  | some f => answS F G f v S
def takeS (F : Nat) (G : Nat → Nat → Nat) (s v : Nat) (S : CS) : Nat × CS := if s = 0 then answO F G S.2.2.2.1 v S else if s = 1 then backS G S else if s = 2 then skipS F G S else if s = 3 then (5, S) else if s = 4 then (5, stopS S) else if s = 7 then goS G v S else if s = 8 then answO F G S.2.2.2.2.1 v S else (6, S)
theorem IV_answ {F f v : Nat} {G wd : Nat → Nat → Nat} {S : CS} (hG : GW F G wd) (hI : IV F G S) (hf : f < F) (ha : ak G S.1 f = 1) (hv : v < 100000000) (hw : S.2.2.2.2.2.2.2.2.2.2.1 = 0) : IV F G (answS F G f v S).2 := by
  have hk := IV_keep (b := 0) hG hI hf ha hv (by omega) hw
  obtain ⟨vl, hb, sk, hd, ls, pl, n, st, sn, fl, wt, rf, rv, k0, k1⟩ := S
  show IV F G (if G 3 f = 1 ∧ G 2 f = 0 then (3, _) else (4, _)).2
  by_cases hc : G 3 f = 1 ∧ G 2 f = 0
  · rw [if_pos hc]
    obtain ⟨⟨i1, i2, i3, i4, i5, i6, i7, i8, i9, i10, i11⟩, iA⟩ := hI
    exact ⟨⟨i1, i2, i3, i4, i5, i6, i7, i8, by omega, fun _ => ⟨hf, ha, hv⟩, fun h => by omega⟩, iA⟩
  · rw [if_neg hc]
    exact hk
theorem bkS_ok {F : Nat} {G : Nat → Nat → Nat} {vl : Nat → Option Nat} {pl : Nat → Nat} : ∀ n, (∀ i, i < n → pl i < F) → (bkS G vl pl n).2 ≤ n ∧ ∀ f, (bkS G vl pl n).1 = some f → f < F ∧ ak G vl f = 1 := by
  intro n
  induction n with
  | zero => intro _; exact ⟨Nat.le_refl _, fun f e => by cases e⟩
  | succ n ih =>
    intro h
    unfold bkS
    by_cases hc : ak G vl (pl n) = 1
    · rw [if_pos hc]
      refine ⟨by show n ≤ n + 1; omega, fun f e => ?_⟩
      have e := Option.some.inj e
      subst e
      exact ⟨h n (by omega), hc⟩
    · rw [if_neg hc]
      obtain ⟨i1, i2⟩ := ih (fun i hi => h i (by omega))
      exact ⟨by omega, i2⟩
theorem IV_take {F s v : Nat} {G wd : Nat → Nat → Nat} {S : CS} (hG : GW F G wd) (hI : IV F G S) (hw : S.2.2.2.2.2.2.2.2.2.2.1 = 0) (hv : v < 100000000) (h7 : s = 7 → v < F) : IV F G (takeS F G s v S).2 := by
  unfold takeS
  by_cases h0 : s = 0
  · rw [if_pos h0]
    cases hh : S.2.2.2.1 with
    | none => exact hI
    | some f =>
      refine IV_answ hG hI ?_ (hI.2 f hh) hv hw
      obtain ⟨vl, hb, sk, hd, ls, pl, n, st, sn, fl, wt, rf, rv, k0, k1⟩ := S
      exact hI.1.2.1 f hh
  rw [if_neg h0]
  by_cases h1 : s = 1
  · rw [if_pos h1]
    obtain ⟨vl, hb, sk, hd, ls, pl, n, st, sn, fl, wt, rf, rv, k0, k1⟩ := S
    obtain ⟨⟨i1, i2, i3, i4, i5, i6, i7, i8, i9, i10, i11⟩, iA⟩ := hI
    have hw : wt = 0 := hw
    obtain ⟨b1, b2⟩ := bkS_ok (G := G) (vl := vl) n i5
    show IV F G (backT vl hb sk hd ls pl _ (bkS G vl pl n)).2
    generalize bkS G vl pl n = q at b1 b2
    obtain ⟨o, m⟩ := q
    dsimp only at b1 b2
    cases o with
    | none =>
      show IV F G (vl, hb, sk, hd, ls, pl, m, st, sn, fl, wt, rf, rv, k0, k1)
      exact ⟨⟨i1, i2, i3, Nat.le_trans b1 i4, fun i hi => i5 i (Nat.lt_of_lt_of_le hi b1), i6, i7, i8, i9, i10, fun (h : wt = 2) => by omega⟩, iA⟩
    | some f =>
      show IV F G (vl, hb, sk, some f, ls, pl, m, st, sn, fl, wt, rf, rv, k0, k1)
      exact ⟨⟨i1, fun g e => (b2 g e).1, i3, Nat.le_trans b1 i4, fun i hi => i5 i (Nat.lt_of_lt_of_le hi b1), i6, i7, i8, i9, i10, fun (h : wt = 2) => by omega⟩, fun g e => (b2 g e).2⟩
  rw [if_neg h1]
  by_cases h2 : s = 2
  · rw [if_pos h2]
    obtain ⟨vl, hb, sk, hd, ls, pl, n, st, sn, fl, wt, rf, rv, k0, k1⟩ := S
    cases hd with
    | none => exact hI
    | some h =>
      obtain ⟨⟨i1, i2, i3, i4, i5, i6, i7, i8, i9, i10, i11⟩, iA⟩ := hI
      show IV F G (comeS (nxB F G vl (uq sk h 1) h) (vl, hb, uq sk h 1, some h, ls, pl, n, st, sn, fl, wt, rf, rv, k0, k1))
      refine IV_come ⟨fun g hg => ?_, i2, i3, i4, i5, i6, i7, i8, i9, i10, i11⟩ (fun g e => nxB_ok e) hw
      obtain ⟨j1, j2, j3, j4⟩ := i1 g hg
      refine ⟨j1, ?_, j3, j4⟩
      by_cases he : g = h
      · rw [he, uq_at]; exact Nat.le_refl _
      · rw [uq_ne _ _ he]; exact j2
  rw [if_neg h2]
  by_cases h3 : s = 3
  · rw [if_pos h3]; exact hI
  rw [if_neg h3]
  by_cases h4 : s = 4
  · rw [if_pos h4]
    obtain ⟨vl, hb, sk, hd, ls, pl, n, st, sn, fl, wt, rf, rv, k0, k1⟩ := S
    obtain ⟨⟨i1, i2, i3, i4, i5, i6, i7, i8, i9, i10, i11⟩, iA⟩ := hI
    exact ⟨⟨i1, i2, i3, i4, i5, Nat.le_refl _, i7, i8, i9, i10, i11⟩, iA⟩
  rw [if_neg h4]
  by_cases h7' : s = 7
  · rw [if_pos h7']
    obtain ⟨vl, hb, sk, hd, ls, pl, n, st, sn, fl, wt, rf, rv, k0, k1⟩ := S
    show IV F G (if ak G vl v = 0 then (6, _) else (5, _)).2
    by_cases hc : ak G vl v = 0
    · rw [if_pos hc]; exact hI
    · rw [if_neg hc]
      have hal := ak_le G vl v
      obtain ⟨⟨i1, i2, i3, i4, i5, i6, i7, i8, i9, i10, i11⟩, iA⟩ := hI
      show IV F G (comeS (some v) (vl, hb, uq sk v 0, hd, ls, pl, n, st, sn, fl, wt, rf, rv, k0, k1))
      refine IV_come ⟨fun g hg => ?_, i2, i3, i4, i5, i6, i7, i8, i9, i10, i11⟩ (fun g e => ?_) hw
      · obtain ⟨j1, j2, j3, j4⟩ := i1 g hg
        refine ⟨j1, ?_, j3, j4⟩
        by_cases he : g = v
        · rw [he, uq_at]; exact Nat.zero_le _
        · rw [uq_ne _ _ he]; exact j2
      · have e := Option.some.inj e
        subst e
        exact ⟨h7 h7', by show ak G vl v = 1; omega⟩
  rw [if_neg h7']
  by_cases h8 : s = 8
  · rw [if_pos h8]
    cases hh : S.2.2.2.2.1 with
    | none => exact hI
    | some f =>
      have h9 : f < F ∧ ak G S.1 f = 1 := by
        obtain ⟨vl, hb, sk, hd, ls, pl, n, st, sn, fl, wt, rf, rv, k0, k1⟩ := S
        exact hI.1.2.2.1 f hh
      exact IV_answ hG hI h9.1 h9.2 hv hw
  rw [if_neg h8]
  exact hI
theorem p_takeAnswer {M : MM} {F f v : Nat} {G wd : Nat → Nat → Nat} {S : CS} (hG : GW F G wd) (hK : KX M F G wd S) (hI : IV F G S) (hf : f < F) (ha : ak G S.1 f = 1) (hv : v < 100000000) (hw : S.2.2.2.2.2.2.2.2.2.2.1 = 0) : ∃ M' : MM, mX6_takeAnswer [.inr (some 4), .inl (nI f), .inl (nI v)] M = some (some (.inl (nI (answS F G f v S).1)), M') ∧ KX M' F G wd (answS F G f v S).2 ∧ FT M M' := by
  obtain ⟨M1, a1, a2, a3⟩ := p_keepX (b := 0) hG hK hI hf ha hv (by omega) hw
  obtain ⟨vl, hb, sk, hd, ls, pl, n, st, sn, fl, wt, rf, rv, k0, k1⟩ := S
  have hF := hG.1
  have hz := zkd_slot (i := f) (by omega)
  obtain ⟨g1, g2, g3, g4, -⟩ := hG.2 f hf
  obtain ⟨c1, c2, c3, c4, c5, c6, c7, c8, c9, c10, c11⟩ := id hK
  obtain ⟨s1, s2, s3, s4, -⟩ := c1.1.2 f hf
  have hrb : mX5_isReadBack [.inr (some (f + 44))] M = some (some (.inl (nI (if G 3 f = 1 ∧ G 2 f = 0 then 1 else 0))), M) := by
    rw [iX5_isReadBack, eX5_isReadBack_0, if_pos hz, s4, if_pos hz, s3]
    by_cases h3 : G 3 f = 1
    · rw [h3, if_neg (show ¬ nI 1 = 0 by decide)]
      by_cases h2 : G 2 f = 0
      · rw [h2, if_pos (show nI 0 = 0 from rfl), if_pos ⟨rfl, rfl⟩]; rfl
      · rw [if_neg (by rw [L0, q_eq (by omega) (by omega)]; exact h2), if_neg (fun e => h2 e.2)]; rfl
    · rw [if_pos (by rw [show G 3 f = 0 by omega]; rfl), if_neg (fun e => h3 e.1)]; rfl
  have hsl : mX1_slotAt [.inr (some 1), .inl (nI f)] M = some (some (.inr (some (f + 44))), M) := p_slotAt (o := some f) hF c1.1.1 (fun g e => by cases e; exact hf)
  rw [iX6_takeAnswer, eX6_takeAnswer_0, hsl]
  simp only [bnd1, Option.toList_some, List.cons_append, List.nil_append, eX6_takeAnswer_8]
  rw [if_pos hz, hrb]
  simp only [bnd1, Option.toList_some, List.cons_append, List.nil_append, eX6_takeAnswer_17]
  by_cases hc : G 3 f = 1 ∧ G 2 f = 0
  · have eA : answS F G f v (vl, hb, sk, hd, ls, pl, n, st, sn, fl, wt, rf, rv, k0, k1) = (3, (vl, hb, sk, hd, ls, pl, n, st, sn, fl, 1, f, v, k0, k1)) := if_pos hc
    rw [eA, if_pos hc, if_neg (show ¬ nI 1 = 0 by decide)]
    refine ⟨_, rfl, ⟨c1.fr hG (by simp (disch := omega) only [st2_nc]) (fun c j q => by rw [st2_nc _ (by omega), st2_nc _ (by omega), st2_nc _ (by omega)]), ?_, ?_, ?_, fun i hi => ?_, ?_, ?_, ?_, ?_, fun h => ⟨?_, ?_⟩, fun h => by omega⟩, fun c j q1 q2 q3 q4 => by rw [st2_nc _ q1, st2_nc _ q1, st2_nc _ q1]⟩
    · rw [st2_nj' _ (by decide), st2_nj' _ (by decide), st2_nj' _ (by decide)]; exact c2
    · rw [st2_nj' _ (by decide), st2_nj' _ (by decide), st2_nj' _ (by decide)]; exact c3
    · rw [st2_nc _ (by decide), st2_nc _ (by decide), st2_nc _ (by decide)]; exact c4
    · rw [st2_nc _ (by decide), st2_nc _ (by decide), st2_nc _ (by decide)]; exact c5 i hi
    · rw [st2_nj' _ (by decide), st2_nj' _ (by decide), st2_nj' _ (by decide)]; exact c6
    · rw [st2_nj' _ (by decide), st2_nj' _ (by decide), st2_nj' _ (by decide)]; exact c7
    · rw [st2_nj' _ (by decide), st2_nj' _ (by decide), st2_nj' _ (by decide)]; exact c8
    · rw [st2_nj' _ (by decide), st2_nj' _ (by decide), st2_at]; rfl
    · rw [st2_nj' _ (by decide), st2_at]
    · rw [st2_at]
  · have eA : answS F G f v (vl, hb, sk, hd, ls, pl, n, st, sn, fl, wt, rf, rv, k0, k1) = (4, keepS F G f v 0 (vl, hb, sk, hd, ls, pl, n, st, sn, fl, wt, rf, rv, k0, k1)) := if_neg hc
    rw [eA, if_neg hc, if_pos (show nI 0 = 0 from rfl), L0, a1]
    refine ⟨M1, ?_, a2, a3⟩
    simp only [bnd1, Option.toList_some, List.cons_append, List.nil_append, eX6_takeAnswer_27]
theorem p_goBackX {M : MM} {F : Nat} {G wd : Nat → Nat → Nat} {S : CS} (hG : GW F G wd) (hK : KX M F G wd S) (hI : IV F G S) : ∃ M' : MM, mX6_goBack [.inr (some 4)] M = some (some (.inl (nI (backS G S).1)), M') ∧ KX M' F G wd (backS G S).2 ∧ FT M M' := by
  obtain ⟨vl, hb, sk, hd, ls, pl, n, st, sn, fl, wt, rf, rv, k0, k1⟩ := S
  obtain ⟨⟨i1, i2, i3, i4, i5, i6, i7, i8, i9, i10, i11⟩, iA⟩ := hI
  have hF := hG.1
  -- nothing more on the pile
  have hend : ∀ m i (M1 : MM) (d2 d3 : Option AV), i + m = 20 → M1 14 1 = nI 0 → M1 1 1 = nI F → ∃ (M' : MM), gX6_goBack 2 [some (.inr (some 4)), some (.inl (nI i)), d2, d3] [] M1 = some (some (.inl (nI 6)), M1) ∧ M' = M1 := by
    intro m
    induction m with
    | zero =>
      intro i M1 d2 d3 hi h h1
      refine ⟨M1, ?_, rfl⟩
      rw [eX6_goBack_2, if_pos (by rw [L20]; exact nI_le (show 20 ≤ i by omega) (by omega)), L6]
    | succ m ih =>
      intro i M1 d2 d3 hi h h1
      obtain ⟨M', a1, a2⟩ := ih (i + 1) M1 (some (.inl (-nI 1))) (some (.inr none)) (by omega) h h1
      refine ⟨M', ?_, a2⟩
      rw [eX6_goBack_2, if_neg (by rw [L20, q_le (by omega) (by omega)]; omega), iX3_pop, eX3_pop_0, h, if_pos (show nI 0 ≤ 0 by decide), L1]
      simp only [bnd1, Option.toList_some, List.cons_append, List.nil_append, eX6_goBack_15]
      show (mX1_slotAt [.inr (some 1), .inl (oI none)] M1).bind _ = _
      rw [p_slotAt hF h1 (fun f e => by cases e)]
      simp only [bnd1, Option.toList_some, List.cons_append, List.nil_append, Option.map_none, eX6_goBack_24]
      rw [L1, q_add]
      exact a1
  have key : ∀ m i (M1 : MM) (d2 d3 : Option AV), i + m ≤ 20 → m ≤ n → KX M1 F G wd (vl, hb, sk, hd, ls, pl, m, st, sn, fl, wt, rf, rv, k0, k1) → ∃ M' : MM, gX6_goBack 2 [some (.inr (some 4)), some (.inl (nI i)), d2, d3] [] M1 = some (some (.inl (nI (backT vl hb sk hd ls pl (st, sn, fl, wt, rf, rv, k0, k1) (bkS G vl pl m)).1)), M') ∧ KX M' F G wd (backT vl hb sk hd ls pl (st, sn, fl, wt, rf, rv, k0, k1) (bkS G vl pl m)).2 ∧ FT M1 M' := by
    intro m
    induction m with
    | zero =>
      intro i M1 d2 d3 hi hm hK1
      obtain ⟨M', a1, -⟩ := hend (20 - i) i M1 d2 d3 (by omega) hK1.2.2.2.1 hK1.1.1.1
      exact ⟨M1, a1, hK1, fun _ _ _ _ _ _ => rfl⟩
    | succ m ih =>
      intro i M1 d2 d3 hi hm hK1
      obtain ⟨c1, c2, c3, c4, c5, c6, c7, c8, c9, c10, c11⟩ := id hK1
      have hplF := i5 m (by omega)
      have hz := zkd_slot (i := pl m) (by omega)
      have hK2 : KX (st2 M1 14 1 (nI m)) F G wd (vl, hb, sk, hd, ls, pl, m, st, sn, fl, wt, rf, rv, k0, k1) := by
        refine ⟨c1.fr hG (st2_nc _ (by decide)) (fun c j q => st2_nc _ (by omega)), ?_, ?_, by rw [st2_at], fun i hi => ?_, ?_, ?_, ?_, ?_, fun h => ?_, fun h => ?_⟩
        · rw [st2_nc _ (by decide)]; exact c2
        · rw [st2_nc _ (by decide)]; exact c3
        · rw [st2_nc _ (by decide)]; exact c5 i (by omega)
        · rw [st2_nc _ (by decide)]; exact c6
        · rw [st2_nc _ (by decide)]; exact c7
        · rw [st2_nc _ (by decide)]; exact c8
        · rw [st2_nc _ (by decide)]; exact c9
        · rw [st2_nc _ (by decide), st2_nc _ (by decide)]; exact c10 h
        · rw [st2_nc _ (by decide), st2_nc _ (by decide)]; exact c11 h
      have f2 : FT M1 (st2 M1 14 1 (nI m)) := fun c j q1 q2 q3 q4 => st2_nc _ q2
      have hal := ak_le G vl (pl m)
      rw [eX6_goBack_2, if_neg (by rw [L20, q_le (by omega) (by omega)]; omega), iX3_pop, eX3_pop_0, c4, if_neg (by rw [L0, q_le (by omega) (by omega)]; omega), if_pos (by rw [L20]; exact nI_le (show m + 1 ≤ 20 by omega) (by omega)), L1, q_sub (by omega), show m + 1 - 1 = m by omega, st2_at, q_cl (show m < 2147483648 by omega), if_neg (gI (by omega) (by omega)), st2_nc _ (by decide), c5 m (by omega)]
      simp only [bnd1, Option.toList_some, List.cons_append, List.nil_append, eX6_goBack_15]
      show ∃ M' : MM, (mX1_slotAt [.inr (some 1), .inl (oI (some (pl m)))] _).bind _ = _ ∧ _
      rw [p_slotAt hF hK2.1.1.1 (fun f e => by cases e; exact hplF)]
      simp only [bnd1, Option.toList_some, List.cons_append, List.nil_append, Option.map_some, eX6_goBack_24]
      rw [if_pos hz, hK2.1.2.1 (pl m) hplF]
      unfold bkS
      by_cases hc : ak G vl (pl m) = 1
      · rw [if_pos hc, hc, if_neg (show ¬ nI 1 = 0 by decide)]
        obtain ⟨c1, c2, c3, c4, c5, c6, c7, c8, c9, c10, c11⟩ := hK2
        refine ⟨_, rfl, ⟨c1.fr hG (st2_nc _ (by decide)) (fun c j q => st2_nc _ (by omega)), by rw [st2_at]; rfl, ?_, ?_, fun i hi => ?_, ?_, ?_, ?_, ?_, fun h => ?_, fun h => ?_⟩, fun c j q1 q2 q3 q4 => by rw [st2_nc _ q1, st2_nc _ q2]⟩
        · rw [st2_nj' _ (by decide)]; exact c3
        · rw [st2_nc _ (by decide)]; exact c4
        · rw [st2_nc _ (by decide)]; exact c5 i hi
        · rw [st2_nj' _ (by decide)]; exact c6
        · rw [st2_nj' _ (by decide)]; exact c7
        · rw [st2_nj' _ (by decide)]; exact c8
        · rw [st2_nj' _ (by decide)]; exact c9
        · rw [st2_nj' _ (by decide), st2_nj' _ (by decide)]; exact c10 h
        · rw [st2_nj' _ (by decide), st2_nj' _ (by decide)]; exact c11 h
      · rw [if_neg hc, if_pos (by rw [show ak G vl (pl m) = 0 by omega]; rfl), L1, q_add]
        obtain ⟨M', a1, a2, a3⟩ := ih (i + 1) _ (some (.inl (nI (pl m)))) (some (.inr (some (pl m + 44)))) (by omega) (by omega) hK2
        exact ⟨M', a1, a2, f2.trans a3⟩
  rw [iX6_goBack, eX6_goBack_0, L0]
  exact key n 0 M none none (by omega) (Nat.le_refl _) hK
