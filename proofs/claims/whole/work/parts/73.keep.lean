/-! A VALUE is kept. -/
def keepA (F : Nat) (G : Nat → Nat → Nat) (f v b : Nat) : CS → CS
  | (vl, hb, sk, hd, ls, pl, n, st, sn, fl, r) => ((fll G F 0 (uq vl f (some v), uq hb f b, 0)).1, (fll G F 0 (uq vl f (some v), uq hb f b, 0)).2.1, sk, hd, some f, pl, n, st, 0, (fll G F 0 (uq vl f (some v), uq hb f b, 0)).2.2, r)
def keepB (F : Nat) (G : Nat → Nat → Nat) (f : Nat) : CS → CS
  | (vl, hb, sk, none, r) => (vl, hb, sk, none, r)
  | (vl, hb, sk, some h, r) => if f = h ∨ ak G vl h = 0 then comeS (nxB F G vl sk h) (vl, hb, sk, some h, r) else (vl, hb, sk, some h, r)
def keepS (F : Nat) (G : Nat → Nat → Nat) (f v b : Nat) (S : CS) : CS := keepB F G f (keepA F G f v b S)
theorem nxB_ok {F : Nat} {G : Nat → Nat → Nat} {vl : Nat → Option Nat} {sk : Nat → Nat} {f g : Nat} (h : nxB F G vl sk f = some g) : g < F ∧ ak G vl g = 1 := by
  have hop : ∀ {g}, opn G vl sk g = 1 → ak G vl g = 1 := fun {g} e => by
    unfold opn at e
    split at e
    · rename_i h; exact h.1
    · cases e
  unfold nxB at h
  cases hx : fnd (opn G vl sk) 1 (f + 1) (F - (f + 1)) with
  | none =>
    rw [hx] at h
    have := fnd_some h
    exact ⟨by omega, hop this.2.2⟩
  | some g' =>
    rw [hx] at h
    have h := Option.some.inj h
    subst h
    have := fnd_some hx
    exact ⟨by omega, hop this.2.2⟩
theorem IV_keepA {F f v b : Nat} {G wd : Nat → Nat → Nat} {S : CS} (hG : GW F G wd) (hI : IV F G S) (hf : f < F) (ha : ak G S.1 f = 1) (hv : v < 100000000) (hb1 : b ≤ 1) (hw : S.2.2.2.2.2.2.2.2.2.2.1 = 0) : IVa F G (keepA F G f v b S) := by
  obtain ⟨vl, hb, sk, hd, ls, pl, n, st, sn, fl, wt, rf, rv, k0, k1⟩ := S
  obtain ⟨⟨i1, i2, i3, i4, i5, i6, i7, i8, i9, i10, i11⟩, -⟩ := hI
  have hw : wt = 0 := hw
  have ha : ak G vl f = 1 := ha
  have hF := hG.1
  have hcg : ak G (uq vl f (some v)) f = ak G vl f := ak_congr hG f hf (fun g hg => uq_ne _ _ (by omega))
  obtain ⟨q1, q2, q3, q4, q5⟩ := fll_inv hG F 0 (uq vl f (some v), uq hb f b, 0) (by omega) (fun g hg => absurd hg (Nat.not_lt_zero _))
  have q6 := fll_keep hG (f0 := f) F 0 (uq vl f (some v), uq hb f b, 0) (by omega) (fun g _ hg hn => by
    dsimp only at hn ⊢
    by_cases he : g = f
    · rw [he, hcg]; exact ha
    · rw [uq_ne _ _ he] at hn
      have h1 : ak G (uq vl f (some v)) g = ak G vl g := ak_congr hG g (by omega) (fun g' hg' => uq_ne _ _ (by omega))
      rw [h1]
      cases hx : vl g with
      | none => exact absurd hx hn
      | some u => exact ((i1 g (by omega)).2.2.1 u hx).2)
  show IVa F G (_, _, sk, hd, some f, pl, n, st, 0, _, wt, rf, rv, k0, k1)
  refine ⟨fun g hg => ?_, i2, fun f' e => ?_, i4, i5, i6, Nat.zero_le _, by dsimp only at q5; omega, i9, fun h => by omega, fun h => by omega⟩
  · obtain ⟨j1, j2, j3, j4⟩ := i1 g hg
    refine ⟨?_, j2, fun u hu => ⟨?_, q1 g hg (by rw [hu]; exact fun h => (by cases h))⟩, fun hn => ?_⟩
    · rcases q3 g with ⟨e1, -⟩ | ⟨e1, -⟩
      · rw [e1]
        dsimp only
        by_cases he : g = f
        · rw [he, uq_at]; exact hb1
        · rw [uq_ne _ _ he]; exact j1
      · rw [e1]; exact Nat.zero_le _
    · rcases q2 g with e1 | e1
      · rw [e1] at hu; cases hu
      · rw [e1] at hu
        dsimp only at hu
        by_cases he : g = f
        · rw [he, uq_at] at hu
          cases hu; exact hv
        · rw [uq_ne _ _ he] at hu
          exact (j3 u hu).1
    · rcases q3 g with ⟨e1, e2⟩ | ⟨e1, -⟩
      · rw [e1]
        rw [e2] at hn
        dsimp only at hn ⊢
        by_cases he : g = f
        · rw [he, uq_at] at hn; cases hn
        · rw [uq_ne _ _ he] at hn ⊢
          exact j4 hn
      · exact e1
  · have e := Option.some.inj e
    subst e
    refine ⟨hf, ?_⟩
    rw [ak_congr hG f hf (fun g hg => q6 g (by omega)), hcg]
    exact ha
theorem IV_keep {F f v b : Nat} {G wd : Nat → Nat → Nat} {S : CS} (hG : GW F G wd) (hI : IV F G S) (hf : f < F) (ha : ak G S.1 f = 1) (hv : v < 100000000) (hb1 : b ≤ 1) (hw : S.2.2.2.2.2.2.2.2.2.2.1 = 0) : IV F G (keepS F G f v b S) := by
  have h1 := IV_keepA hG hI hf ha hv hb1 hw
  have hw2 : (keepA F G f v b S).2.2.2.2.2.2.2.2.2.2.1 = 0 := hw
  unfold keepS
  generalize keepA F G f v b S = S1 at h1 hw2
  obtain ⟨vl, hb, sk, hd, ls, pl, n, st, sn, fl, wt, rf, rv, k0, k1⟩ := S1
  cases hd with
  | none => exact ⟨h1, fun f e => by cases e⟩
  | some h =>
    show IV F G (if f = h ∨ ak G vl h = 0 then _ else _)
    by_cases hc : f = h ∨ ak G vl h = 0
    · rw [if_pos hc]
      exact IV_come h1 (fun g e => nxB_ok e) hw2
    · rw [if_neg hc]
      refine ⟨h1, fun g e => ?_⟩
      have e := Option.some.inj e
      subst e
      have := ak_le G vl h
      have : ¬ ak G vl h = 0 := fun e => hc (Or.inr e)
      show ak G vl h = 1
      omega
/-! the class -/
theorem p_keepValue {M : MM} {F f v b : Nat} {G wd : Nat → Nat → Nat} {vl : Nat → Option Nat} {hb sk : Nat → Nat} (hG : GW F G wd) (hF : FF M F G wd vl hb sk) (hf : f < F) (hv : v < 100000000) (hb1 : b ≤ 1) (hv8 : ∀ g v, g < F → vl g = some v → v < 100000000) : ∃ M' : MM, mX1_keepValue [.inr (some 1), .inl (nI f), .inl (nI v), .inl (nI b)] M = some (some (.inl (nI (fll G F 0 (uq vl f (some v), uq hb f b, 0)).2.2)), M') ∧ FF M' F G wd (fll G F 0 (uq vl f (some v), uq hb f b, 0)).1 (fll G F 0 (uq vl f (some v), uq hb f b, 0)).2.1 sk ∧ ∀ c j, c < 44 ∨ 56 ≤ c → M' c j = M c j := by
  obtain ⟨h1, h2, h3⟩ := hF
  have hF := hG.1
  have hz := zkd_slot (i := f) (by omega)
  have h01 : nI b = 0 ∨ nI b = 1 := by
    rcases (show b = 0 ∨ b = 1 by omega) with rfl | rfl
    · exact Or.inl rfl
    · exact Or.inr rfl
  have hfr : ∀ c j, 44 ≤ c → j ≤ 7 → st2 (st2 (st2 M (f + 44) 9 (nI 1)) (f + 44) 10 (nI v)) (f + 44) 11 (nI b) c j = M c j := fun c j _ q => by rw [st2_nj' _ (by omega), st2_nj' _ (by omega), st2_nj' _ (by omega)]
  have hS2 : SX (st2 (st2 (st2 M (f + 44) 9 (nI 1)) (f + 44) 10 (nI v)) (f + 44) 11 (nI b)) F G wd := h1.fr (by rw [st2_nj' _ (by decide), st2_nj' _ (by decide), st2_nj' _ (by decide)]) hfr hG
  have hD2 : DX (st2 (st2 (st2 M (f + 44) 9 (nI 1)) (f + 44) 10 (nI v)) (f + 44) 11 (nI b)) F (uq vl f (some v)) (uq hb f b) sk := fun g hg => by
    obtain ⟨q1, q2, q3, q4⟩ := h3 g hg
    by_cases he : g = f
    · subst he
      rw [uq_at, uq_at]
      refine ⟨?_, fun u e => ?_, ?_, ?_⟩
      · rw [st2_nj' _ (by decide), st2_nj' _ (by decide), st2_at]; rfl
      · cases e; rw [st2_nj' _ (by decide), st2_at]
      · rw [st2_at]
      · rw [st2_nj' _ (by decide), st2_nj' _ (by decide), st2_nj' _ (by decide)]; exact q4
    · rw [uq_ne _ _ he, uq_ne _ _ he]
      refine ⟨?_, fun u e => ?_, ?_, ?_⟩
      · rw [st2_nc _ (by omega), st2_nc _ (by omega), st2_nc _ (by omega)]; exact q1
      · rw [st2_nc _ (by omega), st2_nc _ (by omega), st2_nc _ (by omega)]; exact q2 u e
      · rw [st2_nc _ (by omega), st2_nc _ (by omega), st2_nc _ (by omega)]; exact q3
      · rw [st2_nc _ (by omega), st2_nc _ (by omega), st2_nc _ (by omega)]; exact q4
  obtain ⟨M', a1, a2, a3, a4⟩ := p_reckon (sk := sk) hG F 0 _ (uq vl f (some v), uq hb f b, 0) none (by omega) hS2 (fun g hg => absurd hg (Nat.not_lt_zero _)) hD2 (fun g u hg hu => by
    dsimp only at hu
    by_cases he : g = f
    · rw [he, uq_at] at hu; cases hu; exact hv
    · rw [uq_ne _ _ he] at hu; exact hv8 g u hg hu)
  refine ⟨M', ?_, ⟨hS2.fr (a4 1 1 (by omega)) (fun c j q1 q2 => a4 c j (by omega)) hG, a2, a3⟩, fun c j q => ?_⟩
  · rw [iX1_keepValue, eX1_keepValue_0]
    show (mX1_slotAt [.inr (some 1), .inl (oI (some f))] M).bind _ = _
    rw [p_slotAt hF h1.1 (fun g e => by cases e; exact hf)]
    simp only [bnd1, Option.toList_some, List.cons_append, List.nil_append, Option.map_some, eX1_keepValue_5]
    rw [if_pos hz, if_pos hz, if_pos hz, if_pos h01, L1, iX1_reckonNeeds, eX1_reckonNeeds_0, L0]
    refine Eq.trans (congrArg (fun o : Option AR => o.bind _) a1) ?_
    simp only [bnd1, Option.toList_some, List.cons_append, List.nil_append, eX1_keepValue_36]
  · rw [a4 c j (by omega), st2_nc _ (by omega), st2_nc _ (by omega), st2_nc _ (by omega)]
theorem p_keepX {M : MM} {F f v b : Nat} {G wd : Nat → Nat → Nat} {S : CS} (hG : GW F G wd) (hK : KX M F G wd S) (hI : IV F G S) (hf : f < F) (ha : ak G S.1 f = 1) (hv : v < 100000000) (hb1 : b ≤ 1) (hw : S.2.2.2.2.2.2.2.2.2.2.1 = 0) : ∃ M' : MM, mX6_keep [.inr (some 4), .inl (nI f), .inl (nI v), .inl (nI b)] M = some (some (.inl (nI 4)), M') ∧ KX M' F G wd (keepS F G f v b S) ∧ FT M M' := by
  have hIa := IV_keepA hG hI hf ha hv hb1 hw
  obtain ⟨vl, hb, sk, hd, ls, pl, n, st, sn, fl, wt, rf, rv, k0, k1⟩ := S
  obtain ⟨c1, c2, c3, c4, c5, c6, c7, c8, c9, c10, c11⟩ := hK
  obtain ⟨⟨i1, i2, i3, i4, i5, i6, i7, i8, i9, i10, i11⟩, iA⟩ := hI
  have hw : wt = 0 := hw
  have hF := hG.1
  obtain ⟨M1, a1, a2, a3⟩ := p_keepValue hG c1 hf hv hb1 (fun g v hg e => ((i1 g hg).2.2.1 v e).1)
  rw [iX6_keep, eX6_keep_0, a1]
  simp only [bnd1, Option.toList_some, List.cons_append, List.nil_append, eX6_keep_11]
  unfold keepS
  have hkA : keepA F G f v b (vl, hb, sk, hd, ls, pl, n, st, sn, fl, wt, rf, rv, k0, k1) = ((fll G F 0 (uq vl f (some v), uq hb f b, 0)).1, (fll G F 0 (uq vl f (some v), uq hb f b, 0)).2.1, sk, hd, some f, pl, n, st, 0, (fll G F 0 (uq vl f (some v), uq hb f b, 0)).2.2, wt, rf, rv, k0, k1) := rfl
  rw [hkA] at hIa ⊢
  generalize fll G F 0 (uq vl f (some v), uq hb f b, 0) = R at a2 hIa ⊢
  obtain ⟨vl', hb', cnt⟩ := R
  dsimp only at a2 hIa ⊢
  have a34 : ∀ j, M1 4 j = M 4 j := fun j => a3 4 j (by omega)
  -- the memory behind the three fields of the talk
  have hM3 : ∃ M3 : MM, M3 = st2 (st2 (st2 M1 4 7 (nI cnt)) 4 4 (nI f)) 4 6 (0 : Int32) ∧ KX M3 F G wd (vl', hb', sk, hd, some f, pl, n, st, 0, cnt, wt, rf, rv, k0, k1) ∧ FT M M3 := by
    refine ⟨_, rfl, ⟨a2.fr hG (by simp (disch := omega) only [st2_nc]) (fun c j q => by rw [st2_nc _ (by omega), st2_nc _ (by omega), st2_nc _ (by omega)]), ?_, ?_, ?_, fun i hi => ?_, ?_, ?_, ?_, ?_, fun h => ?_, fun h => ?_⟩, fun c j q1 q2 q3 q4 => by rw [st2_nc _ q1, st2_nc _ q1, st2_nc _ q1]; exact a3 c j q4⟩
    · rw [st2_nj' _ (by decide), st2_nj' _ (by decide), st2_nj' _ (by decide), a34]; exact c2
    · rw [st2_nj' _ (by decide), st2_at]; rfl
    · rw [st2_nc _ (by decide), st2_nc _ (by decide), st2_nc _ (by decide), a3 14 1 (by omega)]; exact c4
    · rw [st2_nc _ (by decide), st2_nc _ (by decide), st2_nc _ (by decide), a3 18 i (by omega)]; exact c5 i hi
    · rw [st2_nj' _ (by decide), st2_nj' _ (by decide), st2_nj' _ (by decide), a34]; exact c6
    · rw [st2_at]; rfl
    · rw [st2_nj' _ (by decide), st2_nj' _ (by decide), st2_at]
    · rw [st2_nj' _ (by decide), st2_nj' _ (by decide), st2_nj' _ (by decide), a34]; exact c9
    · omega
    · omega
  obtain ⟨M3, e3, hK3, f3⟩ := hM3
  rw [← e3]
  have e43 : M3 4 3 = oI hd := hK3.2.1
  rw [e43, p_slotAt hF hK3.1.1.1 i2]
  simp only [bnd1, Option.toList_some, List.cons_append, List.nil_append]
  rw [eX6_keep_35]
  cases hd with
  | none =>
    refine ⟨M3, ?_, hK3, f3⟩
    show gX6_keep 73 _ _ M3 = _
    rw [eX6_keep_73, L4]
  | some h =>
    have hh := i2 h rfl
    have hz := zkd_slot (i := h) (by omega)
    show ∃ M' : MM, (if nI f = M3 4 3 then _ else (if zkd (h + 44) = 5 then (if M3 (h + 44) 8 = 0 then _ else _) else none)) = _ ∧ KX M' F G wd (if f = h ∨ ak G vl' h = 0 then _ else _) ∧ _
    have e8 : M3 (h + 44) 8 = nI (ak G vl' h) := hK3.1.2.1 h hh
    have hal := ak_le G vl' h
    have eh : oI (some h) = nI h := rfl
    rw [e43, e8, if_pos hz, eh]
    have h58 : ∃ M' : MM, gX6_keep 58 [some (.inr (some 4)), some (.inl (nI f)), some (.inl (nI v)), some (.inl (nI b)), some (.inr (some (h + 44)))] [] M3 = some (some (.inl (nI 4)), M') ∧ KX M' F G wd (comeS (nxB F G vl' sk h) (vl', hb', sk, some h, some f, pl, n, st, 0, cnt, wt, rf, rv, k0, k1)) ∧ FT M M' := by
      obtain ⟨M4, b1, b2, b3⟩ := p_come (x := nxB F G vl' sk h) hG hK3 hIa (fun g e => (nxB_ok e).1)
      refine ⟨M4, ?_, b2, f3.trans b3⟩
      rw [eX6_keep_58, e43, eh, p_nextBehind1 hG hK3.1.1.1 hK3.1.2.1 hK3.1.2.2 (fun g hg => (i1 g hg).2.1) hh]
      simp only [bnd1, Option.toList_some, List.cons_append, List.nil_append, eX6_keep_70]
      rw [b1]
      simp only [bnd0, Option.toList_none, List.nil_append, eX6_keep_73]
      rfl
    by_cases h1 : f = h
    · rw [if_pos (by rw [h1]), if_pos (Or.inl h1)]
      exact h58
    · rw [if_neg (by rw [q_eq (by omega) (by omega)]; exact h1)]
      by_cases h2 : ak G vl' h = 0
      · rw [if_pos (by rw [h2]; rfl), if_pos (Or.inr h2)]
        exact h58
      · rw [if_neg (by rw [L0, q_eq (by omega) (by omega)]; exact h2), if_neg (fun e => e.elim h1 h2)]
        refine ⟨M3, ?_, hK3, f3⟩
        show gX6_keep 73 _ _ M3 = _
        rw [eX6_keep_73, L4]
