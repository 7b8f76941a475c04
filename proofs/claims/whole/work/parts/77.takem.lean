/-! keep, answered, goBack, skip, go, take of the reference. -/
theorem p_fallM {F f0 : Nat} {G wd : Nat → Nat → Nat} (hG : GW F G wd) (x1 x2 x3 : Int32) : ∀ m k (M : MM) (T : FS), k + m = F → f0 < F → VM M F G T.1 → (∀ g, g < F → M 29 g = nI (T.2.1 g)) → M 19 0 = nI F → M 19 30 = nI f0 → M 19 34 = nI T.2.2 → (∀ g, k ≤ g → g ≤ f0 → T.1 g ≠ none → ak G T.1 g = 1) → ∃ M' : MM, gX10_keep 27 [some (.inr (some 19)), some (.inl x1), some (.inl x2), some (.inl x3), some (.inl (nI k))] [] M = gX10_keep 27 [some (.inr (some 19)), some (.inl x1), some (.inl x2), some (.inl x3), some (.inl (nI F))] [] M' ∧ VM M' F G (fll G m k T).1 ∧ (∀ g, g < F → M' 29 g = nI ((fll G m k T).2.1 g)) ∧ M' 19 34 = nI (fll G m k T).2.2 ∧ ∀ c j, c ≠ 28 → c ≠ 29 → ¬ (c = 19 ∧ j = 34) → M' c j = M c j := by
  have hF := hG.1
  intro m
  induction m with
  | zero =>
    intro k M T hk hf0 hV h29 h0 h30 h34 hno
    obtain rfl : k = F := by omega
    exact ⟨M, rfl, hV, h29, h34, fun _ _ _ _ _ => rfl⟩
  | succ m ih =>
    intro k M T hk hf0 hV h29 h0 h30 h34 hno
    have hkF : k < F := by omega
    have gk := gI (c := k) (N := 12) (by omega) (by omega)
    obtain ⟨v1, v2, v3, v4⟩ := hV k hkF
    have hal := ak_le G T.1 k
    have hhead : gX10_keep 27 [some (.inr (some 19)), some (.inl x1), some (.inl x2), some (.inl x3), some (.inl (nI k))] [] M = (if oI (T.1 k) < 0 then gX10_keep 27 [some (.inr (some 19)), some (.inl x1), some (.inl x2), some (.inl x3), some (.inl (nI (k + 1)))] [] M else gX10_keep 52 [some (.inr (some 19)), some (.inl x1), some (.inl x2), some (.inl x3), some (.inl (nI k))] [.inl (nI (ak G T.1 k))] M) := by
      rw [eX10_keep_27, h0, if_neg (by rw [q_le (by omega) (by omega)]; omega), q_cl (show k < 2147483648 by omega), if_neg gk, v3, p_isAsked hG hV hkF, L1, q_add]
      simp only [bnd1, Option.toList_some, List.cons_append, List.nil_append]
    have nofall : ¬ (T.1 k ≠ none ∧ ak G T.1 k = 0) → ∃ M' : MM, gX10_keep 27 [some (.inr (some 19)), some (.inl x1), some (.inl x2), some (.inl x3), some (.inl (nI (k + 1)))] [] M = gX10_keep 27 [some (.inr (some 19)), some (.inl x1), some (.inl x2), some (.inl x3), some (.inl (nI F))] [] M' ∧ VM M' F G (fll G (m + 1) k T).1 ∧ (∀ g, g < F → M' 29 g = nI ((fll G (m + 1) k T).2.1 g)) ∧ M' 19 34 = nI (fll G (m + 1) k T).2.2 ∧ ∀ c j, c ≠ 28 → c ≠ 29 → ¬ (c = 19 ∧ j = 34) → M' c j = M c j := fun hc => by
      have e : fll G (m + 1) k T = fll G m (k + 1) T := by
        show (if T.1 k ≠ none ∧ ak G T.1 k = 0 then _ else _) = _
        rw [if_neg hc]
      rw [e]
      exact ih (k + 1) M T (by omega) hf0 hV h29 h0 h30 h34 (fun g a b => hno g (by omega) b)
    rw [hhead]
    cases hx : T.1 k with
    | none =>
      rw [if_pos (show oI none < 0 by decide)]
      exact nofall (fun e => e.1 hx)
    | some v =>
      have hv8 := v4 v hx
      have e1 : ¬ oI (some v) < 0 := by
        show ¬ nI v < 0
        rw [L0, q_lt (by omega) (by omega)]
        omega
      rw [if_neg e1, eX10_keep_52]
      by_cases hz : ak G T.1 k = 0
      · have hk0 : f0 < k := by
          rcases Nat.lt_or_ge f0 k with h1 | h1
          · exact h1
          · have := hno k (Nat.le_refl _) h1 (by rw [hx]; exact fun h => (by cases h))
            omega
        have e : fll G (m + 1) k T = fll G m (k + 1) (uq T.1 k none, uq T.2.1 k 0, T.2.2 + 1) := by
          show (if T.1 k ≠ none ∧ ak G T.1 k = 0 then _ else _) = _
          rw [if_pos ⟨by rw [hx]; exact fun h => (by cases h), hz⟩]
        have hne : ¬ nI f0 = nI k := by rw [q_eq (by omega) (by omega)]; omega
        have e34 : st2 (st2 M 28 k (-1 : Int32)) 29 k (0 : Int32) 19 34 = nI T.2.2 := by rw [st2_nc _ (by decide), st2_nc _ (by decide)]; exact h34
        have e30 : st2 (st2 (st2 M 28 k (-1 : Int32)) 29 k (0 : Int32)) 19 34 (nI (T.2.2 + 1)) 19 30 = nI f0 := by rw [st2_nj' _ (by decide), st2_nc _ (by decide), st2_nc _ (by decide)]; exact h30
        rw [if_pos (by rw [hz]; rfl), q_cl (show k < 2147483648 by omega), if_neg gk, if_neg gk, e34, L1, q_add, q_add, ← L1, e30, if_neg hne]
        obtain ⟨M', b1, b2, b3, b4, b5⟩ := ih (k + 1) (st2 (st2 (st2 M 28 k (-1 : Int32)) 29 k (0 : Int32)) 19 34 (nI (T.2.2 + 1))) (uq T.1 k none, uq T.2.1 k 0, T.2.2 + 1) (by omega) hf0 (fun g hg => by
          obtain ⟨u1, u2, u3, u4⟩ := hV g hg
          dsimp only
          refine ⟨?_, ?_, ?_, fun v e => ?_⟩
          · rw [st2_nc _ (by decide), st2_nc _ (by decide), st2_nc _ (by decide)]; exact u1
          · rw [st2_nc _ (by decide), st2_nc _ (by decide), st2_nc _ (by decide)]; exact u2
          · rw [st2_nc _ (by decide), st2_nc _ (by decide)]
            by_cases he : g = k
            · rw [he, st2_at, uq_at]; rfl
            · rw [st2_nj' _ he, uq_ne _ _ he]; exact u3
          · by_cases he : g = k
            · rw [he, uq_at] at e; cases e
            · rw [uq_ne _ _ he] at e; exact u4 v e) (fun g hg => by
          dsimp only
          rw [st2_nc _ (by decide)]
          by_cases he : g = k
          · rw [he, st2_at, uq_at]; rfl
          · rw [st2_nj' _ he, st2_nc _ (by decide), uq_ne _ _ he]; exact h29 g hg) (by rw [st2_nj' _ (by decide), st2_nc _ (by decide), st2_nc _ (by decide)]; exact h0) e30 (by rw [st2_at]) (fun g a b => by omega)
        refine ⟨M', ?_, by rw [e]; exact b2, by rw [e]; exact b3, by rw [e]; exact b4, fun c j q1 q2 q3 => ?_⟩
        · exact b1
        · rw [b5 c j q1 q2 q3]
          by_cases hc : c = 19
          · rw [st2_nj' _ (fun e => q3 ⟨hc, e⟩), st2_nc _ q2, st2_nc _ q1]
          · rw [st2_nc _ hc, st2_nc _ q2, st2_nc _ q1]
      · rw [if_neg (by rw [L0, q_eq (by omega) (by omega)]; exact hz), L1, q_add]
        exact nofall (fun e => hz e.2)
theorem p_keepM {M : MM} {F f v b : Nat} {G wd : Nat → Nat → Nat} {S : CS} (hG : GW F G wd) (hK : KM M F G wd S) (hI : IV F G S) (hf : f < F) (ha : ak G S.1 f = 1) (hv : v < 100000000) (hb1 : b ≤ 1) (hw : S.2.2.2.2.2.2.2.2.2.2.1 = 0) (hfl : S.2.2.2.2.2.2.2.2.2.1 = 0) : ∃ M' : MM, mX10_keep [.inr (some 19), .inl (nI f), .inl (nI v), .inl (nI b)] M = some (some (.inl (nI 4)), M') ∧ KM M' F G wd (keepS F G f v b S) ∧ FTm M M' := by
  have hIa := IV_keepA hG hI hf ha hv hb1 hw
  obtain ⟨vl, hb, sk, hd, ls, pl, n, st, sn, fl, wt, rf, rv, k0, k1⟩ := S
  obtain ⟨c1, cD, c2, c3, c4, c5, c6, c7, c8, c9, c10, c11⟩ := hK
  obtain ⟨⟨i1, i2, i3, i4, i5, i6, i7, i8, i9, i10, i11⟩, iA⟩ := hI
  have hw : wt = 0 := hw
  have hfl : fl = 0 := hfl
  have ha : ak G vl f = 1 := ha
  have hF := hG.1
  have gf := gI (c := f) (N := 12) (by omega) (by omega)
  have h01 : nI b = 0 ∨ nI b = 1 := by
    rcases (show b = 0 ∨ b = 1 by omega) with rfl | rfl
    · exact Or.inl rfl
    · exact Or.inr rfl
  have hcg : ak G (uq vl f (some v)) f = ak G vl f := ak_congr hG f hf (fun g hg => uq_ne _ _ (by omega))
  have g0 : ∀ c j, c ≠ 28 → c ≠ 29 → (c = 19 → j ≠ 30 ∧ j ≠ 28) → st2 (st2 (st2 (st2 M 28 f (nI v)) 29 f (nI b)) 19 30 (nI f)) 19 28 (0 : Int32) c j = M c j := fun c j q1 q2 q3 => by
    by_cases hc : c = 19
    · have := q3 hc
      rw [st2_nj' _ this.2, st2_nj' _ this.1, st2_nc _ q2, st2_nc _ q1]
    · rw [st2_nc _ hc, st2_nc _ hc, st2_nc _ q2, st2_nc _ q1]
  have hS0 : SM (st2 (st2 (st2 (st2 M 28 f (nI v)) 29 f (nI b)) 19 30 (nI f)) 19 28 (0 : Int32)) F G wd := c1.fr (g0 19 0 (by decide) (by decide) (fun _ => ⟨by decide, by decide⟩)) (fun c j q1 q2 => g0 c j (by omega) (by omega) (fun e => by omega))
  have hD0 : DM (st2 (st2 (st2 (st2 M 28 f (nI v)) 29 f (nI b)) 19 30 (nI f)) 19 28 (0 : Int32)) F (uq vl f (some v)) (uq hb f b) sk := fun g hg => by
    obtain ⟨q1, q2, q3⟩ := cD g hg
    refine ⟨?_, ?_, ?_⟩
    · rw [st2_nc _ (by decide), st2_nc _ (by decide), st2_nc _ (by decide)]
      by_cases he : g = f
      · rw [he, st2_at, uq_at]; rfl
      · rw [st2_nj' _ he, uq_ne _ _ he]; exact q1
    · rw [st2_nc _ (by decide), st2_nc _ (by decide)]
      by_cases he : g = f
      · rw [he, st2_at, uq_at]
      · rw [st2_nj' _ he, st2_nc _ (by decide), uq_ne _ _ he]; exact q2
    · rw [st2_nc _ (by decide), st2_nc _ (by decide), st2_nc _ (by decide), st2_nc _ (by decide)]; exact q3
  have hV0 := VM_of hS0 hD0 (fun g u hg e => by
    by_cases he : g = f
    · rw [he, uq_at] at e; cases e; exact hv
    · rw [uq_ne _ _ he] at e; exact ((i1 g hg).2.2.1 u e).1)
  obtain ⟨M1, b1, b2, b3, b4, b5⟩ := p_fallM (f0 := f) hG (nI f) (nI v) (nI b) F 0 _ (uq vl f (some v), uq hb f b, 0) (by omega) hf hV0 (fun g hg => (hD0 g hg).2.1) hS0.1 (by rw [st2_nj' _ (by decide), st2_at]) (by rw [g0 19 34 (by decide) (by decide) (fun _ => ⟨by decide, by decide⟩), c8, hfl]) (fun g _ hg hn => by
    dsimp only at hn ⊢
    by_cases he : g = f
    · rw [he, hcg]; exact ha
    · rw [uq_ne _ _ he] at hn
      have h1 : ak G (uq vl f (some v)) g = ak G vl g := ak_congr hG g (by omega) (fun g' hg' => uq_ne _ _ (by omega))
      rw [h1]
      cases hx : vl g with
      | none => exact absurd hx hn
      | some u => exact ((i1 g (by omega)).2.2.1 u hx).2)
  have hkA : keepA F G f v b (vl, hb, sk, hd, ls, pl, n, st, sn, fl, wt, rf, rv, k0, k1) = ((fll G F 0 (uq vl f (some v), uq hb f b, 0)).1, (fll G F 0 (uq vl f (some v), uq hb f b, 0)).2.1, sk, hd, some f, pl, n, st, 0, (fll G F 0 (uq vl f (some v), uq hb f b, 0)).2.2, wt, rf, rv, k0, k1) := rfl
  unfold keepS
  rw [hkA] at hIa ⊢
  generalize fll G F 0 (uq vl f (some v), uq hb f b, 0) = R at b2 b3 b4 hIa ⊢
  obtain ⟨vl', hb', cnt⟩ := R
  dsimp only at b2 b3 b4 hIa ⊢
  have g1 : ∀ c j, c ≠ 28 → c ≠ 29 → (c = 19 → j ≠ 30 ∧ j ≠ 28 ∧ j ≠ 34) → M1 c j = M c j := fun c j q1 q2 q3 => by
    rw [b5 c j q1 q2 (fun e => (q3 e.1).2.2 e.2)]
    exact g0 c j q1 q2 (fun e => ⟨(q3 e).1, (q3 e).2.1⟩)
  have e19 : ∀ j, j ≠ 30 → j ≠ 28 → j ≠ 34 → M1 19 j = M 19 j := fun j q1 q2 q3 => g1 19 j (by decide) (by decide) (fun _ => ⟨q1, q2, q3⟩)
  have f1 : FTm M M1 := fun c j q1 q2 q3 q4 q5 q6 q7 => g1 c j q1 q2 (fun e => by have := q7 e; omega)
  have hK1 : KM M1 F G wd (vl', hb', sk, hd, some f, pl, n, st, 0, cnt, wt, rf, rv, k0, k1) := by
    refine ⟨c1.fr (e19 0 (by decide) (by decide) (by decide)) (fun c j q1 q2 => g1 c j (by omega) (by omega) (fun e => by omega)), fun g hg => ⟨(b2 g hg).2.2.1, b3 g hg, ?_⟩, (e19 29 (by decide) (by decide) (by decide)).trans c2, ?_, (e19 31 (by decide) (by decide) (by decide)).trans c4, fun i hi => (g1 40 i (by decide) (by decide) (fun e => by omega)).trans (c5 i hi), (e19 27 (by decide) (by decide) (by decide)).trans c6, ?_, b4, (e19 32 (by decide) (by decide) (by decide)).trans c9, fun h => by omega, fun h => by omega⟩
    · rw [g1 30 g (by decide) (by decide) (fun e => by omega)]; exact (cD g hg).2.2
    · rw [b5 19 30 (by decide) (by decide) (fun e => by omega), st2_nj' _ (by decide), st2_at]; rfl
    · rw [b5 19 28 (by decide) (by decide) (fun e => by omega), st2_at]; rfl
  have hhead : mX10_keep [.inr (some 19), .inl (nI f), .inl (nI v), .inl (nI b)] M = gX10_keep 27 [some (.inr (some 19)), some (.inl (nI f)), some (.inl (nI v)), some (.inl (nI b)), some (.inl (nI F))] [] M1 := by
    rw [iX10_keep, eX10_keep_0, q_cl (show f < 2147483648 by omega), if_neg gf, if_neg gf, if_pos h01]
    exact b1
  rw [hhead, eX10_keep_27, hK1.1.1, if_pos (nI_le (Nat.le_refl _) (by omega)), hK1.2.2.1]
  cases hd with
  | none =>
    rw [if_pos (show oI none < 0 by decide), eX10_keep_142, L4]
    exact ⟨M1, rfl, hK1, f1⟩
  | some h =>
    have hh := i2 h rfl
    have e1 : ¬ oI (some h) < 0 := by
      show ¬ nI h < 0
      rw [L0, q_lt (by omega) (by omega)]
      omega
    have eh : oI (some h) = nI h := rfl
    rw [if_neg e1, eh, p_isAsked hG b2 hh]
    have hSK : SK M1 F sk := fun g hg => ⟨(hK1.2.1 g hg).2.2, (i1 g hg).2.1⟩
    have hal := ak_le G vl' h
    show ∃ M' : MM, _ ∧ KM M' F G wd (if f = h ∨ ak G vl' h = 0 then _ else _) ∧ _
    have h130 : ∃ M' : MM, gX10_keep 130 [some (.inr (some 19)), some (.inl (nI f)), some (.inl (nI v)), some (.inl (nI b)), some (.inl (nI F))] [] M1 = some (some (.inl (nI 4)), M') ∧ KM M' F G wd (comeS (nxB F G vl' sk h) (vl', hb', sk, some h, some f, pl, n, st, 0, cnt, wt, rf, rv, k0, k1)) ∧ FTm M M' := by
      obtain ⟨M4, d1, d2, d3⟩ := p_comesNow (x := nxB F G vl' sk h) hG hK1 hIa (fun g e => (nxB_ok e).1)
      refine ⟨M4, ?_, d2, f1.trans d3⟩
      rw [eX10_keep_130, hK1.2.2.1, eh, p_nextBehind10 hG b2 hSK hK1.1.1 hh]
      simp only [bnd1, Option.toList_some, List.cons_append, List.nil_append, eX10_keep_139]
      rw [d1]
      simp only [bnd0, Option.toList_none, List.nil_append, eX10_keep_142]
      rfl
    by_cases h1 : f = h
    · rw [if_pos (by rw [h1]), if_pos (Or.inl h1)]
      exact h130
    · rw [if_neg (by rw [q_eq (by omega) (by omega)]; exact h1)]
      simp only [bnd1, Option.toList_some, List.cons_append, List.nil_append, eX10_keep_127]
      by_cases h2 : ak G vl' h = 0
      · rw [if_pos (by rw [h2]; rfl), if_pos (Or.inr h2)]
        exact h130
      · rw [if_neg (by rw [L0, q_eq (by omega) (by omega)]; exact h2), if_neg (fun e => e.elim h1 h2), eX10_keep_142, L4]
        exact ⟨M1, rfl, hK1, f1⟩
