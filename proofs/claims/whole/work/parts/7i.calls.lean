/-! about, field, hearBack, send. -/
def cO (G : Nat → Nat → Nat) (vl : Nat → Option Nat) : Nat → Nat → Nat
  | 0, _ => 0
  | m + 1, f => (if ak G vl f = 1 ∧ vl f = none then 1 else 0) + cO G vl m (f + 1)
def cU (vl : Nat → Option Nat) (hb : Nat → Nat) : Nat → Nat → Nat
  | 0, _ => 0
  | m + 1, f => (if vl f ≠ none ∧ hb f = 0 then 1 else 0) + cU vl hb m (f + 1)
theorem cO_le (G : Nat → Nat → Nat) (vl : Nat → Option Nat) : ∀ m f, cO G vl m f ≤ m := by
  intro m
  induction m with
  | zero => intro f; exact Nat.le_refl _
  | succ m ih =>
    intro f
    have := ih (f + 1)
    unfold cO
    split <;> omega
theorem cU_le (vl : Nat → Option Nat) (hb : Nat → Nat) : ∀ m f, cU vl hb m f ≤ m := by
  intro m
  induction m with
  | zero => intro f; exact Nat.le_refl _
  | succ m ih =>
    intro f
    have := ih (f + 1)
    unfold cU
    split <;> omega
theorem p_oneIf {M : MM} {a : Nat} (ha : a < 2147483648) : mX9_oneIf [.inl (nI a)] M = some (some (.inl (nI (if a = 0 then 0 else 1))), M) := by
  rw [iX9_oneIf, eX9_oneIf_0]
  by_cases h : a = 0
  · rw [h, if_pos (show nI 0 = 0 from rfl), if_pos rfl]; rfl
  · rw [if_neg (by rw [L0, q_eq (by omega) (by omega)]; exact h), if_neg h]; rfl
theorem p_countOpen {M : MM} {F : Nat} {G wd : Nat → Nat → Nat} {vl : Nat → Option Nat} {hb sk : Nat → Nat} (hG : GW F G wd) (hF : FF M F G wd vl hb sk) : mX1_countOpen [.inr (some 1)] M = some (some (.inl (nI (cO G vl F 0))), M) := by
  obtain ⟨hS, hA, hD⟩ := hF
  have hF := hG.1
  have key : ∀ m i a, i + m = F → gX1_countOpen 4 [some (.inr (some 1)), some (.inl (nI a)), some (.inl (nI i))] [] M = some (some (.inl (nI (a + cO G vl m i))), M) := by
    intro m
    induction m with
    | zero =>
      intro i a hi
      rw [eX1_countOpen_4, hS.1, if_pos (nI_le (show F ≤ i by omega) (by omega))]
      rfl
    | succ m ih =>
      intro i a hi
      have hz := zkd_slot (i := i) (by omega)
      obtain ⟨d1, d2, d3, d4⟩ := hD i (by omega)
      rw [eX1_countOpen_4, hS.1, if_neg (by rw [q_le (by omega) (by omega)]; omega), if_neg (by rw [L12, q_le (by omega) (by omega)]; omega), q_cl (show i < 2147483648 by omega), if_neg (gI (by omega) (by omega)), if_pos hz, p_isOpen5 (by omega) (hA i (by omega)) d1 (ak_le _ _ _)]
      simp only [bnd1, Option.toList_some, List.cons_append, List.nil_append, eX1_countOpen_31]
      rw [p_oneIf (by split <;> omega)]
      simp only [bnd1, Option.toList_some, List.cons_append, List.nil_append, eX1_countOpen_34]
      rw [L1, q_add, q_add, ih (i + 1) _ (by omega)]
      have e : (if (if ak G vl i = 1 ∧ vl i = none then 1 else 0) = 0 then 0 else 1) = (if ak G vl i = 1 ∧ vl i = none then 1 else 0) := by
        by_cases hc : ak G vl i = 1 ∧ vl i = none
        · rw [if_pos hc]; rfl
        · rw [if_neg hc]; rfl
      rw [e, Nat.add_assoc]
      rfl
  rw [iX1_countOpen, eX1_countOpen_0, L0, key F 0 0 (by omega), Nat.zero_add]
theorem p_isUnheard5 {M : MM} {f a b : Nat} {o : Option Nat} (hf : f < 12) (h8 : M (f + 44) 8 = nI a) (h9 : M (f + 44) 9 = nI (hv o)) (h11 : M (f + 44) 11 = nI b) (ha : a ≤ 1) (hb : b ≤ 1) (hao : o ≠ none → a = 1) : mX5_isUnheard [.inr (some (f + 44))] M = some (some (.inl (nI (if o ≠ none ∧ b = 0 then 1 else 0))), M) := by
  have hz := zkd_slot hf
  rw [iX5_isUnheard, eX5_isUnheard_0, if_pos hz, h8, if_pos hz, h9, if_pos hz, h11]
  cases o with
  | none =>
    rw [if_neg (fun e : (none : Option Nat) ≠ none ∧ b = 0 => e.1 rfl), if_pos (show nI (hv none) = 0 from rfl)]
    split <;> rfl
  | some v =>
    have h1 := hao (fun e => by cases e)
    rw [h1, if_neg (show ¬ nI 1 = 0 by decide), if_neg (show ¬ nI (hv (some v)) = 0 by show ¬ nI 1 = 0; decide)]
    by_cases hb0 : b = 0
    · rw [if_pos (by rw [hb0]; rfl), if_pos ⟨fun e => (by cases e), hb0⟩]; rfl
    · rw [if_neg (by rw [L0, q_eq (by omega) (by omega)]; exact hb0), if_neg (fun e => hb0 e.2)]; rfl
theorem p_countUnheard {M : MM} {F : Nat} {G wd : Nat → Nat → Nat} {vl : Nat → Option Nat} {hb sk : Nat → Nat} (hG : GW F G wd) (hF : FF M F G wd vl hb sk) (hI : FI F G vl hb sk) : mX1_countUnheard [.inr (some 1)] M = some (some (.inl (nI (cU vl hb F 0))), M) := by
  obtain ⟨hS, hA, hD⟩ := hF
  have hF := hG.1
  have key : ∀ m i a, i + m = F → gX1_countUnheard 4 [some (.inr (some 1)), some (.inl (nI a)), some (.inl (nI i))] [] M = some (some (.inl (nI (a + cU vl hb m i))), M) := by
    intro m
    induction m with
    | zero =>
      intro i a hi
      rw [eX1_countUnheard_4, hS.1, if_pos (nI_le (show F ≤ i by omega) (by omega))]
      rfl
    | succ m ih =>
      intro i a hi
      have hz := zkd_slot (i := i) (by omega)
      obtain ⟨d1, d2, d3, d4⟩ := hD i (by omega)
      obtain ⟨j1, j2, j3, j4⟩ := hI i (by omega)
      rw [eX1_countUnheard_4, hS.1, if_neg (by rw [q_le (by omega) (by omega)]; omega), if_neg (by rw [L12, q_le (by omega) (by omega)]; omega), q_cl (show i < 2147483648 by omega), if_neg (gI (by omega) (by omega)), if_pos hz, p_isUnheard5 (by omega) (hA i (by omega)) d1 d3 (ak_le _ _ _) j1 (fun hn => by
        cases hx : vl i with
        | none => exact absurd hx hn
        | some v => exact (j3 v hx).2)]
      simp only [bnd1, Option.toList_some, List.cons_append, List.nil_append, eX1_countUnheard_31]
      rw [p_oneIf (by split <;> omega)]
      simp only [bnd1, Option.toList_some, List.cons_append, List.nil_append, eX1_countUnheard_34]
      rw [L1, q_add, q_add, ih (i + 1) _ (by omega)]
      have e : (if (if vl i ≠ none ∧ hb i = 0 then 1 else 0) = 0 then 0 else 1) = (if vl i ≠ none ∧ hb i = 0 then 1 else 0) := by
        by_cases hc : vl i ≠ none ∧ hb i = 0
        · rw [if_pos hc]; rfl
        · rw [if_neg hc]; rfl
      rw [e, Nat.add_assoc]
      rfl
  rw [iX1_countUnheard, eX1_countUnheard_0, L0, key F 0 0 (by omega), Nat.zero_add]
theorem c_about {M : MM} (h : RR M) (x : Int32) : OKc M (mX9_about [.inr (some 0), .inl x]) (mX10_about [.inr (some 19), .inl x]) := by
  have hR := h
  obtain ⟨F, mi, G, wd, S, la, t, P, c, w, k, no, od, ne, hC, hH, hN⟩ := h
  obtain ⟨hG, hX, hM, hI, hRT, hokT, r5, r6, r26, r06, r33, hmi, rt, ru⟩ := id hC
  obtain ⟨vl, hb, sk, hd, ls, pl, n, st, sn, fl, wt, rf, rv, k0, k1⟩ := S
  obtain ⟨⟨i1, i2, i3, i4, i5, i6, i7, i8, i9, i10, i11⟩, iA⟩ := id hI
  obtain ⟨c1, c2, c3, c4, c5, c6, c7, c8, c9, c10, c11⟩ := id hX
  obtain ⟨d1, dD, d2, d3, d4, d5, d6, d7, d8, d9, d10, d11⟩ := id hM
  have hF := hG.1
  have hV := VM_of d1 dD (fun g v hg e => ((i1 g hg).2.2.1 v e).1)
  -- the reference counts
  have loop : ∀ m i a b, i + m = F → gX10_about 7 [some (.inr (some 19)), some (.inl x), some (.inl (nI a)), some (.inl (nI b)), some (.inl (nI i))] [] M = gX10_about 7 [some (.inr (some 19)), some (.inl x), some (.inl (nI (a + cO G vl m i))), some (.inl (nI (b + cU vl hb m i))), some (.inl (nI F))] [] M := by
    intro m
    induction m with
    | zero =>
      intro i a b hi
      obtain rfl : i = F := by omega
      rfl
    | succ m ih =>
      intro i a b hi
      have gi := gI (c := i) (N := 12) (by omega) (by omega)
      obtain ⟨q1, q2, q3⟩ := dD i (by omega)
      obtain ⟨j1, j2, j3, j4⟩ := i1 i (by omega)
      have hal := ak_le G vl i
      have h41 : ∀ y : Nat, gX10_about 41 [some (.inr (some 19)), some (.inl x), some (.inl (nI a)), some (.inl (nI b)), some (.inl (nI i))] [.inl (nI y), .inl (nI a)] M = gX10_about 7 [some (.inr (some 19)), some (.inl x), some (.inl (nI (a + y))), some (.inl (nI (b + (if vl i ≠ none ∧ hb i = 0 then 1 else 0)))), some (.inl (nI (i + 1)))] [] M := by
        intro y
        rw [eX10_about_41, q_cl (show i < 2147483648 by omega), if_neg gi, q1, if_neg gi, q2, L0, L1, q_add, q_add, q_add, q_add]
        cases hx : vl i with
        | none => rw [if_pos (show oI none < nI 0 by decide), if_neg (fun e : (none : Option Nat) ≠ none ∧ hb i = 0 => e.1 rfl)]
        | some v =>
          have := (j3 v hx).1
          rw [if_neg (show ¬ oI (some v) < nI 0 by show ¬ nI v < nI 0; rw [q_lt (by omega) (by omega)]; omega)]
          by_cases hb0 : hb i = 0
          · rw [if_pos (by rw [hb0]), if_pos ⟨fun e => (by cases e), hb0⟩]
          · rw [if_neg (by rw [q_eq (by omega) (by omega)]; exact hb0), if_neg (fun e => hb0 e.2)]
      rw [eX10_about_7, d1.1, if_neg (by rw [q_le (by omega) (by omega)]; omega), p_isAsked hG hV (by omega)]
      simp only [bnd1, Option.toList_some, List.cons_append, List.nil_append, eX10_about_23]
      have e40 : gX10_about 40 [some (.inr (some 19)), some (.inl x), some (.inl (nI a)), some (.inl (nI b)), some (.inl (nI i))] [.inl (nI a)] M = gX10_about 7 [some (.inr (some 19)), some (.inl x), some (.inl (nI (a + 0))), some (.inl (nI (b + (if vl i ≠ none ∧ hb i = 0 then 1 else 0)))), some (.inl (nI (i + 1)))] [] M := by
        rw [eX10_about_40]
        exact h41 0
      have hstep : ∀ y, (if ak G vl i = 1 ∧ vl i = none then 1 else 0) = y → gX10_about 7 [some (.inr (some 19)), some (.inl x), some (.inl (nI (a + y))), some (.inl (nI (b + (if vl i ≠ none ∧ hb i = 0 then 1 else 0)))), some (.inl (nI (i + 1)))] [] M = gX10_about 7 [some (.inr (some 19)), some (.inl x), some (.inl (nI (a + cO G vl (m + 1) i))), some (.inl (nI (b + cU vl hb (m + 1) i))), some (.inl (nI F))] [] M := fun y hy => by
        rw [ih (i + 1) _ _ (by omega)]
        have e1 : a + y + cO G vl m (i + 1) = a + cO G vl (m + 1) i := by
          show _ = a + ((if ak G vl i = 1 ∧ vl i = none then 1 else 0) + cO G vl m (i + 1))
          rw [hy]; omega
        have e2 : b + (if vl i ≠ none ∧ hb i = 0 then 1 else 0) + cU vl hb m (i + 1) = b + cU vl hb (m + 1) i := by
          show _ = b + ((if vl i ≠ none ∧ hb i = 0 then 1 else 0) + cU vl hb m (i + 1))
          omega
        rw [e1, e2]
      by_cases h1 : ak G vl i = 1
      · rw [h1, if_neg (show ¬ nI 1 = 0 by decide), q_cl (show i < 2147483648 by omega), if_neg gi, q1]
        cases hx : vl i with
        | none =>
          rw [if_neg (show ¬ (0 : Int32) ≤ oI none by decide)]
          refine (h41 1).trans (hstep 1 ?_)
          rw [if_pos ⟨h1, hx⟩]
        | some v =>
          have := (j3 v hx).1
          rw [if_pos (show (0 : Int32) ≤ oI (some v) from nI_le (Nat.zero_le v) (by omega))]
          refine e40.trans (hstep 0 ?_)
          rw [if_neg (fun e => by rw [hx] at e; cases e.2)]
      · rw [show ak G vl i = 0 by omega, if_pos (show nI 0 = 0 from rfl)]
        exact e40.trans (hstep 0 (by rw [if_neg (fun e => h1 e.1)]))
  have h10 : mX10_about [.inr (some 19), .inl x] M = gX10_about 7 [some (.inr (some 19)), some (.inl x), some (.inl (nI (cO G vl F 0))), some (.inl (nI (cU vl hb F 0))), some (.inl (nI F))] [] M := by
    rw [iX10_about, eX10_about_0, L0, loop F 0 0 0 (by omega), Nat.zero_add, Nat.zero_add]
  have hst : (if nI st = nI 0 then some (some (.inl (nI 0)), M) else some (some (.inl (nI 1)), M) : Option AR) = some (some (.inl (nI (if st = 0 then 0 else 1))), M) := by
    by_cases h : st = 0
    · rw [h, if_pos rfl, if_pos rfl]
    · rw [if_neg (by rw [q_eq (by omega) (by omega)]; exact h), if_neg h]
  have ho : (mX1_countOpen [.inr (some 1)] M).bind (fun r => gX9_about 83 [some (.inr (some 0)), some (.inl x)] (r.1.toList ++ []) r.2) = some (some (.inl (nI (cO G vl F 0))), M) := by
    rw [p_countOpen hG c1]
    simp only [bnd1, Option.toList_some, List.cons_append, List.nil_append, eX9_about_83]
  have hs : (mX9_oneIf [.inl (nI st)] M).bind (fun r => gX9_about 94 [some (.inr (some 0)), some (.inl x)] (r.1.toList ++ []) r.2) = some (some (.inl (nI (if st = 0 then 0 else 1))), M) := by
    rw [p_oneIf (by omega)]
    simp only [bnd1, Option.toList_some, List.cons_append, List.nil_append, eX9_about_94]
  have hu : (mX1_countUnheard [.inr (some 1)] M).bind (fun r => gX9_about 115 [some (.inr (some 0)), some (.inl x)] (r.1.toList ++ []) r.2) = some (some (.inl (nI (cU vl hb F 0))), M) := by
    rw [p_countUnheard hG c1 i1]
    simp only [bnd1, Option.toList_some, List.cons_append, List.nil_append, eX9_about_115]
  have h9 : mX9_about [.inr (some 0), .inl x] M = mX10_about [.inr (some 19), .inl x] M := by
    rw [h10, iX9_about, eX9_about_0, eX10_about_7, d1.1, if_pos (nI_le (Nat.le_refl _) (by omega)), c2, c3, c9, c6, r06, c1.1.1, hH.2.1.1, d2, d3, d9, d6, r33, hH.2.2.1, ho, hs, hu, L0, L1, hst]
  obtain ⟨a, ha⟩ : ∃ a : Int32, mX10_about [.inr (some 19), .inl x] M = some (some (.inl a), M) := by
    rw [h10, eX10_about_7, d1.1, if_pos (nI_le (Nat.le_refl _) (by omega)), d6, L0, L1, hst]
    repeat' split
    all_goals exact ⟨_, rfl⟩
  exact ⟨a, M, M, h9.trans ha, ha, hR⟩
