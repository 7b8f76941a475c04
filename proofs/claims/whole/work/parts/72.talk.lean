/-! The talk's state, and what is done with it. -/
theorem oI_inj {a b : Option Nat} (ha : ∀ v, a = some v → v < 2147483648) (hb : ∀ v, b = some v → v < 2147483648) : (oI a = oI b) = (a = b) := by
  apply propext
  constructor
  · intro h
    cases a with
    | none =>
      cases b with
      | none => rfl
      | some v =>
        have h : (-nI 1 : Int32) = nI v := h
        rw [q_em1 (hb v rfl)] at h
        exact h.elim
    | some u =>
      cases b with
      | none =>
        have h : nI u = (-nI 1 : Int32) := h
        rw [q_m1e (ha u rfl)] at h
        exact h.elim
      | some v =>
        have h : nI u = nI v := h
        rw [q_eq (ha u rfl) (hb v rfl)] at h
        rw [h]
  · intro h; rw [h]
/-- values, heard back, skipped; at hand, last; pile; stopped, sent, fallen; waits, of which field and value, first and second key -/
abbrev CS : Type := (Nat → Option Nat) × (Nat → Nat) × (Nat → Nat) × Option Nat × Option Nat × (Nat → Nat) × Nat × Nat × Nat × Nat × Nat × Nat × Nat × Nat × Nat
def FF (M : MM) (F : Nat) (G wd : Nat → Nat → Nat) (vl : Nat → Option Nat) (hb sk : Nat → Nat) : Prop := SX M F G wd ∧ AX M F G vl ∧ DX M F vl hb sk
def KX (M : MM) (F : Nat) (G wd : Nat → Nat → Nat) : CS → Prop
  | (vl, hb, sk, hd, ls, pl, n, st, sn, fl, wt, rf, rv, k0, k1) => FF M F G wd vl hb sk ∧ M 4 3 = oI hd ∧ M 4 4 = oI ls ∧ M 14 1 = nI n ∧ (∀ i, i < n → M 18 i = nI (pl i)) ∧ M 4 5 = nI st ∧ M 4 6 = nI sn ∧ M 4 7 = nI fl ∧ M 4 8 = nI wt ∧ (wt = 1 → M 4 9 = nI rf ∧ M 4 10 = nI rv) ∧ (wt = 2 → M 4 11 = nI k0 ∧ M 4 12 = nI k1)
def FI (F : Nat) (G : Nat → Nat → Nat) (vl : Nat → Option Nat) (hb sk : Nat → Nat) : Prop := ∀ f, f < F → hb f ≤ 1 ∧ sk f ≤ 1 ∧ (∀ v, vl f = some v → v < 100000000 ∧ ak G vl f = 1) ∧ (vl f = none → hb f = 0)
def okK (F : Nat) (hd ls : Option Nat) (key : Nat) : Prop := key < 900000000 ∧ (key / 100000000 = 0 → hd ≠ none) ∧ (key / 100000000 = 8 → ls ≠ none) ∧ (key / 100000000 = 7 → key % 100000000 < F)
def IVa (F : Nat) (G : Nat → Nat → Nat) : CS → Prop
  | (vl, hb, sk, hd, ls, pl, n, st, sn, fl, wt, rf, rv, k0, k1) => FI F G vl hb sk ∧ (∀ f, hd = some f → f < F) ∧ (∀ f, ls = some f → f < F ∧ ak G vl f = 1) ∧ n ≤ 20 ∧ (∀ i, i < n → pl i < F) ∧ st ≤ 1 ∧ sn ≤ 1 ∧ fl ≤ 12 ∧ wt ≤ 2 ∧ (wt = 1 → rf < F ∧ ak G vl rf = 1 ∧ rv < 100000000) ∧ (wt = 2 → okK F hd ls k0 ∧ okK F hd ls k1)
def IV (F : Nat) (G : Nat → Nat → Nat) (S : CS) : Prop := IVa F G S ∧ ∀ f, S.2.2.2.1 = some f → ak G S.1 f = 1
def pushS (pl : Nat → Nat) (n h : Nat) : (Nat → Nat) × Nat := if n < 20 then (uq pl n h, n + 1) else (uq (fun i => pl (i + 1)) 19 h, 20)
theorem pushS_lt {F n h : Nat} {pl : Nat → Nat} (hn : n ≤ 20) (hp : ∀ i, i < n → pl i < F) (hh : h < F) : (pushS pl n h).2 ≤ 20 ∧ ∀ i, i < (pushS pl n h).2 → (pushS pl n h).1 i < F := by
  unfold pushS
  by_cases h1 : n < 20
  · rw [if_pos h1]
    refine ⟨by show n + 1 ≤ 20; omega, fun i hi => ?_⟩
    have hi : i < n + 1 := hi
    show uq pl n h i < F
    by_cases he : i = n
    · rw [he, uq_at]; exact hh
    · rw [uq_ne _ _ he]; exact hp i (by omega)
  · rw [if_neg h1]
    refine ⟨Nat.le_refl _, fun i hi => ?_⟩
    have hi : i < 20 := hi
    show uq (fun i => pl (i + 1)) 19 h i < F
    by_cases he : i = 19
    · rw [he, uq_at]; exact hh
    · rw [uq_ne _ _ he]; exact hp (i + 1) (by omega)
/-! the class -/
theorem FF.fr {M M' : MM} {F : Nat} {G wd : Nat → Nat → Nat} {vl : Nat → Option Nat} {hb sk : Nat → Nat} (h : FF M F G wd vl hb sk) (hG : GW F G wd) (h1 : M' 1 1 = M 1 1) (hc : ∀ c j, 44 ≤ c → M' c j = M c j) : FF M' F G wd vl hb sk := by
  obtain ⟨h2, h3, h4⟩ := h
  refine ⟨h2.fr h1 (fun c j q _ => hc c j q) hG, fun f hf => (hc _ _ (by omega)).trans (h3 f hf), fun f hf => ?_⟩
  obtain ⟨a, b, c, d⟩ := h4 f hf
  exact ⟨(hc _ _ (by omega)).trans a, fun v e => (hc _ _ (by omega)).trans (b v e), (hc _ _ (by omega)).trans c, (hc _ _ (by omega)).trans d⟩
theorem p_push {M : MM} {pl : Nat → Nat} {n h : Nat} (hn : n ≤ 20) (h1 : M 14 1 = nI n) (h2 : ∀ i, i < n → M 18 i = nI (pl i)) : ∃ M' : MM, mX3_push [.inr (some 14), .inl (nI h)] M = some (none, M') ∧ M' 14 1 = nI (pushS pl n h).2 ∧ (∀ i, i < (pushS pl n h).2 → M' 18 i = nI ((pushS pl n h).1 i)) ∧ ∀ c j, c ≠ 18 → ¬ (c = 14 ∧ j = 1) → M' c j = M c j := by
  have h54 : ∀ (M1 : MM) (a : Nat) (d2 : Option AV), a < 20 → M1 14 1 = nI a → gX3_push 54 [some (.inr (some 14)), some (.inl (nI h)), d2] [] M1 = some (none, st2 (st2 M1 18 a (nI h)) 14 1 (nI (a + 1))) := by
    intro M1 a d2 ha e
    rw [eX3_push_54, e, if_neg (by rw [L0, q_lt (by omega) (by omega)]; omega), if_neg (by rw [L20, q_le (by omega) (by omega)]; omega), q_cl (show a < 2147483648 by omega), if_neg (gI (by omega) (by omega)), st2_nc _ (by decide), e, L1, q_add]
  have loop : ∀ m i (M1 : MM), i + m = 20 → 1 ≤ i → (∀ j, j < i - 1 → M1 18 j = nI (pl (j + 1))) → (∀ j, i - 1 ≤ j → j < 20 → M1 18 j = nI (pl j)) → ∃ M2 : MM, gX3_push 14 [some (.inr (some 14)), some (.inl (nI h)), some (.inl (nI i))] [] M1 = gX3_push 54 [some (.inr (some 14)), some (.inl (nI h)), some (.inl (nI 20))] [] (st2 M2 14 1 (nI 19)) ∧ (∀ j, j < 19 → M2 18 j = nI (pl (j + 1))) ∧ ∀ c j, c ≠ 18 → M2 c j = M1 c j := by
    intro m
    induction m with
    | zero =>
      intro i M1 hi h1 ha hb
      refine ⟨M1, ?_, fun j hj => ha j (by omega), fun _ _ _ => rfl⟩
      rw [eX3_push_14, if_pos (by rw [L20]; exact nI_le (show 20 ≤ i by omega) (by omega)), show i = 20 by omega]
      rfl
    | succ m ih =>
      intro i M1 hi h1 ha hb
      obtain ⟨M2, a1, a2, a3⟩ := ih (i + 1) (st2 M1 18 (i - 1) (nI (pl i))) (by omega) (by omega) (fun j hj => by
        by_cases he : j = i - 1
        · rw [he, st2_at, show i - 1 + 1 = i by omega]
        · rw [st2_nj _ he]; exact ha j (by omega)) (fun j q1 q2 => by rw [st2_nj _ (by omega)]; exact hb j (by omega) q2)
      refine ⟨M2, ?_, a2, fun c j q => by rw [a3 c j q, st2_nc _ q]⟩
      rw [eX3_push_14, if_neg (by rw [L20, q_le (by omega) (by omega)]; omega), q_cl (show i < 2147483648 by omega), if_neg (gI (by omega) (by omega)), L1, q_sub (by omega), q_cl (show i - 1 < 2147483648 by omega), if_neg (gI (by omega) (by omega)), q_add, hb i (by omega) (by omega)]
      exact a1
  rw [iX3_push, eX3_push_0, h1]
  unfold pushS
  by_cases hlt : n < 20
  · rw [if_pos hlt, if_pos (by rw [L20, q_lt (by omega) (by omega)]; exact hlt), h54 M n none hlt h1]
    refine ⟨_, rfl, by rw [st2_at], fun i hi => ?_, fun c j q1 q2 => ?_⟩
    · have hi : i < n + 1 := hi
      show _ = nI (uq pl n h i)
      rw [st2_nc _ (by decide)]
      by_cases he : i = n
      · rw [he, st2_at, uq_at]
      · rw [st2_nj _ he, uq_ne _ _ he]; exact h2 i (by omega)
    · by_cases hc : c = 14
      · subst hc
        rw [st2_nj _ (fun e => q2 ⟨rfl, e⟩), st2_nc _ q1]
      · rw [st2_nc _ hc, st2_nc _ q1]
  · rw [if_neg hlt, if_neg (by rw [L20, q_lt (by omega) (by omega)]; exact hlt), L1]
    obtain ⟨M2, a1, a2, a3⟩ := loop 19 1 M (by omega) (by omega) (fun j hj => by omega) (fun j _ hj => h2 j (by omega))
    rw [a1, h54 _ 19 _ (by omega) (by rw [st2_at])]
    refine ⟨_, rfl, by rw [st2_at], fun i hi => ?_, fun c j q1 q2 => ?_⟩
    · have hi : i < 20 := hi
      show _ = nI (uq (fun i => pl (i + 1)) 19 h i)
      rw [st2_nc _ (by decide)]
      by_cases he : i = 19
      · rw [he, st2_at, uq_at]
      · rw [st2_nj _ he, st2_nc _ (by decide), uq_ne _ _ he]; exact a2 i (by omega)
    · by_cases hc : c = 14
      · subst hc
        rw [st2_nj _ (fun e => q2 ⟨rfl, e⟩), st2_nc _ q1, st2_nj _ (fun e => q2 ⟨rfl, e⟩), a3 14 j q1]
      · rw [st2_nc _ hc, st2_nc _ q1, st2_nc _ hc, a3 c j q1]
/-- what the talk of the class may touch -/
def FT (M M' : MM) : Prop := ∀ c j, c ≠ 4 → c ≠ 14 → c ≠ 18 → (c < 44 ∨ 56 ≤ c) → M' c j = M c j
theorem FT.trans {M M1 M2 : MM} (h1 : FT M M1) (h2 : FT M1 M2) : FT M M2 := fun c j a b d e => (h2 c j a b d e).trans (h1 c j a b d e)
def comeS (x : Option Nat) : CS → CS
  | (vl, hb, sk, hd, ls, pl, n, r) => if x = hd then (vl, hb, sk, hd, ls, pl, n, r) else match hd with
    | none => (vl, hb, sk, x, ls, pl, n, r)
    | some h => (vl, hb, sk, x, ls, (pushS pl n h).1, (pushS pl n h).2, r)
theorem p_come {M : MM} {F : Nat} {G wd : Nat → Nat → Nat} {S : CS} {x : Option Nat} (hG : GW F G wd) (hK : KX M F G wd S) (hI : IVa F G S) (hx : ∀ f, x = some f → f < F) : ∃ M' : MM, mX6_come [.inr (some 4), .inl (oI x)] M = some (none, M') ∧ KX M' F G wd (comeS x S) ∧ FT M M' := by
  obtain ⟨vl, hb, sk, hd, ls, pl, n, st, sn, fl, wt, rf, rv, k0, k1⟩ := S
  obtain ⟨c1, c2, c3, c4, c5, c6, c7, c8, c9, c10, c11⟩ := hK
  obtain ⟨i1, i2, i3, i4, i5, -⟩ := hI
  have hF := hG.1
  have hxb : ∀ v, x = some v → v < 2147483648 := fun v e => by have := hx v e; omega
  have hhb : ∀ v, hd = some v → v < 2147483648 := fun v e => by have := i2 v e; omega
  rw [iX6_come, eX6_come_0, c2]
  show ∃ M' : MM, _ ∧ KX M' F G wd (if x = hd then _ else _) ∧ _
  by_cases he : x = hd
  · rw [if_pos (by rw [he]), if_pos he]
    exact ⟨M, rfl, ⟨c1, c2, c3, c4, c5, c6, c7, c8, c9, c10, c11⟩, fun _ _ _ _ _ _ => rfl⟩
  · rw [if_neg (by rw [oI_inj hxb hhb]; exact he), if_neg he]
    cases hd with
    | none =>
      rw [if_pos (show oI none = (-1 : Int32) from rfl), eX6_come_28]
      refine ⟨_, rfl, ⟨c1.fr hG (st2_nc _ (by decide)) (fun c j q => st2_nc _ (by omega)), by rw [st2_at], ?_, ?_, fun i hi => ?_, ?_, ?_, ?_, ?_, fun h => ?_, fun h => ?_⟩, fun c j q1 q2 q3 q4 => st2_nc _ q1⟩
      · rw [st2_nj' _ (by decide)]; exact c3
      · rw [st2_nc _ (by decide)]; exact c4
      · rw [st2_nc _ (by decide)]; exact c5 i hi
      · rw [st2_nj' _ (by decide)]; exact c6
      · rw [st2_nj' _ (by decide)]; exact c7
      · rw [st2_nj' _ (by decide)]; exact c8
      · rw [st2_nj' _ (by decide)]; exact c9
      · rw [st2_nj' _ (by decide), st2_nj' _ (by decide)]; exact c10 h
      · rw [st2_nj' _ (by decide), st2_nj' _ (by decide)]; exact c11 h
    | some h =>
      have hh := i2 h rfl
      have e1 : ¬ oI (some h) = (-1 : Int32) := by
        show ¬ nI h = (-1 : Int32)
        rw [L1, q_m1e (by omega)]
        exact fun h => h
      obtain ⟨M1, a1, a2, a3, a4⟩ := p_push (h := h) i4 c4 c5
      have a4' : ∀ j, M1 4 j = M 4 j := fun j => a4 4 j (by decide) (fun e => by omega)
      rw [if_neg e1]
      show ∃ M' : MM, (mX3_push [.inr (some 14), .inl (nI h)] M).bind _ = _ ∧ _
      rw [a1]
      simp only [bnd0, Option.toList_none, List.nil_append, eX6_come_28]
      refine ⟨_, rfl, ⟨c1.fr hG (by rw [st2_nc _ (by decide)]; exact a4 1 1 (by decide) (fun e => by omega)) (fun c j q => by rw [st2_nc _ (by omega)]; exact a4 c j (by omega) (fun e => by omega)), by rw [st2_at], ?_, ?_, fun i hi => ?_, ?_, ?_, ?_, ?_, fun h => ?_, fun h => ?_⟩, fun c j q1 q2 q3 q4 => by rw [st2_nc _ q1]; exact a4 c j q3 (fun e => q2 e.1)⟩
      · rw [st2_nj' _ (by decide), a4']; exact c3
      · rw [st2_nc _ (by decide)]; exact a2
      · rw [st2_nc _ (by decide)]; exact a3 i hi
      · rw [st2_nj' _ (by decide), a4']; exact c6
      · rw [st2_nj' _ (by decide), a4']; exact c7
      · rw [st2_nj' _ (by decide), a4']; exact c8
      · rw [st2_nj' _ (by decide), a4']; exact c9
      · rw [st2_nj' _ (by decide), st2_nj' _ (by decide), a4', a4']; exact c10 h
      · rw [st2_nj' _ (by decide), st2_nj' _ (by decide), a4', a4']; exact c11 h
/-- the state behind a come, still right -/
theorem IV_come {F : Nat} {G : Nat → Nat → Nat} {S : CS} {x : Option Nat} (hI : IVa F G S) (hx : ∀ f, x = some f → f < F ∧ ak G S.1 f = 1) (hw : S.2.2.2.2.2.2.2.2.2.2.1 = 0) : IV F G (comeS x S) := by
  obtain ⟨vl, hb, sk, hd, ls, pl, n, st, sn, fl, wt, rf, rv, k0, k1⟩ := S
  obtain ⟨i1, i2, i3, i4, i5, i6, i7, i8, i9, i10, i11⟩ := hI
  have hw : wt = 0 := hw
  have hw2 : wt ≠ 2 := by omega
  show IV F G (if x = hd then _ else _)
  by_cases he : x = hd
  · rw [if_pos he]
    exact ⟨⟨i1, i2, i3, i4, i5, i6, i7, i8, i9, i10, i11⟩, fun f e => (hx f (he.trans e)).2⟩
  · rw [if_neg he]
    cases hd with
    | none => exact ⟨⟨i1, fun f e => (hx f e).1, i3, i4, i5, i6, i7, i8, i9, i10, fun h => absurd h hw2⟩, fun f e => (hx f e).2⟩
    | some h =>
      obtain ⟨p1, p2⟩ := pushS_lt i4 i5 (i2 h rfl)
      exact ⟨⟨i1, fun f e => (hx f e).1, i3, p1, p2, i6, i7, i8, i9, i10, fun h => absurd h hw2⟩, fun f e => (hx f e).2⟩
