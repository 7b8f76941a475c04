/-! hearPlace. -/
theorem RHx_fr {M M' : MM} {P : Nat} {c w k : Nat → Nat} (h : RHx M P c w k) (hf : ∀ c' j, c' ≠ 16 → c' ≠ 17 → M' c' j = M c' j) : RHx M' P c w k :=
  h.congr (hf 2 3 (by decide) (by decide)) (funext fun j => hf 7 j (by decide) (by decide)) (funext fun j => hf 8 j (by decide) (by decide)) (funext fun j => hf 9 j (by decide) (by decide))
theorem RDl_fr {M M' : MM} {n ck : Nat} (h : RDl M n ck) (hf : ∀ c' j, c' ≠ 16 → c' ≠ 17 → M' c' j = M c' j) : RDl M' n ck := ⟨by rw [hf 13 1 (by decide) (by decide)]; exact h.1, by rw [hf 13 2 (by decide) (by decide)]; exact h.2⟩
/-- the rows behind m words of one place from the word i on, at the stand q -/
def innD (n ck q : Nat) (wd : Nat → Nat) (ex : Nat → Int) : Nat → Nat → (Nat → Nat → T2) → Nat → Nat → T2
  | 0, _, D => D
  | m + 1, i, D => innD n ck q wd ex m (i + 1) (wordD n ck q (wd i) (ex i) D)
theorem innD_ne {n ck q : Nat} {wd : Nat → Nat} {ex : Nat → Int} {q' s' : Nat} (h : q' ≤ q) : ∀ m i D, innD n ck q wd ex m i D q' s' = D q' s' := by
  intro m
  induction m with
  | zero => intro i D; rfl
  | succ m ih =>
    intro i D
    show innD n ck q wd ex m (i + 1) (wordD n ck q (wd i) (ex i) D) q' s' = D q' s'
    rw [ih, wordD_ne h]
/-- the rows behind one place: r stands are still to go through, the longest first -/
def plcD (n ck : Nat) (wd : Nat → Nat) (ex : Nat → Int) (cn : Nat) : Nat → (Nat → Nat → T2) → Nat → Nat → T2
  | 0, D => D
  | q + 1, D => plcD n ck wd ex cn q (innD n ck q wd ex cn 0 D)
/-- the stand that is looked at while r are left -/
def sI : Nat → Int32
  | 0 => -nI 1
  | q + 1 => nI q
theorem sI_pred (q : Nat) : nI q + -nI 1 = sI q := by
  cases q with
  | zero => decide
  | succ q => exact pk_m1 q
theorem p_hear_inn {P n ck no p q : Nat} {c w k : Nat → Nat} {B0 B : Int} (hW : WH P c w k) (hn : n ≤ 8) (hc : ck ≤ 1) (hno : no ≤ 99) (hp : p < P) (hq : q < 2 * n) (hB : B ≤ 2000) (hB0 : B0 + 100 ≤ B) : ∀ m i (M : MM) (D : Nat → Nat → T2) (d6 d7 : Option AV), i + m = c p → RHx M P c w k → RDl M n ck → RD M D → bndD D B kq10 → (∀ s, s < 10 → ∀ c' k', two2 (D q s) c' k' → -B0 ≤ c' ∧ c' ≤ B0 ∧ k' < kq10 q) → ∃ (M' : MM) (e5 e6 e7 : Option AV), gX0_hearPlace 18 [some (.inr (some 13)), some (.inr (some 2)), some (.inl (nI p)), some (.inl (nI no)), some (.inl (nI q)), some (.inl (nI i)), d6, d7] [] M = gX0_hearPlace 10 [some (.inr (some 13)), some (.inr (some 2)), some (.inl (nI p)), some (.inl (nI no)), some (.inl (sI q)), e5, e6, e7] [] M' ∧ RD M' (innD n ck q (fun i => w (4 * p + i)) (fun i => (k (4 * p + i) : Int) - (no : Int)) m i D) ∧ bndD (innD n ck q (fun i => w (4 * p + i)) (fun i => (k (4 * p + i) : Int) - (no : Int)) m i D) B kq10 ∧ ∀ c' j, c' ≠ 16 → c' ≠ 17 → M' c' j = M c' j := by
  have h8 := hW.1
  have h4 := (hW.2 p hp).1
  intro m
  induction m with
  | zero =>
    intro i M D d6 d7 hi hH hL hRD hb hq0
    refine ⟨M, some (.inl (nI i)), d6, d7, ?_, hRD, hb, fun _ _ _ _ => rfl⟩
    rw [eX0_hearPlace_18, p_wordsIn hW hH hp]
    simp only [bnd1, Option.toList_some, List.cons_append, List.nil_append, eX0_hearPlace_25]
    rw [if_pos (nI_le (show c p ≤ i by omega) (by omega)), L1, sI_pred]
  | succ m ih =>
    intro i M D d6 d7 hi hH hL hRD hb hq0
    have hic : i < c p := by omega
    obtain ⟨hw59, hk99⟩ := (hW.2 p hp).2.1 i hic
    rw [eX0_hearPlace_18, p_wordsIn hW hH hp]
    simp only [bnd1, Option.toList_some, List.cons_append, List.nil_append, eX0_hearPlace_25]
    rw [if_neg (by rw [q_le (by omega) (by omega)]; omega), p_wordAt hW hH hp hic]
    simp only [bnd1, Option.toList_some, List.cons_append, List.nil_append, eX0_hearPlace_35]
    rw [p_standBehind hL hn (by omega) hw59]
    simp only [bnd1, Option.toList_some, List.cons_append, List.nil_append, eX0_hearPlace_45]
    cases hx : nxt n q (w (4 * p + i)) with
    | none =>
      have hwd : wordD n ck q (w (4 * p + i)) ((k (4 * p + i) : Int) - (no : Int)) D = D := by unfold wordD; rw [hx]
      obtain ⟨M', e5, e6, e7, g1, g2, g3, g4⟩ := ih (i + 1) M D (some (.inl (nI (w (4 * p + i))))) (some (.inl (-nI 1))) (by omega) hH hL hRD hb hq0
      refine ⟨M', e5, e6, e7, ?_, ?_, ?_, g4⟩
      · show (if (-nI 1 : Int32) = (-1 : Int32) then _ else _) = _
        rw [L1, if_pos rfl, eX0_hearPlace_72, L1, q_add]
        exact g1
      · show RD M' (innD n ck q _ _ m (i + 1) (wordD n ck q (w (4 * p + i)) ((k (4 * p + i) : Int) - (no : Int)) D))
        rw [hwd]
        exact g2
      · show bndD (innD n ck q _ _ m (i + 1) (wordD n ck q (w (4 * p + i)) ((k (4 * p + i) : Int) - (no : Int)) D)) B kq10
        rw [hwd]
        exact g3
    | some t =>
      obtain ⟨t1, t2, t3, t4, t5⟩ := nxt_spec hx
      have hwd : wordD n ck q (w (4 * p + i)) ((k (4 * p + i) : Int) - (no : Int)) D = growD n ck q t (w (4 * p + i)) ((k (4 * p + i) : Int) - (no : Int)) D := by unfold wordD; rw [hx]
      obtain ⟨M1, f1, f2, f3, f4⟩ := p_grow (x := (k (4 * p + i) : Int) - (no : Int)) hL hn hc t4 t5 t1 t2 t3 hRD hb hB (by omega) (by omega) hB0 hq0
      obtain ⟨M', e5, e6, e7, g1, g2, g3, g4⟩ := ih (i + 1) M1 (growD n ck q t (w (4 * p + i)) ((k (4 * p + i) : Int) - (no : Int)) D) (some (.inl (nI (w (4 * p + i))))) (some (.inl (nI t))) (by omega) (RHx_fr hH f4) (RDl_fr hL f4) f2 f3 (fun s hs c' k' h9 => by rw [growD_ne (by omega)] at h9; exact hq0 s hs c' k' h9)
      refine ⟨M', e5, e6, e7, ?_, ?_, ?_, fun c' j q1 q2 => by rw [g4 c' j q1 q2, f4 c' j q1 q2]⟩
      · show (if (nI t : Int32) = (-1 : Int32) then _ else _) = _
        rw [L1, if_neg (by rw [q_m1e (by omega)]; exact fun h => h), p_costAt hW hH hp hic]
        simp only [bnd1, Option.toList_some, List.cons_append, List.nil_append, eX0_hearPlace_67]
        have hsub : nI (k (4 * p + i)) - nI no = iZ ((k (4 * p + i) : Int) - (no : Int)) := by rw [iZ_nat (k (4 * p + i)), iZ_nat no, z_sub]
        have hoI : oI (some t) = nI t := rfl
        rw [hsub, hoI, f1]
        simp only [bnd0, Option.toList_none, List.nil_append, eX0_hearPlace_72]
        rw [L1, q_add]
        exact g1
      · show RD M' (innD n ck q _ _ m (i + 1) (wordD n ck q (w (4 * p + i)) ((k (4 * p + i) : Int) - (no : Int)) D))
        rw [hwd]
        exact g2
      · show bndD (innD n ck q _ _ m (i + 1) (wordD n ck q (w (4 * p + i)) ((k (4 * p + i) : Int) - (no : Int)) D)) B kq10
        rw [hwd]
        exact g3
/-- hearPlace from the stand r - 1 on; D0: the rows ahead of the place -/
theorem p_hear_out {P n ck no p : Nat} {c w k : Nat → Nat} {B0 B : Int} (hW : WH P c w k) (hn : n ≤ 8) (hc : ck ≤ 1) (hno : no ≤ 99) (hp : p < P) (hB : B ≤ 2000) (hB0 : B0 + 100 ≤ B) (D0 : Nat → Nat → T2) (hb0 : bndD D0 B0 kq10) : ∀ r (M : MM) (D : Nat → Nat → T2) (d5 d6 d7 : Option AV), r ≤ 2 * n → RHx M P c w k → RDl M n ck → RD M D → bndD D B kq10 → (∀ q, q < r → ∀ s, D q s = D0 q s) → ∃ M' : MM, gX0_hearPlace 10 [some (.inr (some 13)), some (.inr (some 2)), some (.inl (nI p)), some (.inl (nI no)), some (.inl (sI r)), d5, d6, d7] [] M = some (none, M') ∧ RD M' (plcD n ck (fun i => w (4 * p + i)) (fun i => (k (4 * p + i) : Int) - (no : Int)) (c p) r D) ∧ bndD (plcD n ck (fun i => w (4 * p + i)) (fun i => (k (4 * p + i) : Int) - (no : Int)) (c p) r D) B kq10 ∧ ∀ c' j, c' ≠ 16 → c' ≠ 17 → M' c' j = M c' j := by
  intro r
  induction r with
  | zero =>
    intro M D d5 d6 d7 hr hH hL hRD hb hD
    refine ⟨M, ?_, hRD, hb, fun _ _ _ _ => rfl⟩
    rw [eX0_hearPlace_10, L0]
    show (if (-nI 1 : Int32) < nI 0 then _ else _) = _
    rw [if_pos (by rw [q_m1lt (by omega)]; trivial)]
  | succ q ih =>
    intro M D d5 d6 d7 hr hH hL hRD hb hD
    obtain ⟨M1, e5, e6, e7, f1, f2, f3, f4⟩ := p_hear_inn (q := q) hW hn hc hno hp (by omega) hB hB0 (c p) 0 M D d6 d7 (by omega) hH hL hRD hb (fun s hs c' k' h9 => by
      rw [hD q (by omega) s] at h9
      exact (hb0 q s (by omega) hs).2 c' k' h9)
    obtain ⟨M2, g1, g2, g3, g4⟩ := ih M1 _ e5 e6 e7 (by omega) (RHx_fr hH f4) (RDl_fr hL f4) f2 f3 (fun q' hq' s => by rw [innD_ne (by omega)]; exact hD q' (by omega) s)
    refine ⟨M2, ?_, g2, g3, fun c' j q1 q2 => by rw [g4 c' j q1 q2, f4 c' j q1 q2]⟩
    rw [eX0_hearPlace_10, L0]
    show (if (nI q : Int32) < nI 0 then _ else _) = _
    rw [if_neg (by rw [q_lt (by omega) (by omega)]; omega)]
    exact f1.trans g1
theorem p_hearPlace {M : MM} {D : Nat → Nat → T2} {P n ck no p : Nat} {c w k : Nat → Nat} {B0 : Int} (hW : WH P c w k) (hn : n ≤ 8) (hc : ck ≤ 1) (hno : no ≤ 99) (hp : p < P) (hB0 : B0 ≤ 1900) (hH : RHx M P c w k) (hL : RDl M n ck) (hRD : RD M D) (hb0 : bndD D B0 kq10) : ∃ M' : MM, mX0_hearPlace [.inr (some 13), .inr (some 2), .inl (nI p), .inl (nI no)] M = some (none, M') ∧ RD M' (plcD n ck (fun i => w (4 * p + i)) (fun i => (k (4 * p + i) : Int) - (no : Int)) (c p) (2 * n) D) ∧ bndD (plcD n ck (fun i => w (4 * p + i)) (fun i => (k (4 * p + i) : Int) - (no : Int)) (c p) (2 * n) D) (B0 + 100) kq10 ∧ ∀ c' j, c' ≠ 16 → c' ≠ 17 → M' c' j = M c' j := by
  have hb1 : bndD D (B0 + 100) kq10 := fun q s hq hs => ⟨(hb0 q s hq hs).1, fun c' k' h => by
    have := (hb0 q s hq hs).2 c' k' h
    exact ⟨by omega, by omega, this.2.2⟩⟩
  have hsI : (2 : Int32) * M 13 1 - (1 : Int32) = sI (2 * n) := by
    rw [hL.1, L2, L1, q_mul]
    cases n with
    | zero => decide
    | succ n => rw [q_sub (by omega), show 2 * (n + 1) = 2 * n + 1 + 1 by omega]; rfl
  obtain ⟨M', g1, g2, g3, g4⟩ := p_hear_out (B := B0 + 100) hW hn hc hno hp (by omega) (Int.le_refl _) D hb0 (2 * n) M D none none none (Nat.le_refl _) hH hL hRD hb1 (fun _ _ _ => rfl)
  refine ⟨M', ?_, g2, g3, g4⟩
  rw [iX0_hearPlace, eX0_hearPlace_0, hsI]
  exact g1
