/-! SAY: the class. -/
theorem CX_ok {P no od F : Nat} {G wd : Nat → Nat → Nat} {c w k : Nat → Nat} {hd ls : Option Nat} (hG : GW F G wd) (hhF : ∀ f, hd = some f → f < F) (hlF : ∀ f, ls = some f → f < F) {cc : Int} {key : Nat} (h : CX P no od F G wd c w k hd ls cc key) : okK F hd ls key := by
  have hca : ∀ (o : Option Nat) (s : Nat), (∀ f, o = some f → f < F) → CA P no od G wd c w k o s cc key → ∃ v, key = key2 s v ∧ v < 100000000 ∧ o ≠ none := by
    rintro o s hoF ⟨f, rfl, ⟨h0, p, i, v, x, -, hp, hi, hv, hl, e1, e2⟩ | ⟨h0, x, v, ⟨l, h1, h2⟩, e1, e2⟩⟩
    · have hb := hG.2 f (hoF f rfl)
      have h6 := hb.2.2.2.2.1
      have := fnd_some hv
      exact ⟨v, e2, by omega, fun e => by cases e⟩
    · have hb := hG.2 f (hoF f rfl)
      have h8 := hb.2.1
      have hk := (PF_ok _ _ _ (okS0 (G 1 f) (G 2 f)) h2).2.1
      dsimp only at hk
      have h9 : 10 ^ (2 * G 1 f / 2) ≤ 10 ^ 8 := Nat.pow_le_pow_right (by decide) (by omega)
      exact ⟨v, e2, by omega, fun e => by cases e⟩
  rcases h with ((h | h) | h) | h
  · obtain ⟨v, rfl, hv, hne⟩ := hca hd 0 hhF h
    refine ⟨by unfold key2; omega, fun _ => hne, fun e => ?_, fun e => ?_⟩
    · unfold key2 at e; omega
    · unfold key2 at e; omega
  · obtain ⟨p, i, -, hp, hi, h1, h2, e1, rfl⟩ := h
    refine ⟨by unfold key2; omega, fun e => ?_, fun e => ?_, fun e => ?_⟩
    all_goals (unfold key2 at e; omega)
  · obtain ⟨p, i, v, x, -, hp, hi, hv, hl, e1, rfl⟩ := h
    have := fnd_some hv
    have := hG.1
    refine ⟨by unfold key2; omega, fun e => ?_, fun e => ?_, fun e => ?_⟩
    · unfold key2 at e; omega
    · unfold key2 at e; omega
    · unfold key2; omega
  · obtain ⟨v, rfl, hv, hne⟩ := hca ls 8 hlF h
    refine ⟨by unfold key2; omega, fun e => ?_, fun _ => hne, fun e => ?_⟩
    · unfold key2 at e; omega
    · unfold key2 at e; omega
theorem okTK_of {P no od F : Nat} {G wd : Nat → Nat → Nat} {c w k : Nat → Nat} {hd ls : Option Nat} {t : T2} (hG : GW F G wd) (hhF : ∀ f, hd = some f → f < F) (hlF : ∀ f, ls = some f → f < F) (h : P2 (CX P no od F G wd c w k hd ls) t) (ht : t.1 ≠ none) : okTK F hd ls t := by
  have hin : ∀ c k, two2 t c k → okK F hd ls k := fun c k q => CX_ok hG hhF hlF (P2_in h q)
  obtain ⟨a, b⟩ := t
  cases a with
  | none => exact absurd rfl ht
  | some q =>
    refine ⟨hin q.1 q.2 (Or.inl rfl), fun hb => ?_⟩
    cases b with
    | none => exact absurd rfl hb
    | some q1 => exact hin q1.1 q1.2 (Or.inr rfl)
theorem CX_empty {no od F : Nat} {G wd : Nat → Nat → Nat} {c w k : Nat → Nat} {hd ls : Option Nat} {t : T2} (hW : WH 0 c w k) (hG : GW F G wd) (hhF : ∀ f, hd = some f → f < F) (hlF : ∀ f, ls = some f → f < F) (h : P2 (CX 0 no od F G wd c w k hd ls) t) : t = (none, none) := by
  refine P2_uniq h (fun cc key q => ?_)
  obtain ⟨l, x, b, h1, -, h2⟩ := CX_OR hW hG hhF hlF cc key q
  exact h2.1 h1.2
def fl0 : CS → CS
  | (vl, hb, sk, hd, ls, pl, n, st, sn, _, r) => (vl, hb, sk, hd, ls, pl, n, st, sn, 0, r)
def sayS (F : Nat) (G : Nat → Nat → Nat) (P ne : Nat) (t : T2) (S : CS) : Nat × CS := if t.1 = none then (if P = 0 ∧ S.2.2.2.2.2.2.2.1 = 0 then 0 else 1, fl0 S) else hearS F G ne t (fl0 S)
def difI : Nat → Int32 → Int32 → Int32 → Int32
  | 0, b, _, _ => b
  | m + 1, b, x, y => difI m (if x - x / (10 : Int32) * (10 : Int32) = y - y / (10 : Int32) * (10 : Int32) then b else b ||| ((1 : Int32) <<< (nI m &&& 31))) (x / (10 : Int32)) (y / (10 : Int32))
/-- which digits differ -/
def dfP (G : Nat → Nat → Nat) (hd : Option Nat) (t : T2) : Int32 := match hd with
  | none => 0
  | some f => if oS t.1 = some 0 ∧ oS t.2 = some 0 then difI (G 1 f) 0 (oI (oV t.1)) (oI (oV t.2)) else 0
def miS (a mi : Nat) : Nat := if a ≤ 1 then (if mi = 9 then 9 else mi + 1) else 0
theorem oS_0 {o : Option (Int × Nat)} (h : okp o) : (oI (oS o) = 0) = (oS o = some 0) := by
  apply propext
  cases o with
  | none => exact ⟨fun h => by revert h; decide, fun h => by cases h⟩
  | some q =>
    obtain ⟨c, k⟩ := q
    obtain ⟨-, -, h3⟩ := h
    show nI (k / 100000000) = nI 0 ↔ some (k / 100000000) = some 0
    rw [q_eq (by omega) (by omega)]
    exact ⟨fun h => by rw [h], fun h => Option.some.inj h⟩
theorem p_difX {M : MM} {F : Nat} {G wd : Nat → Nat → Nat} {hd : Option Nat} {t : T2} (hG : GW F G wd) (hS : SX M F G wd) (h43 : M 4 3 = oI hd) (hhF : ∀ f, hd = some f → f < F) (hR : RT M 11 12 0 t) (hok : okT t) : mX9_differingDigits [.inr (some 0)] M = some (some (.inl (dfP G hd t)), M) := by
  have hF := hG.1
  rw [iX9_differingDigits, eX9_differingDigits_0, h43, p_slotAt hF hS.1 hhF]
  simp only [bnd1, Option.toList_some, List.cons_append, List.nil_append, eX9_differingDigits_14]
  cases hd with
  | none => rfl
  | some f =>
    have hf := hhF f rfl
    have hz := zkd_slot (i := f) (by omega)
    obtain ⟨b1, b2, -⟩ := hG.2 f hf
    have e0 : rk2 t 0 = t.1 := rfl
    have e1 : rk2 t 1 = t.2 := rfl
    have loop : ∀ m (b x y : Int32), m ≤ 8 → gX9_differingDigits 72 [some (.inr (some 0)), some (.inr (some (f + 44))), some (.inl b), some (.inl x), some (.inl y), some (.inl (sI m))] [] M = some (some (.inl (difI m b x y)), M) := by
      intro m
      induction m with
      | zero =>
        intro b x y _
        rw [eX9_differingDigits_72, if_pos (show sI 0 < 0 by decide)]
        rfl
      | succ m ih =>
        intro b x y hm
        have es : sI (m + 1) = nI m := rfl
        have e96 : ∀ b' : Int32, gX9_differingDigits 96 [some (.inr (some 0)), some (.inr (some (f + 44))), some (.inl b'), some (.inl x), some (.inl y), some (.inl (nI m))] [] M = some (some (.inl (difI m b' (x / (10 : Int32)) (y / (10 : Int32)))), M) := by
          intro b'
          rw [eX9_differingDigits_96, L1, sI_pred]
          exact ih _ _ _ (by omega)
        rw [es, eX9_differingDigits_72, if_neg (by rw [L0, q_lt (by omega) (by omega)]; omega), e96, e96]
        show _ = (some (some (.inl (difI m (if x - x / (10 : Int32) * (10 : Int32) = y - y / (10 : Int32) * (10 : Int32) then b else b ||| ((1 : Int32) <<< (nI m &&& 31))) (x / (10 : Int32)) (y / (10 : Int32)))), M) : Option AR)
        by_cases h : x - x / (10 : Int32) * (10 : Int32) = y - y / (10 : Int32) * (10 : Int32)
        · rw [if_pos h, if_pos h]
        · rw [if_neg h, if_neg h]
    dsimp only [Option.map_some]
    rw [L0, p_sort4 hR hok (by omega), e0]
    simp only [bnd1, Option.toList_some, List.cons_append, List.nil_append, eX9_differingDigits_27]
    rw [L1, p_sort4 hR hok (by omega), e1, L0]
    show _ = (some (some (.inl (if oS t.1 = some 0 ∧ oS t.2 = some 0 then difI (G 1 f) 0 (oI (oV t.1)) (oI (oV t.2)) else 0)), M) : Option AR)
    by_cases h1 : oS t.1 = some 0
    · rw [if_pos (show oI (oS t.1) = nI 0 by rw [h1]; rfl)]
      simp only [bnd1, Option.toList_some, List.cons_append, List.nil_append, eX9_differingDigits_38]
      rw [L0, p_value4 hR hok (by omega), e0]
      simp only [bnd1, Option.toList_some, List.cons_append, List.nil_append, eX9_differingDigits_53]
      rw [L1, p_value4 hR hok (by omega), e1]
      by_cases h2 : oS t.2 = some 0
      · rw [if_pos (show oI (oS t.2) = nI 0 by rw [h2]; rfl), if_pos ⟨h1, h2⟩]
        simp only [bnd1, Option.toList_some, List.cons_append, List.nil_append, eX9_differingDigits_62]
        rw [if_pos hz, (hS.2 f hf).2.1, L1, sI_sub, ← L0]
        exact loop _ _ _ _ b2
      · have : ¬ oI (oS t.2) = nI 0 := by rw [← L0, oS_0 hok.2.1]; exact h2
        rw [if_neg this, if_neg (fun e => h2 e.2)]
    · have : ¬ oI (oS t.1) = nI 0 := by rw [← L0, oS_0 hok.1]; exact h1
      rw [if_neg this, if_neg (fun e => h1 e.1)]
      rfl
theorem take_37 (F : Nat) (G : Nat → Nat → Nat) (s v : Nat) (S : CS) : 3 ≤ (takeS F G s v S).1 ∧ (takeS F G s v S).1 ≤ 6 := by
  have ha : ∀ o : Option Nat, 3 ≤ (answO F G o v S).1 ∧ (answO F G o v S).1 ≤ 6 := by
    intro o
    cases o with
    | none => exact ⟨by show 3 ≤ 6; omega, by show 6 ≤ 6; omega⟩
    | some f =>
      obtain ⟨vl, hb, sk, hd, ls, pl, n, st, sn, fl, wt, rf, rv, k0, k1⟩ := S
      show 3 ≤ (if G 3 f = 1 ∧ G 2 f = 0 then (3, _) else (4, _) : Nat × CS).1 ∧ (if G 3 f = 1 ∧ G 2 f = 0 then (3, _) else (4, _) : Nat × CS).1 ≤ 6
      split <;> exact ⟨by dsimp only; omega, by dsimp only; omega⟩
  unfold takeS
  split
  · exact ha _
  · split
    · obtain ⟨vl, hb, sk, hd, ls, pl, n, st, sn, fl, wt, rf, rv, k0, k1⟩ := S
      show 3 ≤ (backT vl hb sk hd ls pl (st, sn, fl, wt, rf, rv, k0, k1) (bkS G vl pl n)).1 ∧ (backT vl hb sk hd ls pl (st, sn, fl, wt, rf, rv, k0, k1) (bkS G vl pl n)).1 ≤ 6
      generalize bkS G vl pl n = q
      obtain ⟨o, m⟩ := q
      cases o with
      | none => exact ⟨by show 3 ≤ 6; omega, by show 6 ≤ 6; omega⟩
      | some f => exact ⟨by show 3 ≤ 5; omega, by show 5 ≤ 6; omega⟩
    · split
      · obtain ⟨vl, hb, sk, hd, r⟩ := S
        cases hd with
        | none => exact ⟨by show 3 ≤ 6; omega, by show 6 ≤ 6; omega⟩
        | some f => exact ⟨by show 3 ≤ 5; omega, by show 5 ≤ 6; omega⟩
      · split
        · exact ⟨by show 3 ≤ 5; omega, by show 5 ≤ 6; omega⟩
        · split
          · exact ⟨by show 3 ≤ 5; omega, by show 5 ≤ 6; omega⟩
          · split
            · obtain ⟨vl, hb, sk, r⟩ := S
              show 3 ≤ (if ak G vl v = 0 then (6, _) else (5, _) : Nat × CS).1 ∧ (if ak G vl v = 0 then (6, _) else (5, _) : Nat × CS).1 ≤ 6
              split <;> exact ⟨by dsimp only; omega, by dsimp only; omega⟩
            · split
              · exact ha _
              · exact ⟨by show 3 ≤ 6; omega, by show 6 ≤ 6; omega⟩
theorem hear_26 (F : Nat) (G : Nat → Nat → Nat) (ne : Nat) (t : T2) (S : CS) : (nearT t ne = 1 → (hearS F G ne t S).1 = 2 ∧ (hearS F G ne t S).2.2.2.2.1 = S.2.2.2.1) ∧ (¬ nearT t ne = 1 → 3 ≤ (hearS F G ne t S).1) ∧ (hearS F G ne t S).1 ≤ 6 := by
  obtain ⟨vl, hb, sk, hd, ls, pl, n, st, sn, fl, wt, rf, rv, k0, k1⟩ := S
  unfold hearS
  dsimp only
  by_cases hn : nearT t ne = 1
  · rw [if_pos hn]
    exact ⟨fun _ => ⟨rfl, rfl⟩, fun h => absurd hn h, by show 2 ≤ 6; omega⟩
  · rw [if_neg hn]
    refine ⟨fun h => absurd h hn, ?_⟩
    split
    · exact ⟨fun _ => (take_37 _ _ _ _ _).1, (take_37 _ _ _ _ _).2⟩
    · split
      · exact ⟨fun _ => (take_37 _ _ _ _ _).1, (take_37 _ _ _ _ _).2⟩
      · split
        · exact ⟨fun _ => by show 3 ≤ 4; omega, by show 4 ≤ 6; omega⟩
        · split
          · exact ⟨fun _ => by show 3 ≤ 5; omega, by show 5 ≤ 6; omega⟩
          · exact ⟨fun _ => (take_37 _ _ _ _ _).1, (take_37 _ _ _ _ _).2⟩
