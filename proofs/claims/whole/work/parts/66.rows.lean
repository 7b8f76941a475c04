/-! Rows of words: what the rows of digits stand for. -/
/-- the rows that can be taken of the first places, with what they cost beyond the noise -/
def PR (c w k : Nat → Nat) (no : Nat) : Nat → Int → List Nat → Prop
  | 0, x, l => x = 0 ∧ l = []
  | p + 1, x, l => PR c w k no p x l ∨ ∃ i l' x', i < c p ∧ PR c w k no p x' l' ∧ l = l' ++ [w (4 * p + i)] ∧ x = x' + ((k (4 * p + i) : Int) - (no : Int))
/-- one word more on a stand of a row of digits -/
def stf (n ck : Nat) (w : Nat) (st : Nat × Nat × Nat) : Option (Nat × Nat × Nat) := (nxt n st.1 w).map (fun t => (t, (st.2.1 + gw n ck w (st.1 / 2) (t / 2 - st.1 / 2)) % 10, st.2.2 * 10 ^ (t / 2 - st.1 / 2) + hrn w (t / 2 - st.1 / 2) 0))
def PF (n ck : Nat) (o : Option (Nat × Nat × Nat)) (l : List Nat) : Option (Nat × Nat × Nat) := l.foldl (fun a w => a.bind (stf n ck w)) o
theorem PF_snoc {n ck : Nat} {o : Option (Nat × Nat × Nat)} {l : List Nat} {x : Nat} : PF n ck o (l ++ [x]) = (PF n ck o l).bind (stf n ck x) := by
  unfold PF
  rw [List.foldl_append]
  rfl
theorem PF_none {n ck : Nat} : ∀ l, PF n ck none l = none := by
  intro l
  induction l with
  | nil => rfl
  | cons a l ih => exact ih
theorem PF_cons {n ck : Nat} {st : Nat × Nat × Nat} {l : List Nat} {x : Nat} : PF n ck (some st) (x :: l) = PF n ck (stf n ck x st) l := rfl
/-- what is true of a stand -/
def okS (n ck : Nat) (st : Nat × Nat × Nat) : Prop := st.1 ≤ 2 * n ∧ st.2.2 < 10 ^ (st.1 / 2) ∧ st.2.1 = (if ck = 0 then 0 else chk2 (st.1 / 2) (n - st.1 / 2) st.2.2 % 10)
theorem chk2_mod (m k v : Nat) : chk2 (m + 1) k v = chd k (v % 10) + chk2 m (k + 1) (v / 10) := rfl
theorem wgt_chd {n ck i d : Nat} (hc : ck ≠ 0) (hd : d ≤ 9) : wgt n ck i d = chd (n - 1 - i) d := by
  unfold wgt chd
  rw [if_neg hc]
  by_cases h : (n - 1 - i) % 2 = 0
  · rw [if_pos h, if_neg (by omega : ¬ (n - 1 - i) % 2 = 1), if_pos (by omega)]
  · rw [if_neg h, if_pos (by omega : (n - 1 - i) % 2 = 1)]
    by_cases h2 : d ≤ 4
    · rw [if_pos h2, if_pos (by omega)]
    · rw [if_neg h2, if_neg (by omega)]
theorem gw0 (n w i m : Nat) : gw n 0 w i m = 0 := by
  induction m generalizing i with
  | zero => rfl
  | succ m ih =>
    unfold gw
    rw [ih]
    rfl
theorem stf_ok {n ck w : Nat} {st st' : Nat × Nat × Nat} (h : okS n ck st) (e : stf n ck w st = some st') : okS n ck st' := by
  obtain ⟨q, s, v⟩ := st
  obtain ⟨h1, h2, h3⟩ := h
  dsimp only at h1 h2 h3
  unfold stf at e
  dsimp only at e
  cases hx : nxt n q w with
  | none => rw [hx] at e; cases e
  | some t =>
    rw [hx] at e
    obtain ⟨n1, n2, n3, n4, n5⟩ := nxt_spec hx
    have e := Option.some.inj e
    subst e
    unfold okS
    dsimp only
    rcases (show t / 2 - q / 2 = 0 ∨ t / 2 - q / 2 = 1 ∨ t / 2 - q / 2 = 2 by omega) with hm | hm | hm
    · have ht : t / 2 = q / 2 := by omega
      rw [hm, ht]
      refine ⟨n2, ?_, ?_⟩
      · show v * 10 ^ 0 + 0 < _
        rw [Nat.pow_zero, Nat.mul_one, Nat.add_zero]
        exact h2
      · show (s + 0) % 10 = _
        rw [Nat.add_zero, Nat.pow_zero, Nat.mul_one, show v + hrn w 0 0 = v from rfl, h3]
        by_cases hc : ck = 0
        · rw [if_pos hc]
        · rw [if_neg hc, Nat.mod_mod]
    · have hw : w ≤ 9 := by omega
      have ht : t / 2 = q / 2 + 1 := by omega
      rw [hm, ht]
      have hv : v * 10 ^ 1 + hrn w 1 0 = 10 * v + w := by
        show v * 10 ^ 1 + (10 * 0 + w) = _
        rw [Nat.pow_one]; omega
      rw [hv]
      refine ⟨n2, by rw [Nat.pow_succ]; omega, ?_⟩
      show (s + (wgt n ck (q / 2) w + 0)) % 10 = _
      by_cases hc : ck = 0
      · subst hc
        rw [if_pos rfl] at h3 ⊢
        rw [h3]
        unfold wgt
        rw [if_pos rfl]
      · rw [if_neg hc] at h3 ⊢
        rw [h3, wgt_chd hc hw, chk2_mod, show (10 * v + w) % 10 = w by omega, show (10 * v + w) / 10 = v by omega, show n - (q / 2 + 1) + 1 = n - q / 2 by omega, show n - (q / 2 + 1) = n - 1 - q / 2 by omega]
        omega
    · have hw : w ≤ 9 := by omega
      have ht : t / 2 = q / 2 + 2 := by omega
      rw [hm, ht]
      have hv : v * 10 ^ 2 + hrn w 2 0 = 10 * (10 * v + w) + w := by
        show v * 10 ^ 2 + (10 * (10 * 0 + w) + w) = _
        rw [show 10 ^ 2 = 100 by decide]; omega
      rw [hv]
      refine ⟨n2, by rw [Nat.pow_succ, Nat.pow_succ]; omega, ?_⟩
      show (s + (wgt n ck (q / 2) w + (wgt n ck (q / 2 + 1) w + 0))) % 10 = _
      by_cases hc : ck = 0
      · subst hc
        rw [if_pos rfl] at h3 ⊢
        rw [h3]
        unfold wgt
        rw [if_pos rfl, if_pos rfl]
      · rw [if_neg hc] at h3 ⊢
        rw [h3, wgt_chd hc hw, wgt_chd hc hw, chk2_mod, chk2_mod, show (10 * (10 * v + w) + w) % 10 = w by omega, show (10 * (10 * v + w) + w) / 10 = 10 * v + w by omega, show (10 * v + w) % 10 = w by omega, show (10 * v + w) / 10 = v by omega, show n - (q / 2 + 2) + 1 + 1 = n - q / 2 by omega, show n - (q / 2 + 2) + 1 = n - 1 - q / 2 by omega, show n - (q / 2 + 2) = n - 1 - (q / 2 + 1) by omega]
        omega
theorem PF_ok {n ck : Nat} : ∀ l st st', okS n ck st → PF n ck (some st) l = some st' → okS n ck st' := by
  intro l
  induction l with
  | nil => intro st st' h e; cases e; exact h
  | cons a l ih =>
    intro st st' h e
    rw [PF_cons] at e
    cases hx : stf n ck a st with
    | none => rw [hx, PF_none] at e; cases e
    | some st1 =>
      rw [hx] at e
      exact ih st1 st' (stf_ok h hx) e
/-- a word brings at most one digit's stand, on average -/
theorem PF_len {n ck : Nat} : ∀ l st st', PF n ck (some st) l = some st' → st'.1 + st'.1 % 2 ≤ st.1 + st.1 % 2 + 2 * l.length := by
  intro l
  induction l with
  | nil => intro st st' e; cases e; exact Nat.le_refl _
  | cons a l ih =>
    intro st st' e
    rw [PF_cons] at e
    cases hx : stf n ck a st with
    | none => rw [hx, PF_none] at e; cases e
    | some st1 =>
      rw [hx] at e
      have h1 := ih st1 st' e
      have h2 : st1.1 + st1.1 % 2 ≤ st.1 + st.1 % 2 + 2 := by
        unfold stf at hx
        cases hy : nxt n st.1 a with
        | none => rw [hy] at hx; cases hx
        | some t =>
          rw [hy] at hx
          have := Option.some.inj hx
          subst this
          dsimp only
          unfold nxt at hy
          split at hy
          · have := Option.some.inj hy
            omega
          · by_cases ho : st.1 % 2 = 1
            · rw [if_pos ho] at hy
              split at hy
              · have := Option.some.inj hy
                omega
              · cases hy
            · rw [if_neg ho] at hy
              split at hy
              · have := Option.some.inj hy
                omega
              · cases hy
      rw [List.length_cons]
      omega
theorem PR_len {c w k : Nat → Nat} {no : Nat} : ∀ p x l, PR c w k no p x l → l.length ≤ p := by
  intro p
  induction p with
  | zero => intro x l h; rw [h.2]; exact Nat.le_refl _
  | succ p ih =>
    intro x l h
    rcases h with h | ⟨i, l', x', -, h, rfl, -⟩
    · have := ih _ _ h; omega
    · have := ih _ _ h
      rw [List.length_append]
      show _ + 1 ≤ _
      omega
/-- the rows of digits that lie behind a lead, or from the front -/
def PRs (c w k : Nat → Nat) (no s p : Nat) (x : Int) (l : List Nat) : Prop := if s = 0 then PR c w k no p x l else PR c w k no p x (ldw s :: l)
theorem PR_nil {c w k : Nat → Nat} {no : Nat} : ∀ p x, PR c w k no p x [] ↔ x = 0 := by
  intro p
  induction p with
  | zero => intro x; exact ⟨fun h => h.1, fun h => ⟨h, rfl⟩⟩
  | succ p ih =>
    intro x
    refine ⟨fun h => ?_, fun h => Or.inl ((ih x).mpr h)⟩
    rcases h with h | ⟨i, l', x', -, h, e, -⟩
    · exact (ih x).mp h
    · have := congrArg List.length e
      rw [List.length_append] at this
      exact absurd this (by show ¬ 0 = _ + 1; omega)
/-- one place more -/
theorem PRs_step {P no s p : Nat} {c w k : Nat → Nat} (hW : WH P c w k) (hp : p < P) (x : Int) (l : List Nat) : PRs c w k no s (p + 1) x l ↔ PRs c w k no s p x l ∨ (∃ i l' x', i < c p ∧ PRs c w k no s p x' l' ∧ l = l' ++ [w (4 * p + i)] ∧ x = x' + ((k (4 * p + i) : Int) - (no : Int))) ∨ (l = [] ∧ ldP c w k no s p = some x) := by
  unfold PRs
  by_cases h0 : s = 0
  · have hl : ldP c w k no s p = none := by unfold ldP; rw [if_pos h0]
    simp only [if_pos h0, hl]
    constructor
    · rintro (h | h)
      · exact Or.inl h
      · exact Or.inr (Or.inl h)
    · rintro (h | h | ⟨-, h⟩)
      · exact Or.inl h
      · exact Or.inr h
      · cases h
  · simp only [if_neg h0]
    constructor
    · rintro (h | ⟨i, l', x', h1, h2, h3, h4⟩)
      · exact Or.inl h
      · cases l' with
        | nil =>
          have h3 : ldw s :: l = [w (4 * p + i)] := h3
          have e1 : ldw s = w (4 * p + i) := (List.cons.inj h3).1
          have e2 : l = [] := (List.cons.inj h3).2
          refine Or.inr (Or.inr ⟨e2, ?_⟩)
          have hx0 := (PR_nil p x').mp h2
          unfold ldP
          rw [if_neg h0]
          cases hf : fnd (fun i => w (4 * p + i)) (ldw s) 0 (c p) with
          | none => exact absurd e1.symm (fnd_none hf i (Nat.zero_le _) (by omega))
          | some j =>
            have hj := fnd_some hf
            have : j = i := (hW.2 p hp).2.2 j i (by omega) h1 (hj.2.2.trans e1)
            subst this
            have e5 : (k (4 * p + j) : Int) - (no : Int) = x := by rw [h4, hx0, Int.zero_add]
            exact congrArg some e5
        | cons a l' =>
          have h3 : ldw s :: l = a :: (l' ++ [w (4 * p + i)]) := h3
          obtain ⟨e1, e2⟩ := List.cons.inj h3
          subst e1
          exact Or.inr (Or.inl ⟨i, l', x', h1, h2, e2, h4⟩)
    · rintro (h | ⟨i, l', x', h1, h2, rfl, h4⟩ | ⟨rfl, h⟩)
      · exact Or.inl h
      · exact Or.inr ⟨i, ldw s :: l', x', h1, h2, rfl, h4⟩
      · unfold ldP at h
        rw [if_neg h0] at h
        cases hf : fnd (fun i => w (4 * p + i)) (ldw s) 0 (c p) with
        | none => rw [hf] at h; cases h
        | some j =>
          rw [hf] at h
          have h := Option.some.inj h
          have hj := fnd_some hf
          refine Or.inr ⟨j, [], 0, by omega, (PR_nil p 0).mpr rfl, ?_, ?_⟩
          · show [ldw s] = [w (4 * p + j)]
            rw [← hj.2.2]
          · have h : (k (4 * p + j) : Int) - (no : Int) = x := h
            omega
/-- what stands in the rows of digits -/
def QD (n ck s no : Nat) (c w k : Nat → Nat) (p : Nat) : OO := fun q sm x v => ∃ l, PRs c w k no s p x l ∧ PF n ck (some (0, 0, 0)) l = some (q, sm, v)
theorem okS0 (n ck : Nat) : okS n ck (0, 0, 0) := by
  refine ⟨Nat.zero_le _, by decide, ?_⟩
  show 0 = if ck = 0 then 0 else 0 % 10
  split <;> rfl
theorem QD_step {P n ck no s p : Nat} {c w k : Nat → Nat} (hW : WH P c w k) (hp : p < P) {O : OO} (hO : ∀ q sm x v, O q sm x v ↔ QD n ck s no c w k p q sm x v) (q sm : Nat) (x : Int) (v : Nat) : ldO (ldP c w k no s p) (plcO n ck (fun i => w (4 * p + i)) (fun i => (k (4 * p + i) : Int) - (no : Int)) (c p) (2 * n) O) q sm x v ↔ QD n ck s no c w k (p + 1) q sm x v := by
  constructor
  · rintro ((h | ⟨q0, i, h1, h2, h3, s0, h4, h5, x0, v0, h6, h7, h8⟩) | ⟨rfl, rfl, rfl, h⟩)
    · obtain ⟨l, a, b⟩ := (hO _ _ _ _).mp h
      exact ⟨l, (PRs_step hW hp _ _).mpr (Or.inl a), b⟩
    · obtain ⟨l, a, b⟩ := (hO _ _ _ _).mp h6
      refine ⟨l ++ [w (4 * p + i)], (PRs_step hW hp _ _).mpr (Or.inr (Or.inl ⟨i, l, x0, h2, a, rfl, h7⟩)), ?_⟩
      rw [PF_snoc, b]
      show stf n ck (w (4 * p + i)) (q0, s0, v0) = _
      unfold stf
      dsimp only at h3 h5 h8 ⊢
      rw [h3]
      show some (q, (s0 + gw n ck (w (4 * p + i)) (q0 / 2) (q / 2 - q0 / 2)) % 10, v0 * 10 ^ (q / 2 - q0 / 2) + hrn (w (4 * p + i)) (q / 2 - q0 / 2) 0) = some (q, sm, v)
      rw [h5, h8]
    · exact ⟨[], (PRs_step hW hp _ _).mpr (Or.inr (Or.inr ⟨rfl, h⟩)), rfl⟩
  · rintro ⟨l, a, b⟩
    rcases (PRs_step hW hp _ _).mp a with a | ⟨i, l', x', h1, a2, rfl, h4⟩ | ⟨rfl, h⟩
    · exact Or.inl (Or.inl ((hO _ _ _ _).mpr ⟨l, a, b⟩))
    · rw [PF_snoc] at b
      cases hx : PF n ck (some (0, 0, 0)) l' with
      | none => rw [hx] at b; cases b
      | some st =>
        obtain ⟨q0, s0, v0⟩ := st
        rw [hx] at b
        have b : stf n ck (w (4 * p + i)) (q0, s0, v0) = some (q, sm, v) := b
        unfold stf at b
        dsimp only at b
        cases hy : nxt n q0 (w (4 * p + i)) with
        | none => rw [hy] at b; cases b
        | some t =>
          rw [hy] at b
          have b := Option.some.inj b
          obtain ⟨e1, e2⟩ := Prod.mk.inj b
          obtain ⟨e3, e4⟩ := Prod.mk.inj e2
          have hs := nxt_spec hy
          have hk := PF_ok l' _ _ (okS0 n ck) hx
          subst e1
          refine Or.inl (Or.inr ⟨q0, i, by omega, h1, hy, s0, ?_, e3, x', v0, (hO _ _ _ _).mpr ⟨l', a2, hx⟩, h4, e4.symm⟩)
          have h3 := hk.2.2
          dsimp only at h3
          unfold smx
          rw [h3]
          split
          · exact Nat.zero_lt_one
          · exact Nat.mod_lt _ (by decide)
    · have b := Option.some.inj b
      obtain ⟨e1, e2⟩ := Prod.mk.inj b
      obtain ⟨e3, e4⟩ := Prod.mk.inj e2
      exact Or.inr ⟨e1.symm, e3.symm, e4.symm, h⟩
theorem QD_run {P n ck no s : Nat} {c w k : Nat → Nat} (hW : WH P c w k) : ∀ m p (O : OO), p + m = P → (∀ q sm x v, O q sm x v ↔ QD n ck s no c w k p q sm x v) → ∀ q sm x v, runO n ck s no c w k m p O q sm x v ↔ QD n ck s no c w k P q sm x v := by
  intro m
  induction m with
  | zero =>
    intro p O hp hO
    obtain rfl : p = P := by omega
    exact hO
  | succ m ih =>
    intro p O hp hO
    exact ih (p + 1) _ (by omega) (QD_step hW (by omega) hO)
/-- the two cheapest of a row of digits -/
theorem PD_fin {P n ck no s : Nat} {c w k : Nat → Nat} (hW : WH P c w k) (hn : n ≤ 8) : P2 (QD n ck s no c w k P (2 * n) 0) (runD n ck s no c w k P 0 (D00 s) (2 * n) 0) := by
  have h0 : PD (fun _ _ _ _ => False) (fun _ _ => ((none, none) : T2)) := fun q _ s _ c k h => h
  have h1 := PD_run (n := n) (ck := ck) (s := s) (no := no) (c := c) (w := w) (k := k) hn P 0 _ _ (PD_ld h0 (if s = 0 then some 0 else none))
  refine P2_congr (h1 (2 * n) (by omega) 0 (by omega)) (fun x v => QD_run hW P 0 _ (by omega) (fun q sm x v => ?_) _ _ _ _)
  constructor
  · rintro (h | ⟨rfl, rfl, rfl, h⟩)
    · exact h.elim
    · by_cases hs : s = 0
      · rw [if_pos hs] at h
        cases h
        refine ⟨[], ?_, rfl⟩
        unfold PRs
        rw [if_pos hs]
        exact ⟨rfl, rfl⟩
      · rw [if_neg hs] at h
        cases h
  · rintro ⟨l, a, b⟩
    unfold PRs at a
    by_cases hs : s = 0
    · rw [if_pos hs] at a
      obtain ⟨rfl, rfl⟩ := a
      have b := Option.some.inj b
      obtain ⟨e1, e2⟩ := Prod.mk.inj b
      obtain ⟨e3, e4⟩ := Prod.mk.inj e2
      exact Or.inr ⟨e1.symm, e3.symm, e4.symm, by rw [if_pos hs]⟩
    · rw [if_neg hs] at a
      cases a.2
