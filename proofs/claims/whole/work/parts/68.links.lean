/-! The reference's reading of a row of digits is the class's. -/
theorem gl_drop {l : List Nat} {k : Nat} (h : k < l.length) : l.drop k = gl l k :: l.drop (k + 1) := by
  rw [List.drop_eq_getElem_cons h]
  unfold gl
  rw [List.getD_eq_getElem?_getD, List.getElem?_eq_getElem h]
  rfl
theorem prs_PF {n ck : Nat} {l : List Nat} : ∀ f v m k s, l.length ≤ k + f → k ≤ l.length → (∀ v', prs (gl l) l.length n f v m k = some (v', n, l.length) → ∃ s', PF n ck (some (2 * m, s, v)) (l.drop k) = some (2 * n, s', v')) ∧ ∀ s' v', PF n ck (some (2 * m, s, v)) (l.drop k) = some (2 * n, s', v') → prs (gl l) l.length n f v m k = some (v', n, l.length) := by
  intro f
  induction f with
  | zero =>
    intro v m k s h1 h2
    have hk : k = l.length := by omega
    rw [List.drop_eq_nil_of_le (by omega)]
    constructor
    · intro v' h
      have h := Option.some.inj h
      obtain ⟨e1, e2⟩ := Prod.mk.inj h
      obtain ⟨e3, e4⟩ := Prod.mk.inj e2
      subst e1
      subst e3
      exact ⟨s, rfl⟩
    · intro s' v' h
      have h := Option.some.inj h
      obtain ⟨e1, e2⟩ := Prod.mk.inj h
      obtain ⟨e3, e4⟩ := Prod.mk.inj e2
      subst e4
      show some (v, m, k) = _
      rw [hk, show m = n by omega]
  | succ f ih =>
    intro v m k s h1 h2
    by_cases hk : k < l.length
    · rw [gl_drop hk, PF_cons]
      by_cases hm : m < n
      · unfold prs
        rw [if_pos ⟨hk, hm⟩]
        by_cases h10 : gl l k = 10
        · rw [if_pos h10]
          by_cases hm2 : m + 2 ≤ n
          · have e1 : stf n ck (gl l k) (2 * m, s, v) = some (2 * m + 1, (s + 0) % 10, v * 1 + 0) := by
              unfold stf nxt
              dsimp only
              rw [if_pos ⟨h10, by omega, by omega⟩]
              show some (2 * m + 1, (s + gw n ck (gl l k) (2 * m / 2) ((2 * m + 1) / 2 - 2 * m / 2)) % 10, v * 10 ^ ((2 * m + 1) / 2 - 2 * m / 2) + hrn (gl l k) ((2 * m + 1) / 2 - 2 * m / 2) 0) = _
              rw [show (2 * m + 1) / 2 - 2 * m / 2 = 0 by omega]
              rfl
            rw [e1]
            by_cases hk1 : k + 1 < l.length
            · rw [gl_drop hk1, PF_cons]
              by_cases h9 : 9 < gl l (k + 1)
              · rw [if_pos (Or.inr h9)]
                have e2 : stf n ck (gl l (k + 1)) (2 * m + 1, (s + 0) % 10, v * 1 + 0) = none := by
                  unfold stf nxt
                  dsimp only
                  rw [if_neg (by omega), if_neg (by omega)]
                  rfl
                rw [e2, PF_none]
                exact ⟨fun v' h => (by cases h), fun s' v' h => (by cases h)⟩
              · rw [if_neg (by omega)]
                have e2 : ∃ s2, stf n ck (gl l (k + 1)) (2 * m + 1, (s + 0) % 10, v * 1 + 0) = some (2 * (m + 2), s2, 10 * (10 * v + gl l (k + 1)) + gl l (k + 1)) := by
                  refine ⟨((s + 0) % 10 + gw n ck (gl l (k + 1)) ((2 * m + 1) / 2) 2) % 10, ?_⟩
                  unfold stf nxt
                  dsimp only
                  rw [if_neg (by omega), if_pos (show (2 * m + 1) % 2 = 1 by omega), if_pos (by omega)]
                  show some (2 * m + 1 + 3, _, (v * 1 + 0) * 10 ^ ((2 * m + 1 + 3) / 2 - (2 * m + 1) / 2) + hrn (gl l (k + 1)) ((2 * m + 1 + 3) / 2 - (2 * m + 1) / 2) 0) = _
                  rw [show (2 * m + 1 + 3) / 2 - (2 * m + 1) / 2 = 2 by omega, show 2 * m + 1 + 3 = 2 * (m + 2) by omega]
                  have e3 : (v * 1 + 0) * 10 ^ 2 + hrn (gl l (k + 1)) 2 0 = 10 * (10 * v + gl l (k + 1)) + gl l (k + 1) := by
                    show (v * 1 + 0) * 10 ^ 2 + (10 * (10 * 0 + gl l (k + 1)) + gl l (k + 1)) = _
                    rw [show 10 ^ 2 = 100 by decide]
                    omega
                  rw [e3]
                obtain ⟨s2, e2⟩ := e2
                rw [e2]
                exact ih _ _ _ _ (by omega) (by omega)
            · rw [if_pos (Or.inl (by omega)), List.drop_eq_nil_of_le (by omega)]
              refine ⟨fun v' h => (by cases h), fun s' v' h => ?_⟩
              have h := Option.some.inj h
              obtain ⟨e1, e2⟩ := Prod.mk.inj h
              omega
          · have e1 : stf n ck (gl l k) (2 * m, s, v) = none := by
              unfold stf nxt
              dsimp only
              rw [if_neg (by omega), if_neg (by omega)]
              rfl
            rw [e1, PF_none]
            refine ⟨fun v' h => ?_, fun s' v' h => (by cases h)⟩
            by_cases h9 : k + 1 = l.length ∨ 9 < gl l (k + 1)
            · rw [if_pos h9] at h; cases h
            · rw [if_neg h9] at h
              have hb : ∀ f v n' k v' n2 k', prs (gl l) l.length n f v n' k = some (v', n2, k') → n' ≤ n2 := by
                intro f
                induction f with
                | zero => intro v n' k v' n2 k' h; cases h; exact Nat.le_refl _
                | succ f ih =>
                  intro v n' k v' n2 k' h
                  unfold prs at h
                  split at h
                  · split at h
                    · split at h
                      · cases h
                      · have := ih _ _ _ _ _ _ h; omega
                    · split at h
                      · cases h
                      · have := ih _ _ _ _ _ _ h; omega
                  · cases h; exact Nat.le_refl _
              have := hb _ _ _ _ _ _ _ h
              omega
        · rw [if_neg h10]
          by_cases h9 : 9 < gl l k
          · rw [if_pos h9]
            have e1 : stf n ck (gl l k) (2 * m, s, v) = none := by
              unfold stf nxt
              dsimp only
              rw [if_neg (by omega), if_neg (by omega)]
              rfl
            rw [e1, PF_none]
            exact ⟨fun v' h => (by cases h), fun s' v' h => (by cases h)⟩
          · rw [if_neg h9]
            have e2 : ∃ s2, stf n ck (gl l k) (2 * m, s, v) = some (2 * (m + 1), s2, 10 * v + gl l k) := by
              refine ⟨(s + gw n ck (gl l k) (2 * m / 2) 1) % 10, ?_⟩
              unfold stf nxt
              dsimp only
              rw [if_neg (by omega), if_neg (show ¬ (2 * m) % 2 = 1 by omega), if_pos (by omega)]
              show some (2 * m + 2, _, v * 10 ^ ((2 * m + 2) / 2 - 2 * m / 2) + hrn (gl l k) ((2 * m + 2) / 2 - 2 * m / 2) 0) = _
              rw [show (2 * m + 2) / 2 - 2 * m / 2 = 1 by omega, show 2 * m + 2 = 2 * (m + 1) by omega]
              have e3 : v * 10 ^ 1 + hrn (gl l k) 1 0 = 10 * v + gl l k := by
                show v * 10 ^ 1 + (10 * 0 + gl l k) = _
                rw [Nat.pow_one]
                omega
              rw [e3]
            obtain ⟨s2, e2⟩ := e2
            rw [e2]
            exact ih _ _ _ _ (by omega) (by omega)
      · have e1 : stf n ck (gl l k) (2 * m, s, v) = none := by
          unfold stf nxt
          dsimp only
          rw [if_neg (by omega), if_neg (show ¬ (2 * m) % 2 = 1 by omega), if_neg (by omega)]
          rfl
        rw [e1, PF_none]
        refine ⟨fun v' h => ?_, fun s' v' h => (by cases h)⟩
        unfold prs at h
        rw [if_neg (fun e => hm e.2)] at h
        have h := Option.some.inj h
        obtain ⟨e1, e2⟩ := Prod.mk.inj h
        obtain ⟨e3, e4⟩ := Prod.mk.inj e2
        omega
    · have hk' : k = l.length := by omega
      rw [List.drop_eq_nil_of_le (by omega)]
      unfold prs
      rw [if_neg (fun e => hk e.1)]
      constructor
      · intro v' h
        have h := Option.some.inj h
        obtain ⟨e1, e2⟩ := Prod.mk.inj h
        obtain ⟨e3, e4⟩ := Prod.mk.inj e2
        subst e1
        subst e3
        exact ⟨s, rfl⟩
      · intro s' v' h
        have h := Option.some.inj h
        obtain ⟨e1, e2⟩ := Prod.mk.inj h
        obtain ⟨e3, e4⟩ := Prod.mk.inj e2
        subst e4
        rw [hk', show m = n by omega]
theorem ansR_PF {n ck many fr v : Nat} {wd : Nat → Nat} {l : List Nat} (hn : n ≠ 0) (hl : l.length ≤ 8) (hfr : fr ≤ l.length) : ansR n ck many wd (gl l) l.length fr = some v ↔ PF n ck (some (0, 0, 0)) (l.drop fr) = some (2 * n, 0, v) := by
  obtain ⟨a, b⟩ := prs_PF (n := n) (ck := ck) (l := l) 8 0 0 fr 0 (by omega) hfr
  unfold ansR
  rw [if_neg hn]
  constructor
  · intro h
    cases hx : prs (gl l) l.length n 8 0 0 fr with
    | none => rw [hx] at h; cases h
    | some q =>
      obtain ⟨v', n', k'⟩ := q
      rw [hx] at h
      dsimp only at h
      split at h
      · rename_i hc
        obtain ⟨rfl, rfl, hc⟩ := hc
        have := Option.some.inj h
        subst this
        obtain ⟨s', hs⟩ := a v' hx
        have hk := (PF_ok _ _ _ (okS0 n' ck) hs).2.2
        dsimp only at hk
        rw [show 2 * n' / 2 = n' by omega, Nat.sub_self] at hk
        rw [hs]
        have : s' = 0 := by
          rw [hk]
          split
          · rfl
          · rename_i h0
            exact hc.resolve_left h0
        rw [this]
      · cases h
  · intro h
    have hx := b 0 v h
    have hk := (PF_ok _ _ _ (okS0 n ck) h).2.2
    dsimp only at hk
    rw [show 2 * n / 2 = n by omega, Nat.sub_self] at hk
    rw [hx]
    dsimp only
    rw [if_pos]
    refine ⟨rfl, rfl, ?_⟩
    by_cases h0 : ck = 0
    · exact Or.inl h0
    · rw [if_neg h0] at hk
      exact Or.inr hk.symm
/-! Settings of the wheels are rows that can be taken. -/
theorem rowG_PR {c w k g : Nat → Nat} {no : Nat} : ∀ p, (∀ q, q < p → g q ≤ c q) → PR c w k no p ((costG c k g no p : Int) - ((p * no : Nat) : Int)) (rowG c w g p) := by
  intro p
  induction p with
  | zero =>
    intro _
    refine ⟨?_, rfl⟩
    show ((0 : Nat) : Int) - ((0 * no : Nat) : Int) = 0
    rw [Nat.zero_mul]
    rfl
  | succ p ih =>
    intro h
    have h1 := ih (fun q hq => h q (by omega))
    have e1 : (p + 1) * no = p * no + no := Nat.succ_mul p no
    unfold rowG costG
    rw [e1]
    by_cases hlt : g p < c p
    · rw [if_pos hlt, if_pos hlt]
      exact Or.inr ⟨g p, _, _, hlt, h1, rfl, by omega⟩
    · rw [if_neg hlt, if_neg hlt]
      have e2 : ((costG c k g no p + no : Nat) : Int) - ((p * no + no : Nat) : Int) = (costG c k g no p : Int) - ((p * no : Nat) : Int) := by omega
      rw [e2]
      exact Or.inl h1
theorem PR_rowG {c w k : Nat → Nat} {no : Nat} : ∀ p x l, PR c w k no p x l → ∃ g : Nat → Nat, (∀ q, q < p → g q ≤ c q) ∧ rowG c w g p = l ∧ (costG c k g no p : Int) = ((p * no : Nat) : Int) + x := by
  intro p
  induction p with
  | zero =>
    rintro x l ⟨rfl, rfl⟩
    refine ⟨fun _ => 0, fun q hq => absurd hq (Nat.not_lt_zero _), rfl, ?_⟩
    show ((0 : Nat) : Int) = ((0 * no : Nat) : Int) + 0
    rw [Nat.zero_mul]
    rfl
  | succ p ih =>
    intro x l h
    have e1 : (p + 1) * no = p * no + no := Nat.succ_mul p no
    rcases h with h | ⟨i, l', x', hi, h, rfl, rfl⟩
    · obtain ⟨g, g1, g2, g3⟩ := ih x l h
      have hc1 := rowG_congr (c := c) (w := w) (g := fun q => if q = p then c p else g q) (g' := g) p (fun q hq => if_neg (by omega))
      have hc2 := costG_congr (c := c) (k := k) (no := no) (g := fun q => if q = p then c p else g q) (g' := g) p (fun q hq => if_neg (by omega))
      refine ⟨fun q => if q = p then c p else g q, fun q hq => ?_, ?_, ?_⟩
      · show (if q = p then c p else g q) ≤ c q
        by_cases hq2 : q = p
        · rw [if_pos hq2, hq2]; exact Nat.le_refl _
        · rw [if_neg hq2]; exact g1 q (by omega)
      · unfold rowG
        rw [hc1, if_neg (by show ¬ (if p = p then c p else g p) < c p; rw [if_pos rfl]; omega)]
        exact g2
      · unfold costG
        rw [hc2, if_neg (by show ¬ (if p = p then c p else g p) < c p; rw [if_pos rfl]; omega), e1]
        omega
    · obtain ⟨g, g1, g2, g3⟩ := ih x' l' h
      have hc1 := rowG_congr (c := c) (w := w) (g := fun q => if q = p then i else g q) (g' := g) p (fun q hq => if_neg (by omega))
      have hc2 := costG_congr (c := c) (k := k) (no := no) (g := fun q => if q = p then i else g q) (g' := g) p (fun q hq => if_neg (by omega))
      have hp : (if p = p then i else g p) = i := if_pos rfl
      refine ⟨fun q => if q = p then i else g q, fun q hq => ?_, ?_, ?_⟩
      · show (if q = p then i else g q) ≤ c q
        by_cases hq2 : q = p
        · rw [if_pos hq2, hq2]; omega
        · rw [if_neg hq2]; exact g1 q (by omega)
      · unfold rowG
        rw [hc1, hp, if_pos hi, g2]
      · unfold costG
        rw [hc2, hp, if_pos hi, e1]
        omega
