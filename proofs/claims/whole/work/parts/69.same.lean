/-! Class and reference find the same two meanings. -/
theorem PR_mono {c w k : Nat → Nat} {no : Nat} {x : Int} {l : List Nat} : ∀ m p, PR c w k no p x l → PR c w k no (p + m) x l := by
  intro m
  induction m with
  | zero => intro p h; exact h
  | succ m ih => intro p h; exact Or.inl (ih p h)
theorem PR_at {c w k : Nat → Nat} {no p q i : Nat} {x : Int} {l : List Nat} (hq : q < p) (hi : i < c q) (h : PR c w k no q x l) : PR c w k no p (x + ((k (4 * q + i) : Int) - (no : Int))) (l ++ [w (4 * q + i)]) := by
  obtain ⟨m, rfl⟩ : ∃ m, p = q + 1 + m := ⟨p - (q + 1), by omega⟩
  exact PR_mono m (q + 1) (Or.inr ⟨i, l, x, hi, h, rfl, rfl⟩)
/-- the last word of a row -/
theorem PR_last {c w k : Nat → Nat} {no : Nat} {a : Nat} : ∀ p x l, PR c w k no p x (l ++ [a]) → ∃ q i x', q < p ∧ i < c q ∧ w (4 * q + i) = a ∧ PR c w k no q x' l ∧ x = x' + ((k (4 * q + i) : Int) - (no : Int)) := by
  intro p
  induction p with
  | zero =>
    rintro x l ⟨-, h⟩
    exact absurd h (by simp)
  | succ p ih =>
    intro x l h
    rcases h with h | ⟨i, l', x', hi, h, e, rfl⟩
    · obtain ⟨q, i, x', h1, h2⟩ := ih x l h
      exact ⟨q, i, x', by omega, h2⟩
    · obtain ⟨e1, e2⟩ := List.append_inj' e rfl
      subst e1
      have e2 := (List.cons.inj e2).1
      exact ⟨p, i, x', by omega, hi, e2.symm, h, rfl⟩
theorem PR_one {c w k : Nat → Nat} {no p : Nat} {x : Int} {a : Nat} : PR c w k no p x [a] ↔ ∃ q i, q < p ∧ i < c q ∧ w (4 * q + i) = a ∧ x = (k (4 * q + i) : Int) - (no : Int) := by
  constructor
  · intro h
    obtain ⟨q, i, x', h1, h2, h3, h4, h5⟩ := PR_last (l := []) p x h
    have := (PR_nil q x').mp h4
    exact ⟨q, i, h1, h2, h3, by rw [h5, this, Int.zero_add]⟩
  · rintro ⟨q, i, h1, h2, rfl, rfl⟩
    have := PR_at (w := w) (k := k) (no := no) h1 h2 ((PR_nil q 0).mpr rfl)
    rw [Int.zero_add] at this
    exact this
theorem PR_two {c w k : Nat → Nat} {no p : Nat} {x : Int} {a b : Nat} : PR c w k no p x [a, b] ↔ ∃ q i q0 j, q0 < q ∧ q < p ∧ i < c q ∧ j < c q0 ∧ w (4 * q0 + j) = a ∧ w (4 * q + i) = b ∧ x = ((k (4 * q0 + j) : Int) - (no : Int)) + ((k (4 * q + i) : Int) - (no : Int)) := by
  constructor
  · intro h
    obtain ⟨q, i, x', h1, h2, h3, h4, h5⟩ := PR_last (l := [a]) p x h
    obtain ⟨q0, j, g1, g2, g3, g4⟩ := PR_one.mp h4
    exact ⟨q, i, q0, j, g1, h1, h2, g2, g3, h3, by rw [h5, g4]⟩
  · rintro ⟨q, i, q0, j, h1, h2, h3, h4, rfl, rfl, rfl⟩
    exact PR_at h2 h3 (PR_one.mpr ⟨q0, j, h1, h4, rfl, rfl⟩)
theorem LD_0 {c w k : Nat → Nat} {no : Nat} : ∀ p, LD c w k no 0 p = some 0 := by
  intro p
  induction p with
  | zero => rfl
  | succ p ih =>
    unfold LD
    rw [ih]
    have : ldP c w k no 0 p = none := by unfold ldP; rw [if_pos rfl]
    rw [this]
    rfl
/-- a lead comes from one of the places ahead -/
theorem LD_from {c w k : Nat → Nat} {no s : Nat} (hs : s ≠ 0) : ∀ p x, LD c w k no s p = some x → ∃ q, q < p ∧ ldP c w k no s q = some x := by
  intro p
  induction p with
  | zero =>
    intro x h
    unfold LD at h
    rw [if_neg hs] at h
    cases h
  | succ p ih =>
    intro x h
    unfold LD at h
    cases h1 : LD c w k no s p with
    | none => rw [h1] at h; exact ⟨p, by omega, h⟩
    | some a =>
      obtain ⟨q, g1, g2⟩ := ih a h1
      cases h2 : ldP c w k no s p with
      | none =>
        rw [h1, h2] at h
        cases h
        exact ⟨q, by omega, g2⟩
      | some b =>
        rw [h1, h2] at h
        have h : some (if b < a then b else a) = some x := h
        have h := Option.some.inj h
        split at h
        · subst h; exact ⟨p, by omega, h2⟩
        · subst h; exact ⟨q, by omega, g2⟩
theorem LD_le {c w k : Nat → Nat} {no s : Nat} : ∀ p q y, q < p → ldP c w k no s q = some y → ∃ x, LD c w k no s p = some x ∧ x ≤ y := by
  intro p
  induction p with
  | zero => intro q y h; omega
  | succ p ih =>
    intro q y hq h
    unfold LD
    by_cases he : q = p
    · subst he
      rw [h]
      cases h1 : LD c w k no s q with
      | none => exact ⟨y, rfl, Int.le_refl _⟩
      | some a =>
        refine ⟨if y < a then y else a, rfl, ?_⟩
        split <;> omega
    · obtain ⟨x, g1, g2⟩ := ih q y (by omega) h
      rw [g1]
      cases h2 : ldP c w k no s p with
      | none => exact ⟨x, rfl, g2⟩
      | some b =>
        refine ⟨if b < x then b else x, rfl, ?_⟩
        split <;> omega
theorem ldP_iff {P no s p : Nat} {c w k : Nat → Nat} (hW : WH P c w k) (hp : p < P) (hs : s ≠ 0) (x : Int) : ldP c w k no s p = some x ↔ ∃ j, j < c p ∧ w (4 * p + j) = ldw s ∧ x = (k (4 * p + j) : Int) - (no : Int) := by
  unfold ldP
  rw [if_neg hs]
  constructor
  · intro h
    cases hf : fnd (fun i => w (4 * p + i)) (ldw s) 0 (c p) with
    | none => rw [hf] at h; cases h
    | some j =>
      rw [hf] at h
      have h : some ((k (4 * p + j) : Int) - (no : Int)) = some x := h
      have hj := fnd_some hf
      exact ⟨j, by omega, hj.2.2, (Option.some.inj h).symm⟩
  · rintro ⟨j, h1, h2, rfl⟩
    cases hf : fnd (fun i => w (4 * p + i)) (ldw s) 0 (c p) with
    | none => exact absurd h2 (fnd_none hf j (Nat.zero_le _) (by omega))
    | some j' =>
      have hj := fnd_some hf
      have : j' = j := (hW.2 p hp).2.2 j' j (by omega) h1 (hj.2.2.trans h2.symm)
      subst this
      rfl
/-- what the reference looks at, by rows -/
def OR (P no od F : Nat) (G wd : Nat → Nat → Nat) (c w k : Nat → Nat) (hd ls : Option Nat) : Int → Nat → Prop := fun cc key => ∃ (l : List Nat) (x : Int) (b : Nat), PR c w k no P x l ∧ (b : Int) = ((P * no : Nat) : Int) + x ∧ ofr F G wd hd ls od l b cc key
theorem CO_OR {P no od F : Nat} {G wd : Nat → Nat → Nat} {c w k : Nat → Nat} {hd ls : Option Nat} (cc : Int) (key : Nat) : CO P c w k no F G wd hd ls od (fun _ => True) cc key ↔ OR P no od F G wd c w k hd ls cc key := by
  constructor
  · rintro ⟨g, g1, -, g2⟩
    exact ⟨rowG c w g P, _, costG c k g no P, rowG_PR P g1, by omega, g2⟩
  · rintro ⟨l, x, b, h1, h2, h3⟩
    obtain ⟨g, g1, g2, g3⟩ := PR_rowG P x l h1
    refine ⟨g, g1, trivial, ?_⟩
    have : costG c k g no P = b := by omega
    rw [g2, this]
    exact h3
theorem PR_nn {P no : Nat} {c w k : Nat → Nat} {x : Int} {l : List Nat} (h : PR c w k no P x l) : ∃ b : Nat, (b : Int) = ((P * no : Nat) : Int) + x := by
  obtain ⟨g, -, -, g3⟩ := PR_rowG P x l h
  exact ⟨_, g3⟩
/-- choice: a row of one word behind its leads -/
theorem ansL_choice {G wd : Nat → Nat → Nat} {l : List Nat} {f fr : Nat} (h0 : G 1 f = 0) : ansL G wd l f fr = if l.length = fr + 1 then fnd (wd f) (gl l fr) 0 (G 4 f) else none := by
  unfold ansL ansR
  rw [if_pos h0]
theorem CX_OR {P no od F : Nat} {G wd : Nat → Nat → Nat} {c w k : Nat → Nat} {hd ls : Option Nat} (hW : WH P c w k) (hG : GW F G wd) (hhF : ∀ f, hd = some f → f < F) (hlF : ∀ f, ls = some f → f < F) (cc : Int) (key : Nat) (h : CX P no od F G wd c w k hd ls cc key) : OR P no od F G wd c w k hd ls cc key := by
  have h8 := hW.1
  rcases h with ((h | h) | h) | h
  · obtain ⟨f, rfl, ⟨h0, p, i, v, x, -, hp, hi, hv, hl, rfl, rfl⟩ | ⟨h0, x, v, ⟨l, h1, h2⟩, rfl, rfl⟩⟩ := h
    · rw [LD_0] at hl
      have hl := Option.some.inj hl
      subst hl
      have hr := (PR_one (c := c) (w := w) (k := k) (no := no)).mpr ⟨p, i, hp, hi, rfl, rfl⟩
      obtain ⟨b, hb⟩ := PR_nn hr
      refine ⟨_, _, b, hr, hb, by simp, Or.inl ?_⟩
      unfold of1
      have e1 : (some f).bind (fun f => ansL G wd [w (4 * p + i)] f 0) = some v := by
        show ansL G wd [w (4 * p + i)] f 0 = some v
        rw [ansL_choice h0, if_pos (show [w (4 * p + i)].length = 0 + 1 from rfl)]
        exact hv
      rw [e1]
      show some ((b : Int), key2 0 v) = _
      rw [hb, if_pos rfl]
      have : (((P * no : Nat) : Int) + ((k (4 * p + i) : Int) - (no : Int))) = ((P * no : Nat) : Int) + (0 + (k (4 * p + i) : Int) - (no : Int)) + 0 := by omega
      rw [this]
    · have hr : PR c w k no P x l := by unfold PRs at h1; rw [if_pos rfl] at h1; exact h1
      obtain ⟨b, hb⟩ := PR_nn hr
      have hlen := PR_len _ _ _ hr
      have hne : l ≠ [] := fun e => by
        subst e
        have e := Option.some.inj h2
        have := (Prod.mk.inj e).1
        omega
      refine ⟨l, x, b, hr, hb, hne, Or.inl ?_⟩
      unfold of1
      have e1 : (some f).bind (fun f => ansL G wd l f 0) = some v := (ansR_PF (wd := wd f) (many := G 4 f) h0 (by omega) (Nat.zero_le _)).mpr h2
      rw [e1]
      show some ((b : Int), key2 0 v) = _
      rw [hb, if_pos rfl, Int.add_zero]
  · obtain ⟨p, i, -, hp, hi, h1, h2, rfl, rfl⟩ := h
    have hr := (PR_one (c := c) (w := w) (k := k) (no := no)).mpr ⟨p, i, hp, hi, rfl, rfl⟩
    obtain ⟨b, hb⟩ := PR_nn hr
    refine ⟨_, _, b, hr, hb, by simp, Or.inr (Or.inl ?_)⟩
    unfold of2
    rw [if_pos ⟨rfl, h1, h2⟩]
    have : ((b + od : Nat) : Int) = ((P * no : Nat) : Int) + ((k (4 * p + i) : Int) - (no : Int)) + (od : Int) := by omega
    rw [this]
    rfl
  · obtain ⟨p, i, v, x, -, hp, hi, hv, hl, rfl, rfl⟩ := h
    obtain ⟨q0, g1, g2⟩ := LD_from (by decide) p x hl
    obtain ⟨j, j1, j2, rfl⟩ := (ldP_iff hW (by omega) (by decide) x).mp g2
    have hr := (PR_two (c := c) (w := w) (k := k) (no := no)).mpr ⟨p, i, q0, j, g1, hp, hi, j1, rfl, rfl, rfl⟩
    obtain ⟨b, hb⟩ := PR_nn hr
    refine ⟨_, _, b, hr, hb, by simp, Or.inr (Or.inr (Or.inl ?_))⟩
    unfold of3
    have e2 : gl [w (4 * q0 + j), w (4 * p + i)] 0 = 17 := j2
    have e3 : gl [w (4 * q0 + j), w (4 * p + i)] 1 = w (4 * p + i) := rfl
    have hv : fnd (G 0) (w (4 * p + i)) 0 F = some v := hv
    rw [if_pos ⟨rfl, e2⟩, e3, hv]
    show some (((b + od : Nat) : Int), key2 7 v) = _
    have : ((b + od : Nat) : Int) = ((P * no : Nat) : Int) + ((k (4 * q0 + j) : Int) - (no : Int) + (k (4 * p + i) : Int) - (no : Int)) + (od : Int) := by omega
    rw [this]
    rfl
  · obtain ⟨f, rfl, ⟨h0, p, i, v, x, -, hp, hi, hv, hl, rfl, rfl⟩ | ⟨h0, x, v, ⟨l, h1, h2⟩, rfl, rfl⟩⟩ := h
    · obtain ⟨q0, g1, g2⟩ := LD_from (by decide) p x hl
      obtain ⟨j, j1, j2, rfl⟩ := (ldP_iff hW (by omega) (by decide) x).mp g2
      have hr := (PR_two (c := c) (w := w) (k := k) (no := no)).mpr ⟨p, i, q0, j, g1, hp, hi, j1, rfl, rfl, rfl⟩
      obtain ⟨b, hb⟩ := PR_nn hr
      refine ⟨_, _, b, hr, hb, by simp, Or.inr (Or.inr (Or.inr ?_))⟩
      unfold of4
      have e2 : gl [w (4 * q0 + j), w (4 * p + i)] 0 = 16 := j2
      have e1 : (some f).bind (fun f => ansL G wd [w (4 * q0 + j), w (4 * p + i)] f 1) = some v := by
        show ansL G wd [w (4 * q0 + j), w (4 * p + i)] f 1 = some v
        rw [ansL_choice h0, if_pos (show [w (4 * q0 + j), w (4 * p + i)].length = 1 + 1 from rfl)]
        exact hv
      rw [if_pos ⟨by show 1 < 2; omega, e2⟩, e1]
      show some (((b + od : Nat) : Int), key2 8 v) = _
      have : ((b + od : Nat) : Int) = ((P * no : Nat) : Int) + ((k (4 * q0 + j) : Int) - (no : Int) + (k (4 * p + i) : Int) - (no : Int)) + (od : Int) := by omega
      rw [this]
      rfl
    · have hr : PR c w k no P x (16 :: l) := by unfold PRs at h1; rw [if_neg (by decide)] at h1; exact h1
      obtain ⟨b, hb⟩ := PR_nn hr
      have hlen := PR_len _ _ _ hr
      have hne : l ≠ [] := fun e => by
        subst e
        have e := Option.some.inj h2
        have := (Prod.mk.inj e).1
        omega
      have hpos : 0 < l.length := List.length_pos_iff.mpr hne
      rw [List.length_cons] at hlen
      refine ⟨16 :: l, x, b, hr, hb, by simp, Or.inr (Or.inr (Or.inr ?_))⟩
      unfold of4
      have e2 : gl (16 :: l) 0 = 16 := rfl
      have e1 : (some f).bind (fun f => ansL G wd (16 :: l) f 1) = some v := (ansR_PF (wd := wd f) (many := G 4 f) h0 (by rw [List.length_cons]; omega) (by rw [List.length_cons]; omega)).mpr h2
      rw [if_pos ⟨by rw [List.length_cons]; omega, e2⟩, e1]
      show some (((b + od : Nat) : Int), key2 8 v) = _
      have : ((b + od : Nat) : Int) = ((P * no : Nat) : Int) + x + (od : Int) := by omega
      rw [this]
      rfl
theorem len1 {l : List Nat} (h : l.length = 1) : l = [gl l 0] := by
  match l, h with
  | [a], _ => rfl
theorem len2 {l : List Nat} (h : l.length = 2) : l = [gl l 0, gl l 1] := by
  match l, h with
  | [a, b], _ => rfl
theorem sl0 (p i : Nat) : (p = 0 ∧ 0 ≤ i) ∨ (True ∧ 0 < p) := by
  rcases Nat.eq_zero_or_pos p with h | h
  · exact Or.inl ⟨h, Nat.zero_le _⟩
  · exact Or.inr ⟨trivial, h⟩
theorem OR_CX {P no od F : Nat} {G wd : Nat → Nat → Nat} {c w k : Nat → Nat} {hd ls : Option Nat} (hW : WH P c w k) (hG : GW F G wd) (cc : Int) (key : Nat) (h : OR P no od F G wd c w k hd ls cc key) : ∃ c', c' ≤ cc ∧ CX P no od F G wd c w k hd ls c' key := by
  have h8 := hW.1
  obtain ⟨l, x, b, hr, hb, hne, h⟩ := h
  have hlen := PR_len _ _ _ hr
  rcases h with h | h | h | h
  · unfold of1 at h
    cases hd with
    | none => cases h
    | some f =>
      cases hv : (some f).bind (fun f => ansL G wd l f 0) with
      | none => rw [hv] at h; cases h
      | some v =>
        rw [hv] at h
        have h := Option.some.inj h
        obtain ⟨e1, e2⟩ := Prod.mk.inj h
        have hv : ansL G wd l f 0 = some v := hv
        refine ⟨cc, Int.le_refl _, Or.inl (Or.inl (Or.inl ⟨f, rfl, ?_⟩))⟩
        by_cases h0 : G 1 f = 0
        · rw [ansL_choice h0] at hv
          split at hv
          · rename_i hl
            rw [len1 hl] at hr
            obtain ⟨p, i, p1, p2, p3, p4⟩ := PR_one.mp hr
            refine Or.inl ⟨h0, p, i, v, 0, sl0 p i, p1, p2, by rw [p3]; exact hv, LD_0 p, ?_, e2.symm⟩
            rw [if_pos rfl]
            omega
          · cases hv
        · refine Or.inr ⟨h0, x, v, ⟨l, by unfold PRs; rw [if_pos rfl]; exact hr, (ansR_PF (wd := wd f) (many := G 4 f) h0 (by omega) (Nat.zero_le _)).mp hv⟩, ?_, e2.symm⟩
          rw [← e1, hb, if_pos rfl, Int.add_zero]
  · unfold of2 at h
    split at h
    · rename_i hc
      obtain ⟨hl, h1, h2⟩ := hc
      have h := Option.some.inj h
      obtain ⟨e1, e2⟩ := Prod.mk.inj h
      rw [len1 hl] at hr
      obtain ⟨p, i, p1, p2, p3, p4⟩ := PR_one.mp hr
      refine ⟨cc, Int.le_refl _, Or.inl (Or.inl (Or.inr ⟨p, i, sl0 p i, p1, p2, by rw [p3]; exact h1, by rw [p3]; exact h2, by omega, by rw [p3]; exact e2.symm⟩))⟩
    · cases h
  · unfold of3 at h
    by_cases hc : l.length = 2 ∧ gl l 0 = 17
    · rw [if_pos hc] at h
      cases hv : fnd (G 0) (gl l 1) 0 F with
      | none => rw [hv] at h; cases h
      | some v =>
        rw [hv] at h
        have h := Option.some.inj h
        obtain ⟨e1, e2⟩ := Prod.mk.inj h
        rw [len2 hc.1] at hr
        obtain ⟨p, i, q0, j, p1, p2, p3, p4, p5, p6, p7⟩ := PR_two.mp hr
        obtain ⟨x', x1, x2⟩ := LD_le p q0 _ p1 ((ldP_iff hW (by omega) (show (7 : Nat) ≠ 0 by decide) _).mpr ⟨j, p4, p5.trans hc.2, rfl⟩)
        refine ⟨_, ?_, Or.inl (Or.inr ⟨p, i, v, x', sl0 p i, p2, p3, by rw [p6]; exact hv, x1, rfl, e2.symm⟩)⟩
        rw [if_neg (by decide)]
        omega
    · rw [if_neg hc] at h
      cases h
  · unfold of4 at h
    by_cases hc : 1 < l.length ∧ gl l 0 = 16
    · rw [if_pos hc] at h
      cases ls with
      | none => cases h
      | some f =>
        cases hv : (some f).bind (fun f => ansL G wd l f 1) with
        | none => rw [hv] at h; cases h
        | some v =>
          rw [hv] at h
          have h := Option.some.inj h
          obtain ⟨e1, e2⟩ := Prod.mk.inj h
          have hv : ansL G wd l f 1 = some v := hv
          by_cases h0 : G 1 f = 0
          · rw [ansL_choice h0] at hv
            split at hv
            · rename_i hl
              rw [len2 hl] at hr
              obtain ⟨p, i, q0, j, p1, p2, p3, p4, p5, p6, p7⟩ := PR_two.mp hr
              obtain ⟨x', x1, x2⟩ := LD_le p q0 _ p1 ((ldP_iff hW (by omega) (show (8 : Nat) ≠ 0 by decide) _).mpr ⟨j, p4, p5.trans hc.2, rfl⟩)
              refine ⟨_, ?_, Or.inr ⟨f, rfl, Or.inl ⟨h0, p, i, v, x', sl0 p i, p2, p3, by rw [p6]; exact hv, x1, rfl, e2.symm⟩⟩⟩
              rw [if_neg (by decide)]
              omega
            · cases hv
          · have hl : l = 16 :: l.drop 1 := by
              have := gl_drop (l := l) (k := 0) (by omega)
              rw [hc.2] at this
              exact this
            have hr2 : PRs c w k no 8 P x (l.drop 1) := by
              unfold PRs
              rw [if_neg (by decide)]
              show PR c w k no P x (16 :: l.drop 1)
              rw [← hl]
              exact hr
            refine ⟨cc, Int.le_refl _, Or.inr ⟨f, rfl, Or.inr ⟨h0, x, v, ⟨l.drop 1, hr2, (ansR_PF (wd := wd f) (many := G 4 f) h0 (by omega) (by omega)).mp hv⟩, ?_, e2.symm⟩⟩⟩
            rw [← e1, if_neg (by decide)]
            omega
    · rw [if_neg hc] at h
      cases h
/-- the two meanings are the same -/
theorem same_two {P no od F : Nat} {G wd : Nat → Nat → Nat} {c w k : Nat → Nat} {hd ls : Option Nat} {t t' : T2} (hW : WH P c w k) (hG : GW F G wd) (hhF : ∀ f, hd = some f → f < F) (hlF : ∀ f, ls = some f → f < F) (h1 : P2 (CX P no od F G wd c w k hd ls) t) (h2 : P2 (CO P c w k no F G wd hd ls od (fun _ => True)) t') : t = t' := by
  have h3 : P2 (OR P no od F G wd c w k hd ls) t := P2_dom h1 (fun cc key q => CX_OR hW hG hhF hlF cc key q) (fun cc key q => Or.inl (OR_CX hW hG cc key q))
  exact P2_uniq h3 (P2_congr h2 (fun cc key => CO_OR cc key))
