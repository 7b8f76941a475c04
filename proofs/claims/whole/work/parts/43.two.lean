/-! The two cheapest of a set of offers (cost, key): each key once, of like costs the least key first. -/
abbrev T2 : Type := Option (Int × Nat) × Option (Int × Nat)
def le2 (c : Int) (k : Nat) (c' : Int) (k' : Nat) : Prop := c < c' ∨ (c = c' ∧ k ≤ k')
def P2 (O : Int → Nat → Prop) (t : T2) : Prop := match t with
  | (none, none) => ∀ c k, ¬ O c k
  | (some (c0, k0), none) => O c0 k0 ∧ ∀ c k, O c k → k = k0 ∧ c0 ≤ c
  | (some (c0, k0), some (c1, k1)) => k0 ≠ k1 ∧ O c0 k0 ∧ O c1 k1 ∧ le2 c0 k0 c1 k1 ∧ (∀ c k, O c k → le2 c0 k0 c k) ∧ ∀ c k, O c k → k ≠ k0 → le2 c1 k1 c k
  | (none, some _) => False
def ins2 (t : T2) (c : Int) (k : Nat) : T2 := match t with
  | (none, _) => (some (c, k), none)
  | (some (c0, k0), none) => if k = k0 then (some (if c < c0 then c else c0, k0), none) else if c < c0 ∨ (c = c0 ∧ k < k0) then (some (c, k), some (c0, k0)) else (some (c0, k0), some (c, k))
  | (some (c0, k0), some (c1, k1)) => if k = k0 then (some (if c < c0 then c else c0, k0), some (c1, k1)) else if c < c0 ∨ (c = c0 ∧ k < k0) then (some (c, k), some (c0, k0)) else if c < c1 ∨ (c = c1 ∧ k < k1) then (some (c0, k0), some (c, k)) else (some (c0, k0), some (c1, k1))
def add2 (O : Int → Nat → Prop) (c : Int) (k : Nat) : Int → Nat → Prop := fun c' k' => O c' k' ∨ (c' = c ∧ k' = k)
theorem P2_ins {O : Int → Nat → Prop} {t : T2} (h : P2 O t) (c : Int) (k : Nat) : P2 (add2 O c k) (ins2 t c k) := by
  obtain ⟨a, b⟩ := t
  rcases a with _ | ⟨c0, k0⟩
  · rcases b with _ | b
    · refine ⟨Or.inr ⟨rfl, rfl⟩, fun c' k' h' => ?_⟩
      rcases h' with h' | ⟨rfl, rfl⟩
      · exact absurd h' (h _ _)
      · exact ⟨rfl, Int.le_refl _⟩
    · exact h.elim
  · rcases b with _ | ⟨c1, k1⟩
    · obtain ⟨h1, h2⟩ := h
      unfold ins2
      dsimp only
      split
      · rename_i hk
        subst hk
        refine ⟨?_, fun c' k' h' => ?_⟩
        · split
          · exact Or.inr ⟨rfl, rfl⟩
          · exact Or.inl h1
        · rcases h' with h' | ⟨rfl, rfl⟩
          · have := h2 _ _ h'
            refine ⟨this.1, ?_⟩
            split <;> omega
          · refine ⟨rfl, ?_⟩
            split <;> omega
      · rename_i hk
        split
        · rename_i hlt
          refine ⟨hk, Or.inr ⟨rfl, rfl⟩, Or.inl h1, ?_, fun c' k' h' => ?_, fun c' k' h' hne => ?_⟩
          · unfold le2; omega
          · unfold le2
            rcases h' with h' | ⟨rfl, rfl⟩
            · have := h2 _ _ h'
              omega
            · omega
          · unfold le2
            rcases h' with h' | ⟨rfl, rfl⟩
            · have := h2 _ _ h'
              omega
            · omega
        · rename_i hlt
          refine ⟨fun e => hk e.symm, Or.inl h1, Or.inr ⟨rfl, rfl⟩, ?_, fun c' k' h' => ?_, fun c' k' h' hne => ?_⟩
          · unfold le2; omega
          · unfold le2
            rcases h' with h' | ⟨rfl, rfl⟩
            · have := h2 _ _ h'
              omega
            · omega
          · unfold le2
            rcases h' with h' | ⟨rfl, rfl⟩
            · have := h2 _ _ h'
              omega
            · omega
    · obtain ⟨h0, h1, h2, h3, h4, h5⟩ := h
      unfold le2 at h3
      unfold ins2
      dsimp only
      split
      · rename_i hk
        subst hk
        refine ⟨h0, ?_, Or.inl h2, ?_, fun c' k' h' => ?_, fun c' k' h' hne => ?_⟩
        · split
          · exact Or.inr ⟨rfl, rfl⟩
          · exact Or.inl h1
        · unfold le2; split <;> omega
        · unfold le2
          rcases h' with h' | ⟨rfl, rfl⟩
          · have := h4 _ _ h'
            unfold le2 at this
            split <;> omega
          · split <;> omega
        · rcases h' with h' | ⟨rfl, rfl⟩
          · exact h5 _ _ h' hne
          · exact absurd rfl hne
      · rename_i hk
        split
        · rename_i hlt
          refine ⟨hk, Or.inr ⟨rfl, rfl⟩, Or.inl h1, ?_, fun c' k' h' => ?_, fun c' k' h' hne => ?_⟩
          · unfold le2; omega
          · unfold le2
            rcases h' with h' | ⟨rfl, rfl⟩
            · have := h4 _ _ h'
              unfold le2 at this
              omega
            · omega
          · rcases h' with h' | ⟨rfl, rfl⟩
            · exact h4 _ _ h'
            · exact absurd rfl hne
        · rename_i hlt
          split
          · rename_i hlt2
            refine ⟨fun e => hk e.symm, Or.inl h1, Or.inr ⟨rfl, rfl⟩, ?_, fun c' k' h' => ?_, fun c' k' h' hne => ?_⟩
            · unfold le2; omega
            · rcases h' with h' | ⟨rfl, rfl⟩
              · exact h4 _ _ h'
              · unfold le2; omega
            · unfold le2
              rcases h' with h' | ⟨rfl, rfl⟩
              · have := h5 _ _ h' hne
                unfold le2 at this
                omega
              · omega
          · rename_i hlt2
            refine ⟨h0, Or.inl h1, Or.inl h2, h3, fun c' k' h' => ?_, fun c' k' h' hne => ?_⟩
            · rcases h' with h' | ⟨rfl, rfl⟩
              · exact h4 _ _ h'
              · unfold le2; omega
            · rcases h' with h' | ⟨rfl, rfl⟩
              · exact h5 _ _ h' hne
              · unfold le2; omega
theorem P2_uniq {O : Int → Nat → Prop} {t t' : T2} (h : P2 O t) (h' : P2 O t') : t = t' := by
  obtain ⟨a, b⟩ := t
  obtain ⟨a', b'⟩ := t'
  rcases a with _ | ⟨c0, k0⟩ <;> rcases b with _ | ⟨c1, k1⟩ <;> rcases a' with _ | ⟨c0', k0'⟩ <;> rcases b' with _ | ⟨c1', k1'⟩
  · rfl
  · exact h'.elim
  · exact absurd h'.1 (h _ _)
  · exact absurd h'.2.1 (h _ _)
  · exact h.elim
  · exact h.elim
  · exact h.elim
  · exact h.elim
  · exact absurd h.1 (h' _ _)
  · exact h'.elim
  · have a1 := h.2 _ _ h'.1
    have a2 := h'.2 _ _ h.1
    obtain rfl : c0 = c0' := by omega
    obtain rfl : k0 = k0' := a2.1
    rfl
  · have a1 := (h.2 _ _ h'.2.1).1
    have a2 := (h.2 _ _ h'.2.2.1).1
    exact absurd (a1.trans a2.symm) h'.1
  · exact absurd h.2.1 (h' _ _)
  · exact h'.elim
  · have a1 := (h'.2 _ _ h.2.1).1
    have a2 := (h'.2 _ _ h.2.2.1).1
    exact absurd (a1.trans a2.symm) h.1
  · obtain ⟨g0, g1, g2, g3, g4, g5⟩ := h
    obtain ⟨f0, f1, f2, f3, f4, f5⟩ := h'
    have a1 := g4 _ _ f1
    have a2 := f4 _ _ g1
    unfold le2 at a1 a2
    obtain rfl : c0 = c0' := by omega
    obtain rfl : k0 = k0' := by omega
    have a3 := g5 _ _ f2 (Ne.symm f0)
    have a4 := f5 _ _ g2 (Ne.symm g0)
    unfold le2 at a3 a4
    obtain rfl : c1 = c1' := by omega
    obtain rfl : k1 = k1' := by omega
    rfl
/-- a part of the offers is enough, if each other one has a cheaper one of its key there, or two better ones of other keys -/
theorem P2_dom {O O' : Int → Nat → Prop} {t : T2} (h : P2 O' t) (hs : ∀ c k, O' c k → O c k) (hd : ∀ c k, O c k → (∃ c', c' ≤ c ∧ O' c' k) ∨ ∃ c1 k1 c2 k2, k1 ≠ k2 ∧ O' c1 k1 ∧ O' c2 k2 ∧ le2 c1 k1 c k ∧ le2 c2 k2 c k) : P2 O t := by
  obtain ⟨a, b⟩ := t
  rcases a with _ | ⟨c0, k0⟩
  · rcases b with _ | b
    · intro c k ho
      rcases hd c k ho with ⟨c', -, h1⟩ | ⟨c1, k1, -, -, -, h1, -⟩
      · exact h _ _ h1
      · exact h _ _ h1
    · exact h.elim
  · rcases b with _ | ⟨c1, k1⟩
    · refine ⟨hs _ _ h.1, fun c k ho => ?_⟩
      rcases hd c k ho with ⟨c', g1, h1⟩ | ⟨e1, l1, e2, l2, hne, h1, h2, -⟩
      · have := h.2 _ _ h1
        exact ⟨this.1, by omega⟩
      · exact absurd ((h.2 _ _ h1).1.trans (h.2 _ _ h2).1.symm) hne
    · obtain ⟨g0, g1, g2, g3, g4, g5⟩ := h
      refine ⟨g0, hs _ _ g1, hs _ _ g2, g3, fun c k ho => ?_, fun c k ho hne => ?_⟩
      · rcases hd c k ho with ⟨c', f1, h1⟩ | ⟨e1, l1, e2, l2, hne, h1, h2, f1, f2⟩
        · have := g4 _ _ h1
          unfold le2 at this ⊢
          omega
        · have := g4 _ _ h1
          unfold le2 at this f1 ⊢
          omega
      · rcases hd c k ho with ⟨c', f1, h1⟩ | ⟨e1, l1, e2, l2, hne2, h1, h2, f1, f2⟩
        · have := g5 _ _ h1 hne
          unfold le2 at this ⊢
          omega
        · by_cases hl : l1 = k0
          · have := g5 _ _ h2 (fun e => hne2 (hl.trans e.symm))
            unfold le2 at this f2 ⊢
            omega
          · have := g5 _ _ h1 hl
            unfold le2 at this f1 ⊢
            omega
theorem P2_congr {O O' : Int → Nat → Prop} {t : T2} (h : P2 O t) (he : ∀ c k, O c k ↔ O' c k) : P2 O' t :=
  P2_dom h (fun c k q => (he c k).mp q) (fun c k q => Or.inl ⟨c, Int.le_refl _, (he c k).mpr q⟩)
/-- the two that stand in t, as offers -/
def two2 (t : T2) : Int → Nat → Prop := fun c k => t.1 = some (c, k) ∨ t.2 = some (c, k)
/-- what stands in t is enough of its offers -/
theorem P2_prune {A B : Int → Nat → Prop} {t s : T2} (ht : P2 A t) (h : P2 (fun c k => two2 t c k ∨ B c k) s) : P2 (fun c k => A c k ∨ B c k) s := by
  refine P2_dom h (fun c k q => ?_) (fun c k q => ?_)
  · rcases q with q | q
    · refine Or.inl ?_
      obtain ⟨a, b⟩ := t
      rcases a with _ | ⟨c0, k0⟩ <;> rcases b with _ | ⟨c1, k1⟩
      · rcases q with q | q <;> cases q
      · exact ht.elim
      · rcases q with q | q
        · cases q; exact ht.1
        · cases q
      · rcases q with q | q
        · cases q; exact ht.2.1
        · cases q; exact ht.2.2.1
    · exact Or.inr q
  · rcases q with q | q
    · obtain ⟨a, b⟩ := t
      rcases a with _ | ⟨c0, k0⟩ <;> rcases b with _ | ⟨c1, k1⟩
      · exact absurd q (ht _ _)
      · exact ht.elim
      · have := ht.2 _ _ q
        exact Or.inl ⟨c0, this.2, Or.inl (Or.inl (by rw [this.1]))⟩
      · obtain ⟨g0, g1, g2, g3, g4, g5⟩ := ht
        by_cases hk : k = k0
        · subst hk
          have := g4 _ _ q
          unfold le2 at this
          exact Or.inl ⟨c0, by omega, Or.inl (Or.inl rfl)⟩
        · exact Or.inr ⟨c0, k0, c1, k1, g0, Or.inl (Or.inl rfl), Or.inl (Or.inr rfl), g4 _ _ q, g5 _ _ q hk⟩
    · exact Or.inl ⟨c, Int.le_refl _, Or.inr q⟩
