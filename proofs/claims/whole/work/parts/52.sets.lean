/-! What the rows of digits are: the two cheapest of all that was heard so far. -/
theorem P2_two {A : Int → Nat → Prop} {t : T2} (ht : P2 A t) {c : Int} {k : Nat} (q : A c k) : (∃ c', c' ≤ c ∧ two2 t c' k) ∨ ∃ c1 k1 c2 k2, k1 ≠ k2 ∧ two2 t c1 k1 ∧ two2 t c2 k2 ∧ le2 c1 k1 c k ∧ le2 c2 k2 c k := by
  obtain ⟨a, b⟩ := t
  rcases a with _ | ⟨c0, k0⟩ <;> rcases b with _ | ⟨c1, k1⟩
  · exact absurd q (ht _ _)
  · exact ht.elim
  · have := ht.2 _ _ q
    exact Or.inl ⟨c0, this.2, Or.inl (by rw [this.1])⟩
  · obtain ⟨g0, g1, g2, g3, g4, g5⟩ := ht
    by_cases hk : k = k0
    · subst hk
      have := g4 _ _ q
      unfold le2 at this
      exact Or.inl ⟨c0, by omega, Or.inl rfl⟩
    · exact Or.inr ⟨c0, k0, c1, k1, g0, Or.inl rfl, Or.inr rfl, g4 _ _ q, g5 _ _ q hk⟩
theorem P2_in {A : Int → Nat → Prop} {t : T2} (ht : P2 A t) {c : Int} {k : Nat} (q : two2 t c k) : A c k := by
  obtain ⟨a, b⟩ := t
  rcases a with _ | ⟨c0, k0⟩ <;> rcases b with _ | ⟨c1, k1⟩
  · rcases q with q | q <;> cases q
  · exact ht.elim
  · rcases q with q | q
    · cases q; exact ht.1
    · cases q
  · rcases q with q | q
    · cases q; exact ht.2.1
    · cases q; exact ht.2.2.1
theorem P2_insO {A : Int → Nat → Prop} {t : T2} (h : P2 A t) (o : Option (Int × Nat)) (x : Int) (f p : Nat) : P2 (fun c k => A c k ∨ ∃ c0 k0, o = some (c0, k0) ∧ c = c0 + x ∧ k = k0 * f + p) (insO t o x f p) := by
  rcases o with _ | ⟨c0, k0⟩
  · refine P2_congr h (fun c k => ⟨Or.inl, fun q => ?_⟩)
    rcases q with q | ⟨_, _, e, -⟩
    · exact q
    · cases e
  · refine P2_congr (P2_ins h (c0 + x) (k0 * f + p)) (fun c k => ?_)
    constructor
    · rintro (q | ⟨rfl, rfl⟩)
      · exact Or.inl q
      · exact Or.inr ⟨c0, k0, rfl, rfl, rfl⟩
    · rintro (q | ⟨c1, k1, e, rfl, rfl⟩)
      · exact Or.inl q
      · cases e
        exact Or.inr ⟨rfl, rfl⟩
/-- the two of t, further on -/
def sh2 (t : T2) (x : Int) (f p : Nat) : Int → Nat → Prop := fun c k => ∃ c0 k0, two2 t c0 k0 ∧ c = c0 + x ∧ k = k0 * f + p
theorem P2_sum {A : Nat → Int → Nat → Prop} {D : Nat → Nat → T2} {fr to W f p s : Nat} {x : Int} (hft : fr ≠ to) (h : ∀ s', s' < 10 → P2 (A s') (D to s')) : ∀ s', s' < 10 → P2 (fun c k => A s' c k ∨ ((s + W) % 10 = s' ∧ sh2 (D fr s) x f p c k)) (sumD D fr to W f p x s to s') := by
  intro s' hs'
  unfold sumD stepD updD
  by_cases hc : s' = (s + W) % 10
  · subst hc
    rw [if_pos ⟨rfl, rfl⟩, if_pos ⟨rfl, rfl⟩]
    have h1 := P2_insO (P2_insO (h _ hs') (D fr s).1 x f p) (D fr s).2 x f p
    refine P2_congr h1 (fun c k => ?_)
    constructor
    · rintro ((q | ⟨c0, k0, e, e1, e2⟩) | ⟨c0, k0, e, e1, e2⟩)
      · exact Or.inl q
      · exact Or.inr ⟨rfl, c0, k0, Or.inl e, e1, e2⟩
      · exact Or.inr ⟨rfl, c0, k0, Or.inr e, e1, e2⟩
    · rintro (q | ⟨-, c0, k0, e | e, e1, e2⟩)
      · exact Or.inl (Or.inl q)
      · exact Or.inl (Or.inr ⟨c0, k0, e, e1, e2⟩)
      · exact Or.inr ⟨c0, k0, e, e1, e2⟩
  · rw [if_neg (fun e => hc e.2), if_neg (fun e => hc e.2)]
    refine P2_congr (h s' hs') (fun c k => ⟨Or.inl, fun q => ?_⟩)
    rcases q with q | ⟨e, -⟩
    · exact q
    · exact absurd e.symm hc
theorem P2_sums {fr to W f p : Nat} {x : Int} (hft : fr ≠ to) : ∀ m s (A : Nat → Int → Nat → Prop) (D : Nat → Nat → T2), (∀ s', s' < 10 → P2 (A s') (D to s')) → ∀ s', s' < 10 → P2 (fun c k => A s' c k ∨ ∃ s0, s ≤ s0 ∧ s0 < s + m ∧ (s0 + W) % 10 = s' ∧ sh2 (D fr s0) x f p c k) (sumsD fr to W f p x m s D to s') := by
  intro m
  induction m with
  | zero =>
    intro s A D h s' hs'
    refine P2_congr (h s' hs') (fun c k => ⟨Or.inl, fun q => ?_⟩)
    rcases q with q | ⟨s0, a, b, -⟩
    · exact q
    · omega
  | succ m ih =>
    intro s A D h s' hs'
    have hsame : ∀ s1, sumD D fr to W f p x s fr s1 = D fr s1 := fun s1 => by
      unfold sumD
      rw [stepD_ne hft, stepD_ne hft]
    have h1 := ih (s + 1) (fun s' c k => A s' c k ∨ ((s + W) % 10 = s' ∧ sh2 (D fr s) x f p c k)) (sumD D fr to W f p x s) (P2_sum hft h) s' hs'
    refine P2_congr h1 (fun c k => ?_)
    constructor
    · rintro ((q | ⟨e, q⟩) | ⟨s0, a, b, e, q⟩)
      · exact Or.inl q
      · exact Or.inr ⟨s, Nat.le_refl _, by omega, e, q⟩
      · rw [hsame] at q
        exact Or.inr ⟨s0, by omega, by omega, e, q⟩
    · rintro (q | ⟨s0, a, b, e, q⟩)
      · exact Or.inl (Or.inl q)
      · by_cases hs0 : s0 = s
        · subst hs0
          exact Or.inl (Or.inr ⟨e, q⟩)
        · exact Or.inr ⟨s0, by omega, by omega, e, by rw [hsame]; exact q⟩
/-- all of A, further on -/
def shO (A : Int → Nat → Prop) (x : Int) (f p : Nat) : Int → Nat → Prop := fun c k => ∃ c0 k0, A c0 k0 ∧ c = c0 + x ∧ k = k0 * f + p
/-- what grow adds, said of all offers -/
theorem P2_grow {fr to W f p sm : Nat} {x : Int} (hft : fr ≠ to) (hf : 0 < f) (A F : Nat → Int → Nat → Prop) (D : Nat → Nat → T2) (h : ∀ s', s' < 10 → P2 (A s') (D to s')) (hF : ∀ s', s' < 10 → P2 (F s') (D fr s')) (hsm : sm ≤ 10) : ∀ s', s' < 10 → P2 (fun c k => A s' c k ∨ ∃ s0, s0 < sm ∧ (s0 + W) % 10 = s' ∧ shO (F s0) x f p c k) (sumsD fr to W f p x sm 0 D to s') := by
  intro s' hs'
  have h1 := P2_sums (x := x) (f := f) (p := p) (W := W) hft sm 0 A D h s' hs'
  have mono : ∀ k1 k2 : Nat, k1 ≤ k2 → k1 * f + p ≤ k2 * f + p := fun k1 k2 h => Nat.add_le_add_right (Nat.mul_le_mul_right f h) p
  have inj : ∀ k1 k2 : Nat, k1 ≠ k2 → k1 * f + p ≠ k2 * f + p := fun k1 k2 h e => h (Nat.eq_of_mul_eq_mul_right hf (by omega))
  refine P2_dom h1 (fun c k q => ?_) (fun c k q => ?_)
  · rcases q with q | ⟨s0, -, b, e, c0, k0, q, e1, e2⟩
    · exact Or.inl q
    · exact Or.inr ⟨s0, by omega, e, c0, k0, P2_in (hF s0 (by omega)) q, e1, e2⟩
  · rcases q with q | ⟨s0, b, e, c0, k0, q, rfl, rfl⟩
    · exact Or.inl ⟨c, Int.le_refl _, Or.inl q⟩
    · rcases P2_two (hF s0 (by omega)) q with ⟨c', g1, g2⟩ | ⟨c1, k1, c2, k2, g0, g1, g2, g3, g4⟩
      · exact Or.inl ⟨c' + x, by omega, Or.inr ⟨s0, Nat.zero_le _, by omega, e, c', k0, g2, rfl, rfl⟩⟩
      · unfold le2 at g3 g4
        have m1 := mono k1 k0
        have m2 := mono k2 k0
        refine Or.inr ⟨c1 + x, k1 * f + p, c2 + x, k2 * f + p, inj _ _ g0, Or.inr ⟨s0, Nat.zero_le _, by omega, e, c1, k1, g1, rfl, rfl⟩, Or.inr ⟨s0, Nat.zero_le _, by omega, e, c2, k2, g2, rfl, rfl⟩, ?_, ?_⟩
        · unfold le2
          rcases g3 with g3 | ⟨g3, g5⟩
          · exact Or.inl (by omega)
          · exact Or.inr ⟨by omega, m1 g5⟩
        · unfold le2
          rcases g4 with g4 | ⟨g4, g5⟩
          · exact Or.inl (by omega)
          · exact Or.inr ⟨by omega, m2 g5⟩
