/-! DigitRows.grow. -/
theorem two2_ins {t : T2} {c c' : Int} {k k' : Nat} (h : two2 (ins2 t c k) c' k') : two2 t c' k' ∨ (c' = c ∧ k' = k) := by
  obtain ⟨a, b⟩ := t
  rcases a with _ | ⟨c0, k0⟩
  · rcases h with h | h
    · cases h; exact Or.inr ⟨rfl, rfl⟩
    · cases h
  · rcases b with _ | ⟨c1, k1⟩
    · unfold ins2 at h
      dsimp only at h
      split at h
      · rename_i hk
        subst hk
        rcases h with h | h
        · split at h
          · cases h; exact Or.inr ⟨rfl, rfl⟩
          · cases h; exact Or.inl (Or.inl rfl)
        · cases h
      · split at h
        · rcases h with h | h
          · cases h; exact Or.inr ⟨rfl, rfl⟩
          · cases h; exact Or.inl (Or.inl rfl)
        · rcases h with h | h
          · cases h; exact Or.inl (Or.inl rfl)
          · cases h; exact Or.inr ⟨rfl, rfl⟩
    · unfold ins2 at h
      dsimp only at h
      split at h
      · rename_i hk
        subst hk
        rcases h with h | h
        · split at h
          · cases h; exact Or.inr ⟨rfl, rfl⟩
          · cases h; exact Or.inl (Or.inl rfl)
        · cases h; exact Or.inl (Or.inr rfl)
      · split at h
        · rcases h with h | h
          · cases h; exact Or.inr ⟨rfl, rfl⟩
          · cases h; exact Or.inl (Or.inl rfl)
        · split at h
          · rcases h with h | h
            · cases h; exact Or.inl (Or.inl rfl)
            · cases h; exact Or.inr ⟨rfl, rfl⟩
          · exact Or.inl h
theorem okT_of {t : T2} (h : ∀ c k, two2 t c k → -1000000 ≤ c ∧ c < 1000000 ∧ k < 2000000000) (h2 : t.1 = none → t.2 = none) : okT t := by
  obtain ⟨a, b⟩ := t
  refine ⟨?_, ?_, h2⟩
  · rcases a with _ | ⟨c, k⟩
    · trivial
    · exact h c k (Or.inl rfl)
  · rcases b with _ | ⟨c, k⟩
    · trivial
    · exact h c k (Or.inr rfl)
theorem ins2_fst {t : T2} {c : Int} {k : Nat} : (ins2 t c k).1 = none → (ins2 t c k).2 = none := by
  intro h
  exfalso
  obtain ⟨a, b⟩ := t
  rcases a with _ | ⟨c0, k0⟩
  · cases h
  · rcases b with _ | ⟨c1, k1⟩
    · unfold ins2 at h
      dsimp only at h
      split at h
      · cases h
      · split at h <;> cases h
    · unfold ins2 at h
      dsimp only at h
      split at h
      · cases h
      · split at h
        · cases h
        · split at h <;> cases h
/-- one more offer, if there is one -/
def insO (t : T2) (o : Option (Int × Nat)) (x : Int) (f p : Nat) : T2 := match o with
  | none => t
  | some (c, k) => ins2 t (c + x) (k * f + p)
def updD (D : Nat → Nat → T2) (q s : Nat) (t : T2) : Nat → Nat → T2 := fun q' s' => if q' = q ∧ s' = s then t else D q' s'
/-- the rows of digits: at the stand q, of the sum s -/
def RD (M : MM) (D : Nat → Nat → T2) : Prop := ∀ q, q ≤ 16 → ∀ s, s < 10 → RT M 16 17 (q * 10 + s) (D q s)
theorem RD_upd {M M' : MM} {D : Nat → Nat → T2} (h : RD M D) {q s : Nat} (hq : q ≤ 16) (hs : s < 10) {t : T2} (h1 : RT M' 16 17 (q * 10 + s) t) (h2 : ∀ j, j ≠ 2 * (q * 10 + s) → j ≠ 2 * (q * 10 + s) + 1 → M' 16 j = M 16 j ∧ M' 17 j = M 17 j) : RD M' (updD D q s t) := by
  intro q' hq' s' hs'
  unfold updD
  by_cases hc : q' = q ∧ s' = s
  · rw [if_pos hc, hc.1, hc.2]
    exact h1
  · rw [if_neg hc]
    obtain ⟨a, b, c, d⟩ := h q' hq' s' hs'
    have hne : q' * 10 + s' ≠ q * 10 + s := by omega
    have h3 := h2 (2 * (q' * 10 + s')) (by omega) (by omega)
    have h4 := h2 (2 * (q' * 10 + s') + 1) (by omega) (by omega)
    exact ⟨by rw [h3.1]; exact a, by rw [h3.2]; exact b, by rw [h4.1]; exact c, by rw [h4.2]; exact d⟩
/-- the weights of m digits w from the place i on -/
def gw (n ck w : Nat) : Nat → Nat → Nat
  | _, 0 => 0
  | i, m + 1 => wgt n ck i w + gw n ck w (i + 1) m
def hrn (w : Nat) : Nat → Nat → Nat
  | 0, p => p
  | m + 1, p => hrn w m (10 * p + w)
theorem gw_le (n ck w : Nat) (hw : w ≤ 9) : ∀ m i, gw n ck w i m ≤ 9 * m := by
  intro m
  induction m with
  | zero => intro i; exact Nat.le_refl _
  | succ m ih =>
    intro i
    have := ih (i + 1)
    have := wgt_le n ck i w hw
    unfold gw
    omega
/-- the head of grow: what is added to sum, cost and number -/
theorem p_grow_head {M : MM} {n ck fr to w : Nat} {x : Int32} (h : RDl M n ck) (hn : n ≤ 8) (hc : ck ≤ 1) (hw : w ≤ 9) (hto : to ≤ 2 * n) : ∀ m i a f p, i + m = to / 2 → a + 9 * m ≤ 1000 → f * 10 ^ m ≤ 100000000 → gX0_grow 14 [some (.inr (some 13)), some (.inl (nI fr)), some (.inl (nI to)), some (.inl (nI w)), some (.inl x), some (.inl (nI a)), some (.inl (nI f)), some (.inl (nI p)), some (.inl (nI i)), none, none, none, none] [] M = gX0_grow 74 [some (.inr (some 13)), some (.inl (nI fr)), some (.inl (nI to)), some (.inl (nI w)), some (.inl x), some (.inl (nI (a + gw n ck w i m))), some (.inl (nI (f * 10 ^ m))), some (.inl (nI (hrn w m p))), some (.inl (nI (if ck = 0 then 1 else 10))), some (.inl (nI 0)), none, none, none] [] M := by
  intro m
  induction m with
  | zero =>
    intro i a f p hi ha hf
    rw [eX0_grow_14, L2, q_div (by omega) (by omega) (by omega), if_pos (nI_le (show to / 2 ≤ i by omega) (by omega)), h.2, L0, L1, L10]
    by_cases h0 : ck = 0
    · rw [h0, if_pos rfl, eX0_grow_69, if_pos rfl, L0, Nat.pow_zero, Nat.mul_one]
      rfl
    · rw [if_neg (by rw [q_eq (by omega) (by omega)]; exact h0), eX0_grow_69, if_neg h0, L0, Nat.pow_zero, Nat.mul_one]
      rfl
  | succ m ih =>
    intro i a f p hi ha hf
    have hw1 := wgt_le n ck i w hw
    rw [eX0_grow_14, L2, q_div (by omega) (by omega) (by omega), if_neg (by rw [q_le (by omega) (by omega)]; omega), p_weight h hn hc (by omega) hw]
    simp only [bnd1, Option.toList_some, List.cons_append, List.nil_append, eX0_grow_31]
    rw [L1, L10, q_add, q_add, q_mul, q_mul, q_add]
    have e1 : f * 10 * 10 ^ m = f * 10 ^ (m + 1) := by rw [Nat.pow_succ, Nat.mul_assoc, Nat.mul_comm 10]
    have hg := gw_le n ck w hw m (i + 1)
    have hlim : a + wgt n ck i w + 9 * m ≤ 1000 := by omega
    rw [ih (i + 1) (a + wgt n ck i w) (f * 10) (10 * p + w) (by omega) hlim (by rw [e1]; exact hf), e1]
    show _ = gX0_grow 74 [some (.inr (some 13)), some (.inl (nI fr)), some (.inl (nI to)), some (.inl (nI w)), some (.inl x), some (.inl (nI (a + (wgt n ck i w + gw n ck w (i + 1) m)))), some (.inl (nI (f * 10 ^ (m + 1)))), some (.inl (nI (hrn w m (10 * p + w)))), some (.inl (nI (if ck = 0 then 1 else 10))), some (.inl (nI 0)), none, none, none] [] M
    rw [Nat.add_assoc]
