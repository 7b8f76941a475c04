/-! grow whole, and hearPlace. -/
def kq10 (q : Nat) : Nat := 10 ^ (q / 2)
theorem kq10_le (q : Nat) (hq : q ≤ 16) : kq10 q ≤ 100000000 := by
  unfold kq10
  exact Nat.pow_le_pow_right (n := 10) (by decide) (show q / 2 ≤ 8 by omega)
theorem hrn_lt (w : Nat) (hw : w ≤ 9) : ∀ m p a, p < 10 ^ a → hrn w m p < 10 ^ (a + m) := by
  intro m
  induction m with
  | zero => intro p a h; exact h
  | succ m ih =>
    intro p a h
    have h1 : 10 * p + w < 10 ^ (a + 1) := by rw [Nat.pow_succ]; omega
    have h2 := ih (10 * p + w) (a + 1) h1
    rw [show a + (m + 1) = a + 1 + m by omega]
    exact h2
theorem hrn_lt0 (w : Nat) (hw : w ≤ 9) (m : Nat) : hrn w m 0 < 10 ^ m := by
  have := hrn_lt w hw m 0 0 (by decide)
  rwa [Nat.zero_add] at this
/-- the rows behind grow -/
def growD (n ck fr to w : Nat) (x : Int) (D : Nat → Nat → T2) : Nat → Nat → T2 := sumsD fr to (gw n ck w (fr / 2) (to / 2 - fr / 2)) (10 ^ (to / 2 - fr / 2)) (hrn w (to / 2 - fr / 2) 0) x (if ck = 0 then 1 else 10) 0 D
theorem p_grow {M : MM} {D : Nat → Nat → T2} {n ck fr to w : Nat} {x B0 B : Int} (h : RDl M n ck) (hn : n ≤ 8) (hc : ck ≤ 1) (hw : w ≤ 10) (hw2 : w ≤ 9 ∨ to / 2 = fr / 2) (hft : fr < to) (hto : to ≤ 2 * n) (hm : to / 2 - fr / 2 ≤ 2) (hRD : RD M D) (hb : bndD D B kq10) (hB : B ≤ 2000) (hx1 : -100 ≤ x) (hx2 : x ≤ 100) (hB0 : B0 + 100 ≤ B) (hf0 : ∀ s, s < 10 → ∀ c k, two2 (D fr s) c k → -B0 ≤ c ∧ c ≤ B0 ∧ k < kq10 fr) : ∃ M' : MM, mX0_grow [.inr (some 13), .inl (nI fr), .inl (nI to), .inl (nI w), .inl (iZ x)] M = some (none, M') ∧ RD M' (growD n ck fr to w x D) ∧ bndD (growD n ck fr to w x D) B kq10 ∧ ∀ c' j, c' ≠ 16 → c' ≠ 17 → M' c' j = M c' j := by
  have hpow : 10 ^ (to / 2 - fr / 2) ≤ 100 := Nat.pow_le_pow_right (n := 10) (by decide) hm
  have hp10 : hrn w (to / 2 - fr / 2) 0 < 10 ^ (to / 2 - fr / 2) := by
    rcases hw2 with hw9 | he
    · exact hrn_lt0 w hw9 _
    · rw [he, Nat.sub_self]; exact Nat.zero_lt_one
  have hgw : gw n ck w (fr / 2) (to / 2 - fr / 2) ≤ 18 := by
    rcases hw2 with hw9 | he
    · have := gw_le n ck w hw9 (to / 2 - fr / 2) (fr / 2)
      omega
    · rw [he, Nat.sub_self]; exact Nat.zero_le _
  have hhead : gX0_grow 14 [some (.inr (some 13)), some (.inl (nI fr)), some (.inl (nI to)), some (.inl (nI w)), some (.inl (iZ x)), some (.inl (nI 0)), some (.inl (nI 1)), some (.inl (nI 0)), some (.inl (nI (fr / 2))), none, none, none, none] [] M = gX0_grow 74 [some (.inr (some 13)), some (.inl (nI fr)), some (.inl (nI to)), some (.inl (nI w)), some (.inl (iZ x)), some (.inl (nI (gw n ck w (fr / 2) (to / 2 - fr / 2)))), some (.inl (nI (10 ^ (to / 2 - fr / 2)))), some (.inl (nI (hrn w (to / 2 - fr / 2) 0))), some (.inl (nI (if ck = 0 then 1 else 10))), some (.inl (nI 0)), none, none, none] [] M := by
    rcases hw2 with hw9 | he
    · have := p_grow_head (x := iZ x) (fr := fr) (to := to) h hn hc hw9 hto (to / 2 - fr / 2) (fr / 2) 0 1 0 (by omega) (by omega) (by omega)
      rw [Nat.zero_add, Nat.one_mul] at this
      exact this
    · rw [he, Nat.sub_self, eX0_grow_14, L2, q_div (by omega) (by omega) (by omega), if_pos (nI_le (show to / 2 ≤ fr / 2 by omega) (by omega)), h.2, L0, L1, L10]
      by_cases h0 : ck = 0
      · rw [h0, if_pos rfl, eX0_grow_69, if_pos rfl, L0]
        rfl
      · rw [if_neg (by rw [q_eq (by omega) (by omega)]; exact h0), eX0_grow_69, if_neg h0, L0]
        rfl
  have hsm : (if ck = 0 then 1 else 10) ≤ 10 := by split <;> omega
  obtain ⟨M', g1, g2, g3, g4⟩ := p_grow_sums (fr := fr) (to := to) (w := w) (W := gw n ck w (fr / 2) (to / 2 - fr / 2)) (f := 10 ^ (to / 2 - fr / 2)) (p := hrn w (to / 2 - fr / 2) 0) (sm := if ck = 0 then 1 else 10) (x := x) hB kq10_le (by omega) (by omega) (by omega) hsm (by omega) hpow (by omega) hx1 hx2 (if ck = 0 then 1 else 10) 0 M D none none none (by omega) hRD hb (fun s' hs' c k hc9 => by
    obtain ⟨a1, a2, a3⟩ := hf0 s' hs' c k hc9
    refine ⟨by omega, by omega, ?_⟩
    unfold kq10 at a3 ⊢
    have e1 : to / 2 = fr / 2 + (to / 2 - fr / 2) := by omega
    rw [e1, Nat.pow_add, show fr / 2 + (to / 2 - fr / 2) - fr / 2 = to / 2 - fr / 2 by omega]
    have h5 : (k + 1) * 10 ^ (to / 2 - fr / 2) ≤ 10 ^ (fr / 2) * 10 ^ (to / 2 - fr / 2) := Nat.mul_le_mul_right _ a3
    rw [Nat.add_mul, Nat.one_mul] at h5
    omega)
  refine ⟨M', ?_, g2, g3, g4⟩
  rw [iX0_grow, eX0_grow_0, L0, L1, L2, q_div (by omega) (by omega) (by omega), hhead]
  exact g1
/-- growD changes rows of its end alone -/
theorem sumsD_ne {fr to W f p : Nat} {x : Int} {q : Nat} (h : q ≠ to) : ∀ m s (D : Nat → Nat → T2) s', sumsD fr to W f p x m s D q s' = D q s' := by
  intro m
  induction m with
  | zero => intro s D s'; rfl
  | succ m ih =>
    intro s D s'
    show sumsD fr to W f p x m (s + 1) (sumD D fr to W f p x s) q s' = D q s'
    rw [ih]
    unfold sumD
    rw [stepD_ne h, stepD_ne h]
theorem growD_ne {n ck fr to w : Nat} {x : Int} {D : Nat → Nat → T2} {q s' : Nat} (h : q ≠ to) : growD n ck fr to w x D q s' = D q s' := sumsD_ne h _ _ _ _
theorem nxt_spec {n q w t : Nat} (h : nxt n q w = some t) : q < t ∧ t ≤ 2 * n ∧ t / 2 - q / 2 ≤ 2 ∧ w ≤ 10 ∧ (w ≤ 9 ∨ t / 2 = q / 2) := by
  unfold nxt at h
  split at h
  · rename_i h1
    have := Option.some.inj h
    subst this
    omega
  · by_cases hq : q % 2 = 1
    · rw [if_pos hq] at h
      split at h
      · rename_i h1
        have := Option.some.inj h
        subst this
        omega
      · cases h
    · rw [if_neg hq] at h
      split at h
      · rename_i h1
        have := Option.some.inj h
        subst this
        omega
      · cases h
/-- the rows behind one word -/
def wordD (n ck q wd : Nat) (x : Int) (D : Nat → Nat → T2) : Nat → Nat → T2 := match nxt n q wd with
  | none => D
  | some t => growD n ck q t wd x D
theorem wordD_ne {n ck q wd : Nat} {x : Int} {D : Nat → Nat → T2} {q' s' : Nat} (h : q' ≤ q) : wordD n ck q wd x D q' s' = D q' s' := by
  unfold wordD
  cases hx : nxt n q wd with
  | none => rfl
  | some t =>
    have := (nxt_spec hx).1
    exact growD_ne (by omega)
