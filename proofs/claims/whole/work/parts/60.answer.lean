/-! The reference's answer, whole; fieldNamed. -/
theorem prs_b {rw : Nat → Nat} {R len : Nat} : ∀ f v n k v' n' k', prs rw R len f v n k = some (v', n', k') → k ≤ R → n ≤ len + 1 → v < 10 ^ n → n ≤ n' ∧ k' ≤ R ∧ n' ≤ len + 1 ∧ v' < 10 ^ n' := by
  intro f
  induction f with
  | zero =>
    intro v n k v' n' k' h h1 h2 h3
    cases h
    exact ⟨Nat.le_refl _, h1, h2, h3⟩
  | succ f ih =>
    intro v n k v' n' k' h h1 h2 h3
    unfold prs at h
    by_cases hc : k < R ∧ n < len
    · rw [if_pos hc] at h
      by_cases h10 : rw k = 10
      · rw [if_pos h10] at h
        by_cases h9 : k + 1 = R ∨ 9 < rw (k + 1)
        · rw [if_pos h9] at h; cases h
        · rw [if_neg h9] at h
          have hv : 10 * (10 * v + rw (k + 1)) + rw (k + 1) < 10 ^ (n + 2) := by
            rw [Nat.pow_succ, Nat.pow_succ]
            omega
          have := ih _ _ _ _ _ _ h (by omega) (by omega) hv
          exact ⟨by omega, this.2⟩
      · rw [if_neg h10] at h
        by_cases h9 : 9 < rw k
        · rw [if_pos h9] at h; cases h
        · rw [if_neg h9] at h
          have hv : 10 * v + rw k < 10 ^ (n + 1) := by
            rw [Nat.pow_succ]
            omega
          have := ih _ _ _ _ _ _ h (by omega) (by omega) hv
          exact ⟨by omega, this.2⟩
    · rw [if_neg hc] at h
      cases h
      exact ⟨Nat.le_refl _, h1, h2, h3⟩
/-- the row from fr on as an answer to a field -/
def ansR (len ck many : Nat) (wd rw : Nat → Nat) (R fr : Nat) : Option Nat := if len = 0 then (if R = fr + 1 then fnd wd (rw fr) 0 many else none) else match prs rw R len 8 0 0 fr with
  | none => none
  | some (v, n, k) => if k = R ∧ n = len ∧ (ck = 0 ∨ chk2 len 0 v % 10 = 0) then some v else none
theorem ansR_lt {len ck many R fr v : Nat} {wd rw : Nat → Nat} (hl : len ≤ 8) (hm : many ≤ 6) (hfr : fr ≤ R) (h : ansR len ck many wd rw R fr = some v) : v < 100000000 ∧ (len = 0 → v < many) := by
  unfold ansR at h
  by_cases h0 : len = 0
  · rw [if_pos h0] at h
    split at h
    · have := fnd_some h
      exact ⟨by omega, fun _ => by omega⟩
    · cases h
  · rw [if_neg h0] at h
    cases hx : prs rw R len 8 0 0 fr with
    | none => rw [hx] at h; cases h
    | some q =>
      obtain ⟨v', n', k'⟩ := q
      rw [hx] at h
      have hb := prs_b 8 0 0 fr v' n' k' hx hfr (by omega) (by decide)
      dsimp only at h
      split at h
      · rename_i hc
        have := Option.some.inj h
        subst this
        have h1 : 10 ^ n' ≤ 10 ^ 8 := Nat.pow_le_pow_right (by decide) (by omega)
        exact ⟨by omega, fun e => absurd e h0⟩
      · cases h
theorem p_answer {M : MM} {R len ck many fld fr : Nat} {rw wd : Nat → Nat} (hR : RW M R rw) (hf : fld < 12) (h21 : M 21 fld = nI len) (hlen : len ≤ 8) (h22 : M 22 fld = nI many) (hm : many ≤ 6) (h23 : M 23 fld = nI ck) (hc : ck ≤ 1) (h25 : ∀ k, k < many → M 25 (6 * fld + k) = nI (wd k) ∧ wd k ≤ 59) (hfr : fr ≤ R) : mX10_answer [.inr (some 19), .inl (nI fld), .inl (nI fr)] M = some (some (.inl (oI (ansR len ck many wd rw R fr))), M) := by
  obtain ⟨h8, h24, hrw⟩ := id hR
  have gf : ¬ (nI fld < 0 ∨ 12 ≤ fld) := by
    have := nI_in (c := fld) (N := 12) (by omega) (by omega)
    rw [q_cl (by omega)] at this
    exact this
  rw [iX10_answer, eX10_answer_0, q_cl (show fld < 2147483648 by omega), if_neg gf, h21, h24, L0, L1, q_add]
  unfold ansR
  by_cases hl : len = 0
  · rw [if_pos (by rw [hl]), if_pos hl]
    by_cases hr : R = fr + 1
    · rw [if_pos (by rw [hr]), if_pos hr]
      have gr : ¬ (nI fr < 0 ∨ 8 ≤ fr) := by
        have := nI_in (c := fr) (N := 8) (by omega) (by omega)
        rw [q_cl (by omega)] at this
        exact this
      obtain ⟨y1, y2⟩ := hrw fr (by omega)
      have key : ∀ m i, i + m = many → gX10_answer 23 [some (.inr (some 19)), some (.inl (nI fld)), some (.inl (nI fr)), some (.inl (nI i)), none, none, none] [] M = some (some (.inl (oI (fnd wd (rw fr) i m))), M) := by
        intro m
        induction m with
        | zero =>
          intro i hi
          rw [eX10_answer_23, q_cl (show fld < 2147483648 by omega), if_neg gf, h22, if_pos (nI_le (show many ≤ i by omega) (by omega))]
          rfl
        | succ m ih =>
          intro i hi
          obtain ⟨z1, z2⟩ := h25 i (by omega)
          have gi : ¬ (nI (6 * fld + i) < 0 ∨ 72 ≤ 6 * fld + i) := by
            have := nI_in (c := 6 * fld + i) (N := 72) (by omega) (by omega)
            rw [q_cl (by omega)] at this
            exact this
          rw [eX10_answer_23, q_cl (show fld < 2147483648 by omega), if_neg gf, h22, if_neg (by rw [q_le (by omega) (by omega)]; omega), L6, q_mul, q_add, q_cl (show 6 * fld + i < 2147483648 by omega), if_neg gi, q_cl (show fr < 2147483648 by omega), if_neg gr, z1, y2]
          unfold fnd
          by_cases hw : wd i = rw fr
          · rw [if_pos (by rw [hw]), if_pos hw]
            rfl
          · rw [if_neg (by rw [q_eq (by omega) (by omega)]; exact hw), if_neg hw, L1, q_add]
            exact ih (i + 1) (by omega)
      exact key many 0 (by omega)
    · rw [if_neg (by rw [q_eq (by omega) (by omega)]; exact hr), if_neg hr]
      rfl
  · rw [if_neg (by rw [q_eq (by omega) (by omega)]; exact hl), if_neg hl]
    obtain ⟨a, b⟩ := p_ans_loop (fr := fr) hR hf h21 hlen 8 0 0 fr none (by omega) hfr (by omega)
    cases hx : prs rw R len 8 0 0 fr with
    | none => rw [a hx]; rfl
    | some q =>
      obtain ⟨v', n', k'⟩ := q
      obtain ⟨e6, he⟩ := b v' n' k' hx
      have hb := prs_b 8 0 0 fr v' n' k' hx hfr (by omega) (by decide)
      have h9 : 10 ^ n' ≤ 10 ^ 9 := Nat.pow_le_pow_right (by decide) (by omega)
      rw [he, eX10_answer_193, h24, q_cl (show fld < 2147483648 by omega), h21, h23]
      show _ = (some (some (.inl (oI (if k' = R ∧ n' = len ∧ (ck = 0 ∨ chk2 len 0 v' % 10 = 0) then some v' else none))), M) : Option AR)
      by_cases hk : k' < R
      · rw [if_pos (nI_lt hk (by omega)), if_neg (fun e => by omega)]
        rfl
      · rw [if_neg (by rw [q_lt (by omega) (by omega)]; exact hk), if_neg gf]
        by_cases hn : n' = len
        · rw [if_pos (by rw [hn]), if_neg gf]
          by_cases h0 : ck = 0
          · rw [if_pos (by rw [h0]; rfl), if_pos ⟨by omega, hn, Or.inl h0⟩]
            rfl
          · rw [if_neg (by rw [L0, q_eq (by omega) (by omega)]; exact h0), p_holds (v := v') (n := n') (by omega) (by omega)]
            simp only [bnd1, Option.toList_some, List.cons_append, List.nil_append, eX10_answer_229]
            by_cases hh : chk2 n' 0 v' % 10 = 0
            · rw [if_pos hh, if_neg (by rw [L0, q_eq (by omega) (by omega)]; omega), if_pos ⟨by omega, hn, Or.inr (by rw [← hn]; exact hh)⟩]
              rfl
            · rw [if_neg hh, if_pos (show (nI 0 : Int32) = 0 from rfl), if_neg (fun e => by
                rcases e.2.2 with e | e
                · exact h0 e
                · rw [← hn] at e; exact hh e)]
              rfl
        · rw [if_neg (by rw [q_eq (by omega) (by omega)]; exact hn), if_neg (fun e => hn e.2.1)]
          rfl
theorem p_named {M : MM} {F x : Nat} {nm : Nat → Nat} (hF : F ≤ 12) (h0 : M 19 0 = nI F) (hn : ∀ f, f < F → M 20 f = nI (nm f) ∧ nm f ≤ 59) (hx : x ≤ 59) : mX10_fieldNamed [.inr (some 19), .inl (nI x)] M = some (some (.inl (oI (fnd nm x 0 F))), M) := by
  have key : ∀ m i, i + m = F → gX10_fieldNamed 2 [some (.inr (some 19)), some (.inl (nI x)), some (.inl (nI i))] [] M = some (some (.inl (oI (fnd nm x i m))), M) := by
    intro m
    induction m with
    | zero =>
      intro i hi
      rw [eX10_fieldNamed_2, h0, if_pos (nI_le (show F ≤ i by omega) (by omega))]
      rfl
    | succ m ih =>
      intro i hi
      obtain ⟨z1, z2⟩ := hn i (by omega)
      have gi : ¬ (nI i < 0 ∨ 12 ≤ i) := by
        have := nI_in (c := i) (N := 12) (by omega) (by omega)
        rw [q_cl (by omega)] at this
        exact this
      rw [eX10_fieldNamed_2, h0, if_neg (by rw [q_le (by omega) (by omega)]; omega), q_cl (show i < 2147483648 by omega), if_neg gi, z1]
      unfold fnd
      by_cases hw : nm i = x
      · rw [if_pos (by rw [hw]), if_pos hw]
        rfl
      · rw [if_neg (by rw [q_eq (by omega) (by omega)]; exact hw), if_neg hw, L1, q_add]
        exact ih (i + 1) (by omega)
  rw [iX10_fieldNamed, eX10_fieldNamed_0, L0]
  exact key F 0 (by omega)
