/-! Runs without step counts: a run from pc is one action, then the run from where it leads. -/
/-- an action uses what comes behind it at most at one place -/
def Cont (a : AI) : Prop := ∀ (k : KT) (r : AR) (ls : List (Option AV)) (st : List AV) (M : MM), a k ls st M = some r → (∃ pc' ls' st' M', k pc' ls' st' M' = some r ∧ ∀ k' : KT, k' pc' ls' st' M' = some r → a k' ls st M = some r) ∨ ∀ k' : KT, a k' ls st M = some r
theorem cont_push (nx : Nat) (v : AV) : Cont (a_push nx v) := fun k r ls st M h => Or.inl ⟨_, _, _, _, h, fun _ h' => h'⟩
theorem cont_goto (t : Nat) : Cont (a_goto t) := fun k r ls st M h => Or.inl ⟨_, _, _, _, h, fun _ h' => h'⟩
theorem cont_switch (cs : List (Int32 × Nat)) (d : Nat) : Cont (a_switch cs d) := by
  intro k r ls st M h
  unfold a_switch at h ⊢
  split at h
  · rename_i x st'
    refine Or.inl ?_
    induction cs with
    | nil => exact ⟨_, _, _, _, h, fun _ h' => h'⟩
    | cons q cs ih =>
      by_cases hx : x = q.1
      · rw [List.foldr_cons, if_pos hx] at h
        refine ⟨_, _, _, _, h, fun k' h' => ?_⟩
        show List.foldr (fun q r => if x = q.1 then k' q.2 ls st' M else r) (k' d ls st' M) (q :: cs) = some r
        rw [List.foldr_cons, if_pos hx]
        exact h'
      · rw [List.foldr_cons, if_neg hx] at h
        obtain ⟨p', l', s', M', h1, h2⟩ := ih h
        refine ⟨p', l', s', M', h1, fun k' h' => ?_⟩
        show List.foldr (fun q r => if x = q.1 then k' q.2 ls st' M else r) (k' d ls st' M) (q :: cs) = some r
        rw [List.foldr_cons, if_neg hx]
        exact h2 k' h'
  · cases h
theorem cont_bind {o : Option AR} {k : KT} {nx : Nat} {ls : List (Option AV)} {st : List AV} {r : AR} (h : o.bind (fun r => k nx ls (r.1.toList ++ st) r.2) = some r) : ∃ pc' ls' st' M', k pc' ls' st' M' = some r ∧ ∀ k' : KT, k' pc' ls' st' M' = some r → o.bind (fun r => k' nx ls (r.1.toList ++ st) r.2) = some r := by
  obtain ⟨q, h1, h2⟩ := Option.bind_eq_some_iff.mp h
  exact ⟨_, _, _, _, h2, fun k' h' => Option.bind_eq_some_iff.mpr ⟨q, h1, h'⟩⟩
theorem cont_callV (nx n ci : Nat) (sem : List AV → MM → Option AR) : Cont (a_callV nx n ci sem) := by
  intro k r ls st M h
  unfold a_callV at h
  split at h
  · rename_i c st' hst
    split at h
    · rename_i h1
      split at h
      · rename_i h2
        obtain ⟨a, b, c', d, e, f⟩ := cont_bind h
        refine Or.inl ⟨a, b, c', d, e, fun k' h' => ?_⟩
        simp only [a_callV, hst, h1, h2, if_true]
        exact f k' h'
      · cases h
    · cases h
  · cases h
theorem cont_callF (nx n : Nat) (s1 s5 : List AV → MM → Option AR) : Cont (a_callF nx n s1 s5) := by
  intro k r ls st M h
  unfold a_callF at h
  split at h
  · rename_i c st' hst
    split at h
    · rename_i h1
      split at h
      · rename_i h2
        obtain ⟨a, b, c', d, e, f⟩ := cont_bind h
        refine Or.inl ⟨a, b, c', d, e, fun k' h' => ?_⟩
        simp only [a_callF, hst, h1, h2, if_true]
        exact f k' h'
      · rename_i h2
        split at h
        · rename_i h3
          obtain ⟨a, b, c', d, e, f⟩ := cont_bind h
          refine Or.inl ⟨a, b, c', d, e, fun k' h' => ?_⟩
          simp only [a_callF, hst, h1, if_neg h2, h3, if_true]
          exact f k' h'
        · cases h
    · cases h
  · cases h
theorem cont_callS (nx n : Nat) (sem : List AV → MM → Option AR) : Cont (a_callS nx n sem) := by
  intro k r ls st M h
  unfold a_callS at h
  split at h
  · rename_i h1
    split at h
    · rename_i h2
      obtain ⟨a, b, c', d, e, f⟩ := cont_bind h
      refine Or.inl ⟨a, b, c', d, e, fun k' h' => ?_⟩
      simp only [a_callS, h1, h2, if_true]
      exact f k' h'
    · cases h
  · cases h
theorem cont_iret : Cont a_iret := fun k r ls st M h => Or.inr fun _ => h
theorem cont_zret : Cont a_zret := fun k r ls st M h => Or.inr fun _ => h
theorem cont_aret : Cont a_aret := fun k r ls st M h => Or.inr fun _ => h
theorem cont_vret : Cont a_vret := fun k r ls st M h => Or.inr fun _ => h
theorem cont_lret : Cont a_lret := fun k r ls st M h => Or.inr fun _ => h
theorem cont_bin (nx : Nat) (f : Int32 → Int32 → Int32) : Cont (a_bin nx f) := by
  intro k r ls st M h
  unfold a_bin at h
  split at h
  · refine Or.inl ⟨_, _, _, _, h, fun k' h' => ?_⟩
    simp only [a_bin]
    exact h'
  · cases h
theorem cont_div (nx : Nat) : Cont (a_div nx) := by
  intro k r ls st M h
  unfold a_div at h
  split at h
  · split at h
    · cases h
    · rename_i g1
      refine Or.inl ⟨_, _, _, _, h, fun k' h' => ?_⟩
      simp only [a_div, if_neg g1]
      exact h'
  · cases h
theorem cont_rem (nx : Nat) : Cont (a_rem nx) := by
  intro k r ls st M h
  unfold a_rem at h
  split at h
  · split at h
    · cases h
    · rename_i g1
      refine Or.inl ⟨_, _, _, _, h, fun k' h' => ?_⟩
      simp only [a_rem, if_neg g1]
      exact h'
  · cases h
theorem cont_iload (nx i : Nat) : Cont (a_iload nx i) := by
  intro k r ls st M h
  unfold a_iload at h
  split at h
  · rename_i x hx
    refine Or.inl ⟨_, _, _, _, h, fun k' h' => ?_⟩
    simp only [a_iload, hx]
    exact h'
  · cases h
theorem cont_aload (nx i : Nat) : Cont (a_aload nx i) := by
  intro k r ls st M h
  unfold a_aload at h
  split at h
  · rename_i x hx
    refine Or.inl ⟨_, _, _, _, h, fun k' h' => ?_⟩
    simp only [a_aload, hx]
    exact h'
  · cases h
theorem cont_istore (nx i : Nat) : Cont (a_istore nx i) := by
  intro k r ls st M h
  unfold a_istore at h
  split at h
  · split at h
    · rename_i g1
      refine Or.inl ⟨_, _, _, _, h, fun k' h' => ?_⟩
      simp only [a_istore, if_pos g1]
      exact h'
    · cases h
  · cases h
theorem cont_astore (nx i : Nat) : Cont (a_astore nx i) := by
  intro k r ls st M h
  unfold a_astore at h
  split at h
  · split at h
    · rename_i g1
      refine Or.inl ⟨_, _, _, _, h, fun k' h' => ?_⟩
      simp only [a_astore, if_pos g1]
      exact h'
    · cases h
  · cases h
theorem cont_iinc (nx i : Nat) (n : Int32) : Cont (a_iinc nx i n) := by
  intro k r ls st M h
  unfold a_iinc at h
  split at h
  · rename_i x hx
    refine Or.inl ⟨_, _, _, _, h, fun k' h' => ?_⟩
    simp only [a_iinc, hx]
    exact h'
  · cases h
theorem cont_dup (nx : Nat) : Cont (a_dup nx) := by
  intro k r ls st M h
  unfold a_dup at h
  split at h
  · refine Or.inl ⟨_, _, _, _, h, fun k' h' => ?_⟩
    simp only [a_dup]
    exact h'
  · cases h
theorem cont_dup2 (nx : Nat) : Cont (a_dup2 nx) := by
  intro k r ls st M h
  unfold a_dup2 at h
  split at h
  · refine Or.inl ⟨_, _, _, _, h, fun k' h' => ?_⟩
    simp only [a_dup2]
    exact h'
  · cases h
theorem cont_pop (nx : Nat) : Cont (a_pop nx) := by
  intro k r ls st M h
  unfold a_pop at h
  split at h
  · refine Or.inl ⟨_, _, _, _, h, fun k' h' => ?_⟩
    simp only [a_pop]
    exact h'
  · cases h
theorem cont_getI (nx ci j : Nat) : Cont (a_getI nx ci j) := by
  intro k r ls st M h
  unfold a_getI at h
  split at h
  · split at h
    · rename_i g1
      refine Or.inl ⟨_, _, _, _, h, fun k' h' => ?_⟩
      simp only [a_getI, if_pos g1]
      exact h'
    · cases h
  · cases h
theorem cont_getR (nx ci : Nat) (f : Nat → Nat) : Cont (a_getR nx ci f) := by
  intro k r ls st M h
  unfold a_getR at h
  split at h
  · split at h
    · rename_i g1
      refine Or.inl ⟨_, _, _, _, h, fun k' h' => ?_⟩
      simp only [a_getR, if_pos g1]
      exact h'
    · cases h
  · cases h
theorem cont_put (nx ci j : Nat) : Cont (a_put nx ci j) := by
  intro k r ls st M h
  unfold a_put at h
  split at h
  · split at h
    · rename_i g1
      refine Or.inl ⟨_, _, _, _, h, fun k' h' => ?_⟩
      simp only [a_put, if_pos g1]
      exact h'
    · cases h
  · cases h
theorem cont_putZ (nx ci j : Nat) : Cont (a_putZ nx ci j) := by
  intro k r ls st M h
  unfold a_putZ at h
  split at h
  · split at h
    · rename_i g2
      split at h
      · rename_i g1
        refine Or.inl ⟨_, _, _, _, h, fun k' h' => ?_⟩
        simp only [a_putZ, if_pos g2, if_pos g1]
        exact h'
      · cases h
    · cases h
  · cases h
theorem cont_ald (nx kd : Nat) : Cont (a_ald nx kd) := by
  intro k r ls st M h
  unfold a_ald at h
  split at h
  · split at h
    · rename_i g2
      split at h
      · cases h
      · rename_i g1
        refine Or.inl ⟨_, _, _, _, h, fun k' h' => ?_⟩
        simp only [a_ald, if_pos g2, if_neg g1]
        exact h'
    · cases h
  · cases h
theorem cont_aald (nx : Nat) : Cont (a_aald nx) := by
  intro k r ls st M h
  unfold a_aald at h
  split at h
  · split at h
    · rename_i g2
      split at h
      · cases h
      · rename_i g1
        refine Or.inl ⟨_, _, _, _, h, fun k' h' => ?_⟩
        simp only [a_aald, if_pos g2, if_neg g1]
        exact h'
    · cases h
  · cases h
theorem cont_ast (nx : Nat) : Cont (a_ast nx) := by
  intro k r ls st M h
  unfold a_ast at h
  split at h
  · split at h
    · rename_i g2
      split at h
      · cases h
      · rename_i g1
        refine Or.inl ⟨_, _, _, _, h, fun k' h' => ?_⟩
        simp only [a_ast, if_pos g2, if_neg g1]
        exact h'
    · cases h
  · cases h
theorem cont_zst (nx : Nat) : Cont (a_zst nx) := by
  intro k r ls st M h
  unfold a_zst at h
  split at h
  · split at h
    · rename_i g3
      split at h
      · cases h
      · rename_i g2
        split at h
        · rename_i g1
          refine Or.inl ⟨_, _, _, _, h, fun k' h' => ?_⟩
          simp only [a_zst, if_pos g3, if_neg g2, if_pos g1]
          exact h'
        · cases h
    · cases h
  · cases h
theorem cont_len (nx : Nat) : Cont (a_len nx) := by
  intro k r ls st M h
  unfold a_len at h
  split at h
  · split at h
    · rename_i g1
      refine Or.inl ⟨_, _, _, _, h, fun k' h' => ?_⟩
      simp only [a_len, if_pos g1]
      exact h'
    · cases h
  · cases h
theorem cont_min (nx : Nat) : Cont (a_min nx) := by
  intro k r ls st M h
  unfold a_min at h
  split at h
  · split at h
    · rename_i g1
      refine Or.inl ⟨_, _, _, _, h, fun k' h' => ?_⟩
      simp only [a_min, if_pos g1]
      exact h'
    · cases h
  · cases h
theorem cont_max (nx : Nat) : Cont (a_max nx) := by
  intro k r ls st M h
  unfold a_max at h
  split at h
  · split at h
    · rename_i g1
      refine Or.inl ⟨_, _, _, _, h, fun k' h' => ?_⟩
      simp only [a_max, if_pos g1]
      exact h'
    · cases h
  · cases h
theorem cont_slen (nx L : Nat) : Cont (a_slen nx L) := by
  intro k r ls st M h
  unfold a_slen at h
  split at h
  · split at h
    · rename_i g1
      refine Or.inl ⟨_, _, _, _, h, fun k' h' => ?_⟩
      simp only [a_slen, if_pos g1]
      exact h'
    · cases h
  · cases h
theorem cont_sald (nx L : Nat) (xs : Nat → Int32) : Cont (a_sald nx L xs) := by
  intro k r ls st M h
  unfold a_sald at h
  split at h
  · split at h
    · rename_i g2
      split at h
      · cases h
      · rename_i g1
        refine Or.inl ⟨_, _, _, _, h, fun k' h' => ?_⟩
        simp only [a_sald, if_pos g2, if_neg g1]
        exact h'
    · cases h
  · cases h
theorem cont_if_eq (nx t : Nat) : Cont (a_if_eq nx t) := by
  intro k r ls st M h
  unfold a_if_eq at h
  split at h
  · split at h
    · rename_i g1
      refine Or.inl ⟨_, _, _, _, h, fun k' h' => ?_⟩
      simp only [a_if_eq, if_pos g1]
      exact h'
    · rename_i g1
      refine Or.inl ⟨_, _, _, _, h, fun k' h' => ?_⟩
      simp only [a_if_eq, if_neg g1]
      exact h'
  · cases h
theorem cont_if_ne (nx t : Nat) : Cont (a_if_ne nx t) := by
  intro k r ls st M h
  unfold a_if_ne at h
  split at h
  · split at h
    · rename_i g1
      refine Or.inl ⟨_, _, _, _, h, fun k' h' => ?_⟩
      simp only [a_if_ne, if_pos g1]
      exact h'
    · rename_i g1
      refine Or.inl ⟨_, _, _, _, h, fun k' h' => ?_⟩
      simp only [a_if_ne, if_neg g1]
      exact h'
  · cases h
theorem cont_if_lt (nx t : Nat) : Cont (a_if_lt nx t) := by
  intro k r ls st M h
  unfold a_if_lt at h
  split at h
  · split at h
    · rename_i g1
      refine Or.inl ⟨_, _, _, _, h, fun k' h' => ?_⟩
      simp only [a_if_lt, if_pos g1]
      exact h'
    · rename_i g1
      refine Or.inl ⟨_, _, _, _, h, fun k' h' => ?_⟩
      simp only [a_if_lt, if_neg g1]
      exact h'
  · cases h
theorem cont_if_ge (nx t : Nat) : Cont (a_if_ge nx t) := by
  intro k r ls st M h
  unfold a_if_ge at h
  split at h
  · split at h
    · rename_i g1
      refine Or.inl ⟨_, _, _, _, h, fun k' h' => ?_⟩
      simp only [a_if_ge, if_pos g1]
      exact h'
    · rename_i g1
      refine Or.inl ⟨_, _, _, _, h, fun k' h' => ?_⟩
      simp only [a_if_ge, if_neg g1]
      exact h'
  · cases h
theorem cont_if_gt (nx t : Nat) : Cont (a_if_gt nx t) := by
  intro k r ls st M h
  unfold a_if_gt at h
  split at h
  · split at h
    · rename_i g1
      refine Or.inl ⟨_, _, _, _, h, fun k' h' => ?_⟩
      simp only [a_if_gt, if_pos g1]
      exact h'
    · rename_i g1
      refine Or.inl ⟨_, _, _, _, h, fun k' h' => ?_⟩
      simp only [a_if_gt, if_neg g1]
      exact h'
  · cases h
theorem cont_if_le (nx t : Nat) : Cont (a_if_le nx t) := by
  intro k r ls st M h
  unfold a_if_le at h
  split at h
  · split at h
    · rename_i g1
      refine Or.inl ⟨_, _, _, _, h, fun k' h' => ?_⟩
      simp only [a_if_le, if_pos g1]
      exact h'
    · rename_i g1
      refine Or.inl ⟨_, _, _, _, h, fun k' h' => ?_⟩
      simp only [a_if_le, if_neg g1]
      exact h'
  · cases h
theorem cont_c_eq (nx t : Nat) : Cont (a_c_eq nx t) := by
  intro k r ls st M h
  unfold a_c_eq at h
  split at h
  · split at h
    · rename_i g1
      refine Or.inl ⟨_, _, _, _, h, fun k' h' => ?_⟩
      simp only [a_c_eq, if_pos g1]
      exact h'
    · rename_i g1
      refine Or.inl ⟨_, _, _, _, h, fun k' h' => ?_⟩
      simp only [a_c_eq, if_neg g1]
      exact h'
  · cases h
theorem cont_c_ne (nx t : Nat) : Cont (a_c_ne nx t) := by
  intro k r ls st M h
  unfold a_c_ne at h
  split at h
  · split at h
    · rename_i g1
      refine Or.inl ⟨_, _, _, _, h, fun k' h' => ?_⟩
      simp only [a_c_ne, if_pos g1]
      exact h'
    · rename_i g1
      refine Or.inl ⟨_, _, _, _, h, fun k' h' => ?_⟩
      simp only [a_c_ne, if_neg g1]
      exact h'
  · cases h
theorem cont_c_lt (nx t : Nat) : Cont (a_c_lt nx t) := by
  intro k r ls st M h
  unfold a_c_lt at h
  split at h
  · split at h
    · rename_i g1
      refine Or.inl ⟨_, _, _, _, h, fun k' h' => ?_⟩
      simp only [a_c_lt, if_pos g1]
      exact h'
    · rename_i g1
      refine Or.inl ⟨_, _, _, _, h, fun k' h' => ?_⟩
      simp only [a_c_lt, if_neg g1]
      exact h'
  · cases h
theorem cont_c_ge (nx t : Nat) : Cont (a_c_ge nx t) := by
  intro k r ls st M h
  unfold a_c_ge at h
  split at h
  · split at h
    · rename_i g1
      refine Or.inl ⟨_, _, _, _, h, fun k' h' => ?_⟩
      simp only [a_c_ge, if_pos g1]
      exact h'
    · rename_i g1
      refine Or.inl ⟨_, _, _, _, h, fun k' h' => ?_⟩
      simp only [a_c_ge, if_neg g1]
      exact h'
  · cases h
theorem cont_c_gt (nx t : Nat) : Cont (a_c_gt nx t) := by
  intro k r ls st M h
  unfold a_c_gt at h
  split at h
  · split at h
    · rename_i g1
      refine Or.inl ⟨_, _, _, _, h, fun k' h' => ?_⟩
      simp only [a_c_gt, if_pos g1]
      exact h'
    · rename_i g1
      refine Or.inl ⟨_, _, _, _, h, fun k' h' => ?_⟩
      simp only [a_c_gt, if_neg g1]
      exact h'
  · cases h
theorem cont_c_le (nx t : Nat) : Cont (a_c_le nx t) := by
  intro k r ls st M h
  unfold a_c_le at h
  split at h
  · split at h
    · rename_i g1
      refine Or.inl ⟨_, _, _, _, h, fun k' h' => ?_⟩
      simp only [a_c_le, if_pos g1]
      exact h'
    · rename_i g1
      refine Or.inl ⟨_, _, _, _, h, fun k' h' => ?_⟩
      simp only [a_c_le, if_neg g1]
      exact h'
  · cases h
theorem cont_null (nx t : Nat) : Cont (a_null nx t) := by
  intro k r ls st M h
  unfold a_null at h
  split at h
  · exact Or.inl ⟨_, _, _, _, h, fun k' h' => h'⟩
  · exact Or.inl ⟨_, _, _, _, h, fun k' h' => h'⟩
  · cases h
theorem cont_nonnull (nx t : Nat) : Cont (a_nonnull nx t) := by
  intro k r ls st M h
  unfold a_nonnull at h
  split at h
  · exact Or.inl ⟨_, _, _, _, h, fun k' h' => h'⟩
  · exact Or.inl ⟨_, _, _, _, h, fun k' h' => h'⟩
  · cases h
theorem mrun_mono {tab : Nat → Option AI} (hc : ∀ pc a, tab pc = some a → Cont a) : ∀ (n pc : Nat) (ls : List (Option AV)) (st : List AV) (M : MM) (r : AR), mrun tab n pc ls st M = some r → mrun tab (n + 1) pc ls st M = some r := by
  intro n
  induction n with
  | zero => intro pc ls st M r h; cases h
  | succ n ih =>
    intro pc ls st M r h
    unfold mrun at h ⊢
    split at h
    · rename_i a ha
      rcases hc pc a ha _ r ls st M h with ⟨p', l', s', M', h1, h2⟩ | h2
      · exact h2 _ (ih _ _ _ _ _ h1)
      · exact h2 _
    · cases h
theorem mrun_le {tab : Nat → Option AI} (hc : ∀ pc a, tab pc = some a → Cont a) {n m pc : Nat} {ls : List (Option AV)} {st : List AV} {M : MM} {r : AR} (hnm : n ≤ m) (h : mrun tab n pc ls st M = some r) : mrun tab m pc ls st M = some r := by
  induction hnm with
  | refl => exact h
  | step _ ih => exact mrun_mono hc _ _ _ _ _ _ ih
theorem mev_some {tab : Nat → Option AI} (hc : ∀ pc a, tab pc = some a → Cont a) {n pc : Nat} {ls : List (Option AV)} {st : List AV} {M : MM} {r : AR} (h : mrun tab n pc ls st M = some r) : mev tab pc ls st M = some r := by
  unfold mev
  split
  · rename_i h1 _
    obtain ⟨m, h2⟩ := h1.choose_spec
    have h3 := mrun_le hc (Nat.le_max_left n m) h
    have h4 := mrun_le hc (Nat.le_max_right n m) h2
    rw [← h4, h3]
  · rename_i h1 _
    exact absurd ⟨r, n, h⟩ h1
theorem mev_step {tab : Nat → Option AI} (hc : ∀ pc a, tab pc = some a → Cont a) (pc : Nat) (ls : List (Option AV)) (st : List AV) (M : MM) : mev tab pc ls st M = match tab pc with
  | some a => a (mev tab) ls st M
  | none => none := by
  apply Option.ext
  intro r
  constructor
  · intro h
    obtain ⟨n, h⟩ := mev_ex h
    cases n with
    | zero => cases h
    | succ n =>
      unfold mrun at h
      split at h
      · rename_i a ha
        rw [ha]
        rcases hc pc a ha _ r ls st M h with ⟨p', l', s', M', h1, h2⟩ | h2
        · exact h2 _ (mev_some hc h1)
        · exact h2 _
      · cases h
  · intro h
    split at h
    · rename_i a ha
      have hf : ∃ n, a (mrun tab n) ls st M = some r := by
        rcases hc pc a ha _ r ls st M h with ⟨p', l', s', M', h1, h2⟩ | h2
        · obtain ⟨n, h3⟩ := mev_ex h1
          exact ⟨n, h2 _ h3⟩
        · exact ⟨0, h2 _⟩
      obtain ⟨n, h3⟩ := hf
      refine mev_some hc (n := n + 1) ?_
      unfold mrun
      rw [ha]
      exact h3
    · cases h
/-- n steps, then what k says -/
def mgo (tab : Nat → Option AI) (k : KT) : Nat → KT
  | 0 => k
  | n + 1 => fun pc ls st M => match tab pc with
    | some a => a (mgo tab k n) ls st M
    | none => none
theorem mgo_mev {tab : Nat → Option AI} (hc : ∀ pc a, tab pc = some a → Cont a) (n : Nat) : mgo tab (mev tab) n = mev tab := by
  induction n with
  | zero => rfl
  | succ n ih =>
    funext pc ls st M
    unfold mgo
    rw [ih, mev_step hc]
theorem ccons {a : AI} {pc : Nat} {L : List (Nat × AI)} (h : Cont a) (t : ∀ q ∈ L, Cont q.2) : ∀ q ∈ (pc, a) :: L, Cont q.2 := fun q hq => (List.mem_cons.mp hq).elim (fun e => e ▸ h) (t q)
theorem cnil : ∀ q ∈ ([] : List (Nat × AI)), Cont q.2 := fun _ h => absurd h List.not_mem_nil
theorem ctab {L : List (Nat × AI)} (h : ∀ q ∈ L, Cont q.2) : ∀ pc a, zlook L pc = some a → Cont a := fun _ _ ha => h _ (zlook_mem ha)
/-- at most n steps, up to a place of cut, then what k says -/
def mgs (tab : Nat → Option AI) (cut : List Nat) (k : KT) : Nat → KT
  | 0 => k
  | n + 1 => fun pc ls st M => match tab pc with
    | some a => a (fun pc' ls' st' M' => match cut.any (fun c => Nat.beq c pc') with
      | true => k pc' ls' st' M'
      | false => mgs tab cut k n pc' ls' st' M') ls st M
    | none => none
theorem mgs_mev {tab : Nat → Option AI} (hc : ∀ pc a, tab pc = some a → Cont a) (cut : List Nat) (n : Nat) : mgs tab cut (mev tab) n = mev tab := by
  induction n with
  | zero => rfl
  | succ n ih =>
    funext pc ls st M
    unfold mgs
    rw [ih, mev_step hc]
    have e : (fun (pc' : Nat) (ls' : List (Option AV)) (st' : List AV) (M' : MM) => match cut.any (fun c => Nat.beq c pc') with
      | true => mev tab pc' ls' st' M'
      | false => mev tab pc' ls' st' M') = mev tab := by
      funext pc' ls' st' M'
      split <;> rfl
    rw [e]
