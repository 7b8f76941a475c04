/-! Segments of runs: what a run from a cut point on comes to (written by wip/whole/seg.py). -/
noncomputable def gX10_answered : KT := mev (zlook tX10_answered)
theorem ctX10_answered : ∀ q ∈ tX10_answered, Cont q.2 := by
  refine ccons (cont_aload _ _) ?_
  refine ccons (cont_getR _ _ _) ?_
  refine ccons (cont_iload _ _) ?_
  refine ccons (cont_ald _ _) ?_
  refine ccons (cont_if_eq _ _) ?_
  refine ccons (cont_aload _ _) ?_
  refine ccons (cont_getR _ _ _) ?_
  refine ccons (cont_iload _ _) ?_
  refine ccons (cont_ald _ _) ?_
  refine ccons (cont_if_le _ _) ?_
  refine ccons (cont_aload _ _) ?_
  refine ccons (cont_getR _ _ _) ?_
  refine ccons (cont_iload _ _) ?_
  refine ccons (cont_ald _ _) ?_
  refine ccons (cont_if_eq _ _) ?_
  refine ccons (cont_aload _ _) ?_
  refine ccons (cont_iload _ _) ?_
  refine ccons (cont_iload _ _) ?_
  refine ccons (cont_push _ _) ?_
  refine ccons (cont_callV _ _ _ _) ?_
  refine ccons (cont_iret) ?_
  refine ccons (cont_aload _ _) ?_
  refine ccons (cont_push _ _) ?_
  refine ccons (cont_put _ _ _) ?_
  refine ccons (cont_aload _ _) ?_
  refine ccons (cont_iload _ _) ?_
  refine ccons (cont_put _ _ _) ?_
  refine ccons (cont_aload _ _) ?_
  refine ccons (cont_iload _ _) ?_
  refine ccons (cont_put _ _ _) ?_
  refine ccons (cont_push _ _) ?_
  refine ccons (cont_iret) ?_
  exact cnil
theorem mgs_gX10_answered (cut : List Nat) (n : Nat) : mgs (zlook tX10_answered) cut gX10_answered n = gX10_answered := mgs_mev (ctab ctX10_answered) cut n
def nX10_answered : List Nat := [0, 34, 35]
set_option maxRecDepth 100000 in
theorem eX10_answered_0 (M : MM) (x1 : Int32) (x2 : Int32) : gX10_answered 0 [some (.inr (some 19)), some (.inl x1), some (.inl x2)] [] M = (if x1 < 0 ∨ 12 ≤ x1.toNatClampNeg then none else (if (M 24 x1.toNatClampNeg) = 0 then (mX10_keep [.inr (some 19), .inl x1, .inl x2, .inl (0 : Int32)] M).bind (fun r => gX10_answered 34 [some (.inr (some 19)), some (.inl x1), some (.inl x2)] (r.1.toList ++ []) r.2) else (if x1 < 0 ∨ 12 ≤ x1.toNatClampNeg then none else (if (M 21 x1.toNatClampNeg) ≤ 0 then gX10_answered 35 [some (.inr (some 19)), some (.inl x1), some (.inl x2)] [] M else (if x1 < 0 ∨ 12 ≤ x1.toNatClampNeg then none else (if (M 23 x1.toNatClampNeg) = 0 then gX10_answered 35 [some (.inr (some 19)), some (.inl x1), some (.inl x2)] [] M else (mX10_keep [.inr (some 19), .inl x1, .inl x2, .inl (0 : Int32)] M).bind (fun r => gX10_answered 34 [some (.inr (some 19)), some (.inl x1), some (.inl x2)] (r.1.toList ++ []) r.2))))))) := by
  have h : ∀ k : KT, mgs (zlook tX10_answered) nX10_answered k 20 0 [some (.inr (some 19)), some (.inl x1), some (.inl x2)] [] M = (if x1 < 0 ∨ 12 ≤ x1.toNatClampNeg then none else (if (M 24 x1.toNatClampNeg) = 0 then (mX10_keep [.inr (some 19), .inl x1, .inl x2, .inl (0 : Int32)] M).bind (fun r => k 34 [some (.inr (some 19)), some (.inl x1), some (.inl x2)] (r.1.toList ++ []) r.2) else (if x1 < 0 ∨ 12 ≤ x1.toNatClampNeg then none else (if (M 21 x1.toNatClampNeg) ≤ 0 then k 35 [some (.inr (some 19)), some (.inl x1), some (.inl x2)] [] M else (if x1 < 0 ∨ 12 ≤ x1.toNatClampNeg then none else (if (M 23 x1.toNatClampNeg) = 0 then k 35 [some (.inr (some 19)), some (.inl x1), some (.inl x2)] [] M else (mX10_keep [.inr (some 19), .inl x1, .inl x2, .inl (0 : Int32)] M).bind (fun r => k 34 [some (.inr (some 19)), some (.inl x1), some (.inl x2)] (r.1.toList ++ []) r.2))))))) := fun k => rfl
  have h := h gX10_answered
  rw [mgs_gX10_answered] at h
  exact h
set_option maxRecDepth 100000 in
theorem eX10_answered_34 (M : MM) (x1 : Int32) (x2 : Int32) (xs0 : Int32) : gX10_answered 34 [some (.inr (some 19)), some (.inl x1), some (.inl x2)] [.inl xs0] M = some ((some (.inl xs0)), M) := by
  have h : ∀ k : KT, mgs (zlook tX10_answered) nX10_answered k 1 34 [some (.inr (some 19)), some (.inl x1), some (.inl x2)] [.inl xs0] M = some ((some (.inl xs0)), M) := fun k => rfl
  have h := h gX10_answered
  rw [mgs_gX10_answered] at h
  exact h
set_option maxRecDepth 100000 in
theorem eX10_answered_35 (M : MM) (x1 : Int32) (x2 : Int32) : gX10_answered 35 [some (.inr (some 19)), some (.inl x1), some (.inl x2)] [] M = some ((some (.inl (3 : Int32))), (st2 (st2 (st2 M 19 32 (1 : Int32)) 19 36 x1) 19 37 x2)) := by
  have h : ∀ k : KT, mgs (zlook tX10_answered) nX10_answered k 11 35 [some (.inr (some 19)), some (.inl x1), some (.inl x2)] [] M = some ((some (.inl (3 : Int32))), (st2 (st2 (st2 M 19 32 (1 : Int32)) 19 36 x1) 19 37 x2)) := fun k => rfl
  have h := h gX10_answered
  rw [mgs_gX10_answered] at h
  exact h
theorem iX10_answered (M : MM) (x1 : Int32) (x2 : Int32) : mX10_answered [.inr (some 19), .inl x1, .inl x2] M = gX10_answered 0 [some (.inr (some 19)), some (.inl x1), some (.inl x2)] [] M := rfl
noncomputable def gX10_goBack : KT := mev (zlook tX10_goBack)
theorem ctX10_goBack : ∀ q ∈ tX10_goBack, Cont q.2 := by
  refine ccons (cont_aload _ _) ?_
  refine ccons (cont_getI _ _ _) ?_
  refine ccons (cont_if_le _ _) ?_
  refine ccons (cont_aload _ _) ?_
  refine ccons (cont_dup _) ?_
  refine ccons (cont_getI _ _ _) ?_
  refine ccons (cont_push _ _) ?_
  refine ccons (cont_bin _ _) ?_
  refine ccons (cont_put _ _ _) ?_
  refine ccons (cont_aload _ _) ?_
  refine ccons (cont_aload _ _) ?_
  refine ccons (cont_getR _ _ _) ?_
  refine ccons (cont_aload _ _) ?_
  refine ccons (cont_getI _ _ _) ?_
  refine ccons (cont_ald _ _) ?_
  refine ccons (cont_callV _ _ _ _) ?_
  refine ccons (cont_if_ne _ _) ?_
  refine ccons (cont_goto _) ?_
  refine ccons (cont_aload _ _) ?_
  refine ccons (cont_aload _ _) ?_
  refine ccons (cont_getR _ _ _) ?_
  refine ccons (cont_aload _ _) ?_
  refine ccons (cont_getI _ _ _) ?_
  refine ccons (cont_ald _ _) ?_
  refine ccons (cont_put _ _ _) ?_
  refine ccons (cont_push _ _) ?_
  refine ccons (cont_iret) ?_
  refine ccons (cont_push _ _) ?_
  refine ccons (cont_iret) ?_
  exact cnil
theorem mgs_gX10_goBack (cut : List Nat) (n : Nat) : mgs (zlook tX10_goBack) cut gX10_goBack n = gX10_goBack := mgs_mev (ctab ctX10_goBack) cut n
def nX10_goBack : List Nat := [0, 30]
set_option maxRecDepth 100000 in
theorem eX10_goBack_0 (M : MM) : gX10_goBack 0 [some (.inr (some 19))] [] M = (if (M 19 31) ≤ 0 then some ((some (.inl (6 : Int32))), M) else (if ((st2 M 19 31 ((M 19 31) - (1 : Int32))) 19 31) < 0 ∨ 20 ≤ ((st2 M 19 31 ((M 19 31) - (1 : Int32))) 19 31).toNatClampNeg then none else (mX10_isAsked [.inr (some 19), .inl ((st2 M 19 31 ((M 19 31) - (1 : Int32))) 40 ((st2 M 19 31 ((M 19 31) - (1 : Int32))) 19 31).toNatClampNeg)] (st2 M 19 31 ((M 19 31) - (1 : Int32)))).bind (fun r => gX10_goBack 30 [some (.inr (some 19))] (r.1.toList ++ []) r.2))) := by
  have h : ∀ k : KT, mgs (zlook tX10_goBack) nX10_goBack k 16 0 [some (.inr (some 19))] [] M = (if (M 19 31) ≤ 0 then some ((some (.inl (6 : Int32))), M) else (if ((st2 M 19 31 ((M 19 31) - (1 : Int32))) 19 31) < 0 ∨ 20 ≤ ((st2 M 19 31 ((M 19 31) - (1 : Int32))) 19 31).toNatClampNeg then none else (mX10_isAsked [.inr (some 19), .inl ((st2 M 19 31 ((M 19 31) - (1 : Int32))) 40 ((st2 M 19 31 ((M 19 31) - (1 : Int32))) 19 31).toNatClampNeg)] (st2 M 19 31 ((M 19 31) - (1 : Int32)))).bind (fun r => k 30 [some (.inr (some 19))] (r.1.toList ++ []) r.2))) := fun k => rfl
  have h := h gX10_goBack
  rw [mgs_gX10_goBack] at h
  exact h
set_option maxRecDepth 100000 in
theorem eX10_goBack_30 (M : MM) (xs0 : Int32) : gX10_goBack 30 [some (.inr (some 19))] [.inl xs0] M = (if xs0 = 0 then gX10_goBack 0 [some (.inr (some 19))] [] M else (if (M 19 31) < 0 ∨ 20 ≤ (M 19 31).toNatClampNeg then none else some ((some (.inl (5 : Int32))), (st2 M 19 29 (M 40 (M 19 31).toNatClampNeg))))) := by
  have h : ∀ k : KT, mgs (zlook tX10_goBack) nX10_goBack k 10 30 [some (.inr (some 19))] [.inl xs0] M = (if xs0 = 0 then k 0 [some (.inr (some 19))] [] M else (if (M 19 31) < 0 ∨ 20 ≤ (M 19 31).toNatClampNeg then none else some ((some (.inl (5 : Int32))), (st2 M 19 29 (M 40 (M 19 31).toNatClampNeg))))) := fun k => rfl
  have h := h gX10_goBack
  rw [mgs_gX10_goBack] at h
  exact h
theorem iX10_goBack (M : MM) : mX10_goBack [.inr (some 19)] M = gX10_goBack 0 [some (.inr (some 19))] [] M := rfl
noncomputable def gX10_skip : KT := mev (zlook tX10_skip)
theorem ctX10_skip : ∀ q ∈ tX10_skip, Cont q.2 := by
  refine ccons (cont_aload _ _) ?_
  refine ccons (cont_getI _ _ _) ?_
  refine ccons (cont_if_ge _ _) ?_
  refine ccons (cont_push _ _) ?_
  refine ccons (cont_iret) ?_
  refine ccons (cont_aload _ _) ?_
  refine ccons (cont_getR _ _ _) ?_
  refine ccons (cont_aload _ _) ?_
  refine ccons (cont_getI _ _ _) ?_
  refine ccons (cont_push _ _) ?_
  refine ccons (cont_zst _) ?_
  refine ccons (cont_aload _ _) ?_
  refine ccons (cont_aload _ _) ?_
  refine ccons (cont_aload _ _) ?_
  refine ccons (cont_getI _ _ _) ?_
  refine ccons (cont_callV _ _ _ _) ?_
  refine ccons (cont_callV _ _ _ _) ?_
  refine ccons (cont_push _ _) ?_
  refine ccons (cont_iret) ?_
  exact cnil
theorem mgs_gX10_skip (cut : List Nat) (n : Nat) : mgs (zlook tX10_skip) cut gX10_skip n = gX10_skip := mgs_mev (ctab ctX10_skip) cut n
def nX10_skip : List Nat := [0, 29, 32]
set_option maxRecDepth 100000 in
theorem eX10_skip_0 (M : MM) : gX10_skip 0 [some (.inr (some 19))] [] M = (if 0 ≤ (M 19 29) then (if (M 19 29) < 0 ∨ 12 ≤ (M 19 29).toNatClampNeg then none else (mX10_nextBehind [.inr (some 19), .inl ((st2 M 30 (M 19 29).toNatClampNeg (1 : Int32)) 19 29)] (st2 M 30 (M 19 29).toNatClampNeg (1 : Int32))).bind (fun r => gX10_skip 29 [some (.inr (some 19))] (r.1.toList ++ [.inr (some 19)]) r.2)) else some ((some (.inl (6 : Int32))), M)) := by
  have h : ∀ k : KT, mgs (zlook tX10_skip) nX10_skip k 14 0 [some (.inr (some 19))] [] M = (if 0 ≤ (M 19 29) then (if (M 19 29) < 0 ∨ 12 ≤ (M 19 29).toNatClampNeg then none else (mX10_nextBehind [.inr (some 19), .inl ((st2 M 30 (M 19 29).toNatClampNeg (1 : Int32)) 19 29)] (st2 M 30 (M 19 29).toNatClampNeg (1 : Int32))).bind (fun r => k 29 [some (.inr (some 19))] (r.1.toList ++ [.inr (some 19)]) r.2)) else some ((some (.inl (6 : Int32))), M)) := fun k => rfl
  have h := h gX10_skip
  rw [mgs_gX10_skip] at h
  exact h
set_option maxRecDepth 100000 in
theorem eX10_skip_29 (M : MM) (xs0 : Int32) : gX10_skip 29 [some (.inr (some 19))] [.inl xs0, .inr (some 19)] M = (mX10_comesNow [.inr (some 19), .inl xs0] M).bind (fun r => gX10_skip 32 [some (.inr (some 19))] (r.1.toList ++ []) r.2) := by
  have h : ∀ k : KT, mgs (zlook tX10_skip) nX10_skip k 1 29 [some (.inr (some 19))] [.inl xs0, .inr (some 19)] M = (mX10_comesNow [.inr (some 19), .inl xs0] M).bind (fun r => k 32 [some (.inr (some 19))] (r.1.toList ++ []) r.2) := fun k => rfl
  have h := h gX10_skip
  rw [mgs_gX10_skip] at h
  exact h
set_option maxRecDepth 100000 in
theorem eX10_skip_32 (M : MM) : gX10_skip 32 [some (.inr (some 19))] [] M = some ((some (.inl (5 : Int32))), M) := by
  have h : ∀ k : KT, mgs (zlook tX10_skip) nX10_skip k 2 32 [some (.inr (some 19))] [] M = some ((some (.inl (5 : Int32))), M) := fun k => rfl
  have h := h gX10_skip
  rw [mgs_gX10_skip] at h
  exact h
theorem iX10_skip (M : MM) : mX10_skip [.inr (some 19)] M = gX10_skip 0 [some (.inr (some 19))] [] M := rfl
noncomputable def gX10_go : KT := mev (zlook tX10_go)
theorem ctX10_go : ∀ q ∈ tX10_go, Cont q.2 := by
  refine ccons (cont_aload _ _) ?_
  refine ccons (cont_iload _ _) ?_
  refine ccons (cont_callV _ _ _ _) ?_
  refine ccons (cont_if_ne _ _) ?_
  refine ccons (cont_push _ _) ?_
  refine ccons (cont_iret) ?_
  refine ccons (cont_aload _ _) ?_
  refine ccons (cont_getR _ _ _) ?_
  refine ccons (cont_iload _ _) ?_
  refine ccons (cont_push _ _) ?_
  refine ccons (cont_zst _) ?_
  refine ccons (cont_aload _ _) ?_
  refine ccons (cont_iload _ _) ?_
  refine ccons (cont_callV _ _ _ _) ?_
  refine ccons (cont_push _ _) ?_
  refine ccons (cont_iret) ?_
  exact cnil
theorem mgs_gX10_go (cut : List Nat) (n : Nat) : mgs (zlook tX10_go) cut gX10_go n = gX10_go := mgs_mev (ctab ctX10_go) cut n
def nX10_go : List Nat := [0, 5, 23]
set_option maxRecDepth 100000 in
theorem eX10_go_0 (M : MM) (x1 : Int32) : gX10_go 0 [some (.inr (some 19)), some (.inl x1)] [] M = (mX10_isAsked [.inr (some 19), .inl x1] M).bind (fun r => gX10_go 5 [some (.inr (some 19)), some (.inl x1)] (r.1.toList ++ []) r.2) := by
  have h : ∀ k : KT, mgs (zlook tX10_go) nX10_go k 3 0 [some (.inr (some 19)), some (.inl x1)] [] M = (mX10_isAsked [.inr (some 19), .inl x1] M).bind (fun r => k 5 [some (.inr (some 19)), some (.inl x1)] (r.1.toList ++ []) r.2) := fun k => rfl
  have h := h gX10_go
  rw [mgs_gX10_go] at h
  exact h
set_option maxRecDepth 100000 in
theorem eX10_go_5 (M : MM) (x1 : Int32) (xs0 : Int32) : gX10_go 5 [some (.inr (some 19)), some (.inl x1)] [.inl xs0] M = (if xs0 = 0 then some ((some (.inl (6 : Int32))), M) else (if x1 < 0 ∨ 12 ≤ x1.toNatClampNeg then none else (mX10_comesNow [.inr (some 19), .inl x1] (st2 M 30 x1.toNatClampNeg (0 : Int32))).bind (fun r => gX10_go 23 [some (.inr (some 19)), some (.inl x1)] (r.1.toList ++ []) r.2))) := by
  have h : ∀ k : KT, mgs (zlook tX10_go) nX10_go k 9 5 [some (.inr (some 19)), some (.inl x1)] [.inl xs0] M = (if xs0 = 0 then some ((some (.inl (6 : Int32))), M) else (if x1 < 0 ∨ 12 ≤ x1.toNatClampNeg then none else (mX10_comesNow [.inr (some 19), .inl x1] (st2 M 30 x1.toNatClampNeg (0 : Int32))).bind (fun r => k 23 [some (.inr (some 19)), some (.inl x1)] (r.1.toList ++ []) r.2))) := fun k => rfl
  have h := h gX10_go
  rw [mgs_gX10_go] at h
  exact h
set_option maxRecDepth 100000 in
theorem eX10_go_23 (M : MM) (x1 : Int32) : gX10_go 23 [some (.inr (some 19)), some (.inl x1)] [] M = some ((some (.inl (5 : Int32))), M) := by
  have h : ∀ k : KT, mgs (zlook tX10_go) nX10_go k 2 23 [some (.inr (some 19)), some (.inl x1)] [] M = some ((some (.inl (5 : Int32))), M) := fun k => rfl
  have h := h gX10_go
  rw [mgs_gX10_go] at h
  exact h
theorem iX10_go (M : MM) (x1 : Int32) : mX10_go [.inr (some 19), .inl x1] M = gX10_go 0 [some (.inr (some 19)), some (.inl x1)] [] M := rfl
noncomputable def gX10_take : KT := mev (zlook tX10_take)
theorem ctX10_take : ∀ q ∈ tX10_take, Cont q.2 := by
  refine ccons (cont_iload _ _) ?_
  refine ccons (cont_switch _ _) ?_
  refine ccons (cont_aload _ _) ?_
  refine ccons (cont_aload _ _) ?_
  refine ccons (cont_getI _ _ _) ?_
  refine ccons (cont_iload _ _) ?_
  refine ccons (cont_callV _ _ _ _) ?_
  refine ccons (cont_iret) ?_
  refine ccons (cont_aload _ _) ?_
  refine ccons (cont_aload _ _) ?_
  refine ccons (cont_getI _ _ _) ?_
  refine ccons (cont_iload _ _) ?_
  refine ccons (cont_callV _ _ _ _) ?_
  refine ccons (cont_iret) ?_
  refine ccons (cont_aload _ _) ?_
  refine ccons (cont_callV _ _ _ _) ?_
  refine ccons (cont_iret) ?_
  refine ccons (cont_aload _ _) ?_
  refine ccons (cont_callV _ _ _ _) ?_
  refine ccons (cont_iret) ?_
  refine ccons (cont_push _ _) ?_
  refine ccons (cont_iret) ?_
  refine ccons (cont_aload _ _) ?_
  refine ccons (cont_push _ _) ?_
  refine ccons (cont_putZ _ _ _) ?_
  refine ccons (cont_push _ _) ?_
  refine ccons (cont_iret) ?_
  refine ccons (cont_aload _ _) ?_
  refine ccons (cont_iload _ _) ?_
  refine ccons (cont_callV _ _ _ _) ?_
  refine ccons (cont_iret) ?_
  refine ccons (cont_push _ _) ?_
  refine ccons (cont_iret) ?_
  exact cnil
theorem mgs_gX10_take (cut : List Nat) (n : Nat) : mgs (zlook tX10_take) cut gX10_take n = gX10_take := mgs_mev (ctab ctX10_take) cut n
def nX10_take : List Nat := [0, 61, 71, 76, 81, 96]
set_option maxRecDepth 100000 in
theorem eX10_take_0 (M : MM) (x1 : Int32) (x2 : Int32) : gX10_take 0 [some (.inr (some 19)), some (.inl x1), some (.inl x2)] [] M = (if x1 = (0 : Int32) then (mX10_answered [.inr (some 19), .inl (M 19 29), .inl x2] M).bind (fun r => gX10_take 61 [some (.inr (some 19)), some (.inl x1), some (.inl x2)] (r.1.toList ++ []) r.2) else (if x1 = (1 : Int32) then (mX10_goBack [.inr (some 19)] M).bind (fun r => gX10_take 76 [some (.inr (some 19)), some (.inl x1), some (.inl x2)] (r.1.toList ++ []) r.2) else (if x1 = (2 : Int32) then (mX10_skip [.inr (some 19)] M).bind (fun r => gX10_take 81 [some (.inr (some 19)), some (.inl x1), some (.inl x2)] (r.1.toList ++ []) r.2) else (if x1 = (3 : Int32) then some ((some (.inl (5 : Int32))), M) else (if x1 = (4 : Int32) then some ((some (.inl (5 : Int32))), (st2 M 19 27 (1 : Int32))) else (if x1 = (5 : Int32) then some ((some (.inl (6 : Int32))), M) else (if x1 = (6 : Int32) then some ((some (.inl (6 : Int32))), M) else (if x1 = (7 : Int32) then (mX10_go [.inr (some 19), .inl x2] M).bind (fun r => gX10_take 96 [some (.inr (some 19)), some (.inl x1), some (.inl x2)] (r.1.toList ++ []) r.2) else (if x1 = (8 : Int32) then (mX10_answered [.inr (some 19), .inl (M 19 30), .inl x2] M).bind (fun r => gX10_take 71 [some (.inr (some 19)), some (.inl x1), some (.inl x2)] (r.1.toList ++ []) r.2) else some ((some (.inl (6 : Int32))), M)))))))))) := by
  have h : ∀ k : KT, mgs (zlook tX10_take) nX10_take k 7 0 [some (.inr (some 19)), some (.inl x1), some (.inl x2)] [] M = (if x1 = (0 : Int32) then (mX10_answered [.inr (some 19), .inl (M 19 29), .inl x2] M).bind (fun r => k 61 [some (.inr (some 19)), some (.inl x1), some (.inl x2)] (r.1.toList ++ []) r.2) else (if x1 = (1 : Int32) then (mX10_goBack [.inr (some 19)] M).bind (fun r => k 76 [some (.inr (some 19)), some (.inl x1), some (.inl x2)] (r.1.toList ++ []) r.2) else (if x1 = (2 : Int32) then (mX10_skip [.inr (some 19)] M).bind (fun r => k 81 [some (.inr (some 19)), some (.inl x1), some (.inl x2)] (r.1.toList ++ []) r.2) else (if x1 = (3 : Int32) then some ((some (.inl (5 : Int32))), M) else (if x1 = (4 : Int32) then some ((some (.inl (5 : Int32))), (st2 M 19 27 (1 : Int32))) else (if x1 = (5 : Int32) then some ((some (.inl (6 : Int32))), M) else (if x1 = (6 : Int32) then some ((some (.inl (6 : Int32))), M) else (if x1 = (7 : Int32) then (mX10_go [.inr (some 19), .inl x2] M).bind (fun r => k 96 [some (.inr (some 19)), some (.inl x1), some (.inl x2)] (r.1.toList ++ []) r.2) else (if x1 = (8 : Int32) then (mX10_answered [.inr (some 19), .inl (M 19 30), .inl x2] M).bind (fun r => k 71 [some (.inr (some 19)), some (.inl x1), some (.inl x2)] (r.1.toList ++ []) r.2) else some ((some (.inl (6 : Int32))), M)))))))))) := fun k => rfl
  have h := h gX10_take
  rw [mgs_gX10_take] at h
  exact h
set_option maxRecDepth 100000 in
theorem eX10_take_61 (M : MM) (x1 : Int32) (x2 : Int32) (xs0 : Int32) : gX10_take 61 [some (.inr (some 19)), some (.inl x1), some (.inl x2)] [.inl xs0] M = some ((some (.inl xs0)), M) := by
  have h : ∀ k : KT, mgs (zlook tX10_take) nX10_take k 1 61 [some (.inr (some 19)), some (.inl x1), some (.inl x2)] [.inl xs0] M = some ((some (.inl xs0)), M) := fun k => rfl
  have h := h gX10_take
  rw [mgs_gX10_take] at h
  exact h
set_option maxRecDepth 100000 in
theorem eX10_take_71 (M : MM) (x1 : Int32) (x2 : Int32) (xs0 : Int32) : gX10_take 71 [some (.inr (some 19)), some (.inl x1), some (.inl x2)] [.inl xs0] M = some ((some (.inl xs0)), M) := by
  have h : ∀ k : KT, mgs (zlook tX10_take) nX10_take k 1 71 [some (.inr (some 19)), some (.inl x1), some (.inl x2)] [.inl xs0] M = some ((some (.inl xs0)), M) := fun k => rfl
  have h := h gX10_take
  rw [mgs_gX10_take] at h
  exact h
set_option maxRecDepth 100000 in
theorem eX10_take_76 (M : MM) (x1 : Int32) (x2 : Int32) (xs0 : Int32) : gX10_take 76 [some (.inr (some 19)), some (.inl x1), some (.inl x2)] [.inl xs0] M = some ((some (.inl xs0)), M) := by
  have h : ∀ k : KT, mgs (zlook tX10_take) nX10_take k 1 76 [some (.inr (some 19)), some (.inl x1), some (.inl x2)] [.inl xs0] M = some ((some (.inl xs0)), M) := fun k => rfl
  have h := h gX10_take
  rw [mgs_gX10_take] at h
  exact h
set_option maxRecDepth 100000 in
theorem eX10_take_81 (M : MM) (x1 : Int32) (x2 : Int32) (xs0 : Int32) : gX10_take 81 [some (.inr (some 19)), some (.inl x1), some (.inl x2)] [.inl xs0] M = some ((some (.inl xs0)), M) := by
  have h : ∀ k : KT, mgs (zlook tX10_take) nX10_take k 1 81 [some (.inr (some 19)), some (.inl x1), some (.inl x2)] [.inl xs0] M = some ((some (.inl xs0)), M) := fun k => rfl
  have h := h gX10_take
  rw [mgs_gX10_take] at h
  exact h
set_option maxRecDepth 100000 in
theorem eX10_take_96 (M : MM) (x1 : Int32) (x2 : Int32) (xs0 : Int32) : gX10_take 96 [some (.inr (some 19)), some (.inl x1), some (.inl x2)] [.inl xs0] M = some ((some (.inl xs0)), M) := by
  have h : ∀ k : KT, mgs (zlook tX10_take) nX10_take k 1 96 [some (.inr (some 19)), some (.inl x1), some (.inl x2)] [.inl xs0] M = some ((some (.inl xs0)), M) := fun k => rfl
  have h := h gX10_take
  rw [mgs_gX10_take] at h
  exact h
theorem iX10_take (M : MM) (x1 : Int32) (x2 : Int32) : mX10_take [.inr (some 19), .inl x1, .inl x2] M = gX10_take 0 [some (.inr (some 19)), some (.inl x1), some (.inl x2)] [] M := rfl
noncomputable def gX10_act : KT := mev (zlook tX10_act)
theorem ctX10_act : ∀ q ∈ tX10_act, Cont q.2 := by
  refine ccons (cont_aload _ _) ?_
  refine ccons (cont_getI _ _ _) ?_
  refine ccons (cont_istore _ _) ?_
  refine ccons (cont_aload _ _) ?_
  refine ccons (cont_getR _ _ _) ?_
  refine ccons (cont_push _ _) ?_
  refine ccons (cont_ald _ _) ?_
  refine ccons (cont_istore _ _) ?_
  refine ccons (cont_aload _ _) ?_
  refine ccons (cont_push _ _) ?_
  refine ccons (cont_put _ _ _) ?_
  refine ccons (cont_aload _ _) ?_
  refine ccons (cont_getR _ _ _) ?_
  refine ccons (cont_push _ _) ?_
  refine ccons (cont_ald _ _) ?_
  refine ccons (cont_push _ _) ?_
  refine ccons (cont_c_ge _ _) ?_
  refine ccons (cont_aload _ _) ?_
  refine ccons (cont_getR _ _ _) ?_
  refine ccons (cont_push _ _) ?_
  refine ccons (cont_ald _ _) ?_
  refine ccons (cont_aload _ _) ?_
  refine ccons (cont_getR _ _ _) ?_
  refine ccons (cont_push _ _) ?_
  refine ccons (cont_ald _ _) ?_
  refine ccons (cont_aload _ _) ?_
  refine ccons (cont_getI _ _ _) ?_
  refine ccons (cont_bin _ _) ?_
  refine ccons (cont_c_ge _ _) ?_
  refine ccons (cont_aload _ _) ?_
  refine ccons (cont_push _ _) ?_
  refine ccons (cont_put _ _ _) ?_
  refine ccons (cont_push _ _) ?_
  refine ccons (cont_istore _ _) ?_
  refine ccons (cont_iload _ _) ?_
  refine ccons (cont_push _ _) ?_
  refine ccons (cont_c_ge _ _) ?_
  refine ccons (cont_aload _ _) ?_
  refine ccons (cont_getR _ _ _) ?_
  refine ccons (cont_iload _ _) ?_
  refine ccons (cont_aload _ _) ?_
  refine ccons (cont_getR _ _ _) ?_
  refine ccons (cont_iload _ _) ?_
  refine ccons (cont_ald _ _) ?_
  refine ccons (cont_ast _) ?_
  refine ccons (cont_aload _ _) ?_
  refine ccons (cont_getR _ _ _) ?_
  refine ccons (cont_iload _ _) ?_
  refine ccons (cont_aload _ _) ?_
  refine ccons (cont_getR _ _ _) ?_
  refine ccons (cont_iload _ _) ?_
  refine ccons (cont_ald _ _) ?_
  refine ccons (cont_ast _) ?_
  refine ccons (cont_iinc _ _ _) ?_
  refine ccons (cont_goto _) ?_
  refine ccons (cont_push _ _) ?_
  refine ccons (cont_iret) ?_
  refine ccons (cont_iload _ _) ?_
  refine ccons (cont_push _ _) ?_
  refine ccons (cont_c_ne _ _) ?_
  refine ccons (cont_iload _ _) ?_
  refine ccons (cont_push _ _) ?_
  refine ccons (cont_c_eq _ _) ?_
  refine ccons (cont_iload _ _) ?_
  refine ccons (cont_push _ _) ?_
  refine ccons (cont_c_ne _ _) ?_
  refine ccons (cont_aload _ _) ?_
  refine ccons (cont_aload _ _) ?_
  refine ccons (cont_getR _ _ _) ?_
  refine ccons (cont_iload _ _) ?_
  refine ccons (cont_push _ _) ?_
  refine ccons (cont_c_ne _ _) ?_
  refine ccons (cont_push _ _) ?_
  refine ccons (cont_goto _) ?_
  refine ccons (cont_push _ _) ?_
  refine ccons (cont_ald _ _) ?_
  refine ccons (cont_aload _ _) ?_
  refine ccons (cont_getR _ _ _) ?_
  refine ccons (cont_iload _ _) ?_
  refine ccons (cont_push _ _) ?_
  refine ccons (cont_c_ne _ _) ?_
  refine ccons (cont_push _ _) ?_
  refine ccons (cont_goto _) ?_
  refine ccons (cont_push _ _) ?_
  refine ccons (cont_ald _ _) ?_
  refine ccons (cont_callV _ _ _ _) ?_
  refine ccons (cont_iret) ?_
  refine ccons (cont_iload _ _) ?_
  refine ccons (cont_push _ _) ?_
  refine ccons (cont_c_ne _ _) ?_
  refine ccons (cont_iload _ _) ?_
  refine ccons (cont_push _ _) ?_
  refine ccons (cont_c_ne _ _) ?_
  refine ccons (cont_aload _ _) ?_
  refine ccons (cont_aload _ _) ?_
  refine ccons (cont_getI _ _ _) ?_
  refine ccons (cont_aload _ _) ?_
  refine ccons (cont_getI _ _ _) ?_
  refine ccons (cont_push _ _) ?_
  refine ccons (cont_callV _ _ _ _) ?_
  refine ccons (cont_iret) ?_
  refine ccons (cont_iload _ _) ?_
  refine ccons (cont_push _ _) ?_
  refine ccons (cont_c_ne _ _) ?_
  refine ccons (cont_iload _ _) ?_
  refine ccons (cont_push _ _) ?_
  refine ccons (cont_c_ne _ _) ?_
  refine ccons (cont_push _ _) ?_
  refine ccons (cont_iret) ?_
  refine ccons (cont_aload _ _) ?_
  refine ccons (cont_iload _ _) ?_
  refine ccons (cont_aload _ _) ?_
  refine ccons (cont_getR _ _ _) ?_
  refine ccons (cont_push _ _) ?_
  refine ccons (cont_ald _ _) ?_
  refine ccons (cont_callV _ _ _ _) ?_
  refine ccons (cont_iret) ?_
  exact cnil
theorem mgs_gX10_act (cut : List Nat) (n : Nat) : mgs (zlook tX10_act) cut gX10_act n = gX10_act := mgs_mev (ctab ctX10_act) cut n
def nX10_act : List Nat := [0, 55, 92, 108, 123, 142, 143, 166, 167, 180, 191]
set_option maxRecDepth 100000 in
theorem eX10_act_0 (M : MM) : gX10_act 0 [some (.inr (some 19)), none, none, none] [] M = (if (1000000 : Int32) ≤ ((st2 M 19 32 (0 : Int32)) 37 1) then gX10_act 92 [some (.inr (some 19)), some (.inl (M 19 32)), some (.inl (M 35 0)), none] [] (st2 M 19 32 (0 : Int32)) else (if (((st2 M 19 32 (0 : Int32)) 37 0) + ((st2 M 19 32 (0 : Int32)) 19 14)) ≤ ((st2 M 19 32 (0 : Int32)) 37 1) then gX10_act 92 [some (.inr (some 19)), some (.inl (M 19 32)), some (.inl (M 35 0)), none] [] (st2 M 19 32 (0 : Int32)) else gX10_act 55 [some (.inr (some 19)), some (.inl (M 19 32)), some (.inl (M 35 0)), some (.inl (0 : Int32))] [] (st2 (st2 M 19 32 (0 : Int32)) 19 32 (2 : Int32)))) := by
  have h : ∀ k : KT, mgs (zlook tX10_act) nX10_act k 34 0 [some (.inr (some 19)), none, none, none] [] M = (if (1000000 : Int32) ≤ ((st2 M 19 32 (0 : Int32)) 37 1) then k 92 [some (.inr (some 19)), some (.inl (M 19 32)), some (.inl (M 35 0)), none] [] (st2 M 19 32 (0 : Int32)) else (if (((st2 M 19 32 (0 : Int32)) 37 0) + ((st2 M 19 32 (0 : Int32)) 19 14)) ≤ ((st2 M 19 32 (0 : Int32)) 37 1) then k 92 [some (.inr (some 19)), some (.inl (M 19 32)), some (.inl (M 35 0)), none] [] (st2 M 19 32 (0 : Int32)) else k 55 [some (.inr (some 19)), some (.inl (M 19 32)), some (.inl (M 35 0)), some (.inl (0 : Int32))] [] (st2 (st2 M 19 32 (0 : Int32)) 19 32 (2 : Int32)))) := fun k => rfl
  have h := h gX10_act
  rw [mgs_gX10_act] at h
  exact h
set_option maxRecDepth 100000 in
theorem eX10_act_55 (M : MM) (x1 : Int32) (x2 : Int32) (x3 : Int32) : gX10_act 55 [some (.inr (some 19)), some (.inl x1), some (.inl x2), some (.inl x3)] [] M = (if (2 : Int32) ≤ x3 then some ((some (.inl (2 : Int32))), M) else (if x3 < 0 ∨ 2 ≤ x3.toNatClampNeg then none else (if x3 < 0 ∨ 2 ≤ x3.toNatClampNeg then none else (if x3 < 0 ∨ 2 ≤ x3.toNatClampNeg then none else (if x3 < 0 ∨ 2 ≤ x3.toNatClampNeg then none else gX10_act 55 [some (.inr (some 19)), some (.inl x1), some (.inl x2), some (.inl (x3 + (1 : Int32)))] [] (st2 (st2 M 41 x3.toNatClampNeg (M 35 x3.toNatClampNeg)) 42 x3.toNatClampNeg ((st2 M 41 x3.toNatClampNeg (M 35 x3.toNatClampNeg)) 36 x3.toNatClampNeg))))))) := by
  have h : ∀ k : KT, mgs (zlook tX10_act) nX10_act k 21 55 [some (.inr (some 19)), some (.inl x1), some (.inl x2), some (.inl x3)] [] M = (if (2 : Int32) ≤ x3 then some ((some (.inl (2 : Int32))), M) else (if x3 < 0 ∨ 2 ≤ x3.toNatClampNeg then none else (if x3 < 0 ∨ 2 ≤ x3.toNatClampNeg then none else (if x3 < 0 ∨ 2 ≤ x3.toNatClampNeg then none else (if x3 < 0 ∨ 2 ≤ x3.toNatClampNeg then none else k 55 [some (.inr (some 19)), some (.inl x1), some (.inl x2), some (.inl (x3 + (1 : Int32)))] [] (st2 (st2 M 41 x3.toNatClampNeg (M 35 x3.toNatClampNeg)) 42 x3.toNatClampNeg ((st2 M 41 x3.toNatClampNeg (M 35 x3.toNatClampNeg)) 36 x3.toNatClampNeg))))))) := fun k => rfl
  have h := h gX10_act
  rw [mgs_gX10_act] at h
  exact h
set_option maxRecDepth 100000 in
theorem eX10_act_92 (M : MM) (x1 : Int32) (x2 : Int32) : gX10_act 92 [some (.inr (some 19)), some (.inl x1), some (.inl x2), none] [] M = (if x1 = (2 : Int32) then (if x2 = (5 : Int32) then gX10_act 108 [some (.inr (some 19)), some (.inl x1), some (.inl x2), none] [] M else (if x2 = (6 : Int32) then gX10_act 108 [some (.inr (some 19)), some (.inl x1), some (.inl x2), none] [] M else gX10_act 143 [some (.inr (some 19)), some (.inl x1), some (.inl x2), none] [] M)) else gX10_act 143 [some (.inr (some 19)), some (.inl x1), some (.inl x2), none] [] M) := by
  have h : ∀ k : KT, mgs (zlook tX10_act) nX10_act k 9 92 [some (.inr (some 19)), some (.inl x1), some (.inl x2), none] [] M = (if x1 = (2 : Int32) then (if x2 = (5 : Int32) then k 108 [some (.inr (some 19)), some (.inl x1), some (.inl x2), none] [] M else (if x2 = (6 : Int32) then k 108 [some (.inr (some 19)), some (.inl x1), some (.inl x2), none] [] M else k 143 [some (.inr (some 19)), some (.inl x1), some (.inl x2), none] [] M)) else k 143 [some (.inr (some 19)), some (.inl x1), some (.inl x2), none] [] M) := fun k => rfl
  have h := h gX10_act
  rw [mgs_gX10_act] at h
  exact h
set_option maxRecDepth 100000 in
theorem eX10_act_108 (M : MM) (x1 : Int32) (x2 : Int32) : gX10_act 108 [some (.inr (some 19)), some (.inl x1), some (.inl x2), none] [] M = (if x2 = (5 : Int32) then gX10_act 123 [some (.inr (some 19)), some (.inl x1), some (.inl x2), none] [.inl (0 : Int32), .inr (some 41), .inr (some 19)] M else gX10_act 123 [some (.inr (some 19)), some (.inl x1), some (.inl x2), none] [.inl (1 : Int32), .inr (some 41), .inr (some 19)] M) := by
  have h : ∀ k : KT, mgs (zlook tX10_act) nX10_act k 8 108 [some (.inr (some 19)), some (.inl x1), some (.inl x2), none] [] M = (if x2 = (5 : Int32) then k 123 [some (.inr (some 19)), some (.inl x1), some (.inl x2), none] [.inl (0 : Int32), .inr (some 41), .inr (some 19)] M else k 123 [some (.inr (some 19)), some (.inl x1), some (.inl x2), none] [.inl (1 : Int32), .inr (some 41), .inr (some 19)] M) := fun k => rfl
  have h := h gX10_act
  rw [mgs_gX10_act] at h
  exact h
set_option maxRecDepth 100000 in
theorem eX10_act_123 (M : MM) (x1 : Int32) (x2 : Int32) (xs0 : Int32) : gX10_act 123 [some (.inr (some 19)), some (.inl x1), some (.inl x2), none] [.inl xs0, .inr (some 41), .inr (some 19)] M = (if xs0 < 0 ∨ 2 ≤ xs0.toNatClampNeg then none else (if x2 = (5 : Int32) then (mX10_take [.inr (some 19), .inl (M 41 xs0.toNatClampNeg), .inl (M 42 0)] M).bind (fun r => gX10_act 142 [some (.inr (some 19)), some (.inl x1), some (.inl x2), none] (r.1.toList ++ []) r.2) else (mX10_take [.inr (some 19), .inl (M 41 xs0.toNatClampNeg), .inl (M 42 1)] M).bind (fun r => gX10_act 142 [some (.inr (some 19)), some (.inl x1), some (.inl x2), none] (r.1.toList ++ []) r.2))) := by
  have h : ∀ k : KT, mgs (zlook tX10_act) nX10_act k 10 123 [some (.inr (some 19)), some (.inl x1), some (.inl x2), none] [.inl xs0, .inr (some 41), .inr (some 19)] M = (if xs0 < 0 ∨ 2 ≤ xs0.toNatClampNeg then none else (if x2 = (5 : Int32) then (mX10_take [.inr (some 19), .inl (M 41 xs0.toNatClampNeg), .inl (M 42 0)] M).bind (fun r => k 142 [some (.inr (some 19)), some (.inl x1), some (.inl x2), none] (r.1.toList ++ []) r.2) else (mX10_take [.inr (some 19), .inl (M 41 xs0.toNatClampNeg), .inl (M 42 1)] M).bind (fun r => k 142 [some (.inr (some 19)), some (.inl x1), some (.inl x2), none] (r.1.toList ++ []) r.2))) := fun k => rfl
  have h := h gX10_act
  rw [mgs_gX10_act] at h
  exact h
set_option maxRecDepth 100000 in
theorem eX10_act_142 (M : MM) (x1 : Int32) (x2 : Int32) (xs0 : Int32) : gX10_act 142 [some (.inr (some 19)), some (.inl x1), some (.inl x2), none] [.inl xs0] M = some ((some (.inl xs0)), M) := by
  have h : ∀ k : KT, mgs (zlook tX10_act) nX10_act k 1 142 [some (.inr (some 19)), some (.inl x1), some (.inl x2), none] [.inl xs0] M = some ((some (.inl xs0)), M) := fun k => rfl
  have h := h gX10_act
  rw [mgs_gX10_act] at h
  exact h
set_option maxRecDepth 100000 in
theorem eX10_act_143 (M : MM) (x1 : Int32) (x2 : Int32) : gX10_act 143 [some (.inr (some 19)), some (.inl x1), some (.inl x2), none] [] M = (if x1 = (1 : Int32) then (if x2 = (5 : Int32) then (mX10_keep [.inr (some 19), .inl (M 19 36), .inl (M 19 37), .inl (1 : Int32)] M).bind (fun r => gX10_act 166 [some (.inr (some 19)), some (.inl x1), some (.inl x2), none] (r.1.toList ++ []) r.2) else gX10_act 167 [some (.inr (some 19)), some (.inl x1), some (.inl x2), none] [] M) else gX10_act 167 [some (.inr (some 19)), some (.inl x1), some (.inl x2), none] [] M) := by
  have h : ∀ k : KT, mgs (zlook tX10_act) nX10_act k 13 143 [some (.inr (some 19)), some (.inl x1), some (.inl x2), none] [] M = (if x1 = (1 : Int32) then (if x2 = (5 : Int32) then (mX10_keep [.inr (some 19), .inl (M 19 36), .inl (M 19 37), .inl (1 : Int32)] M).bind (fun r => k 166 [some (.inr (some 19)), some (.inl x1), some (.inl x2), none] (r.1.toList ++ []) r.2) else k 167 [some (.inr (some 19)), some (.inl x1), some (.inl x2), none] [] M) else k 167 [some (.inr (some 19)), some (.inl x1), some (.inl x2), none] [] M) := fun k => rfl
  have h := h gX10_act
  rw [mgs_gX10_act] at h
  exact h
set_option maxRecDepth 100000 in
theorem eX10_act_166 (M : MM) (x1 : Int32) (x2 : Int32) (xs0 : Int32) : gX10_act 166 [some (.inr (some 19)), some (.inl x1), some (.inl x2), none] [.inl xs0] M = some ((some (.inl xs0)), M) := by
  have h : ∀ k : KT, mgs (zlook tX10_act) nX10_act k 1 166 [some (.inr (some 19)), some (.inl x1), some (.inl x2), none] [.inl xs0] M = some ((some (.inl xs0)), M) := fun k => rfl
  have h := h gX10_act
  rw [mgs_gX10_act] at h
  exact h
set_option maxRecDepth 100000 in
theorem eX10_act_167 (M : MM) (x1 : Int32) (x2 : Int32) : gX10_act 167 [some (.inr (some 19)), some (.inl x1), some (.inl x2), none] [] M = (if x1 = (1 : Int32) then (if x2 = (6 : Int32) then some ((some (.inl (5 : Int32))), M) else gX10_act 180 [some (.inr (some 19)), some (.inl x1), some (.inl x2), none] [] M) else gX10_act 180 [some (.inr (some 19)), some (.inl x1), some (.inl x2), none] [] M) := by
  have h : ∀ k : KT, mgs (zlook tX10_act) nX10_act k 8 167 [some (.inr (some 19)), some (.inl x1), some (.inl x2), none] [] M = (if x1 = (1 : Int32) then (if x2 = (6 : Int32) then some ((some (.inl (5 : Int32))), M) else k 180 [some (.inr (some 19)), some (.inl x1), some (.inl x2), none] [] M) else k 180 [some (.inr (some 19)), some (.inl x1), some (.inl x2), none] [] M) := fun k => rfl
  have h := h gX10_act
  rw [mgs_gX10_act] at h
  exact h
set_option maxRecDepth 100000 in
theorem eX10_act_180 (M : MM) (x1 : Int32) (x2 : Int32) : gX10_act 180 [some (.inr (some 19)), some (.inl x1), some (.inl x2), none] [] M = (mX10_take [.inr (some 19), .inl x2, .inl (M 36 0)] M).bind (fun r => gX10_act 191 [some (.inr (some 19)), some (.inl x1), some (.inl x2), none] (r.1.toList ++ []) r.2) := by
  have h : ∀ k : KT, mgs (zlook tX10_act) nX10_act k 7 180 [some (.inr (some 19)), some (.inl x1), some (.inl x2), none] [] M = (mX10_take [.inr (some 19), .inl x2, .inl (M 36 0)] M).bind (fun r => k 191 [some (.inr (some 19)), some (.inl x1), some (.inl x2), none] (r.1.toList ++ []) r.2) := fun k => rfl
  have h := h gX10_act
  rw [mgs_gX10_act] at h
  exact h
set_option maxRecDepth 100000 in
theorem eX10_act_191 (M : MM) (x1 : Int32) (x2 : Int32) (xs0 : Int32) : gX10_act 191 [some (.inr (some 19)), some (.inl x1), some (.inl x2), none] [.inl xs0] M = some ((some (.inl xs0)), M) := by
  have h : ∀ k : KT, mgs (zlook tX10_act) nX10_act k 1 191 [some (.inr (some 19)), some (.inl x1), some (.inl x2), none] [.inl xs0] M = some ((some (.inl xs0)), M) := fun k => rfl
  have h := h gX10_act
  rw [mgs_gX10_act] at h
  exact h
theorem iX10_act (M : MM) : mX10_act [.inr (some 19)] M = gX10_act 0 [some (.inr (some 19)), none, none, none] [] M := rfl
noncomputable def gX10_unlike : KT := mev (zlook tX10_unlike)
theorem ctX10_unlike : ∀ q ∈ tX10_unlike, Cont q.2 := by
  refine ccons (cont_push _ _) ?_
  refine ccons (cont_istore _ _) ?_
  refine ccons (cont_aload _ _) ?_
  refine ccons (cont_getR _ _ _) ?_
  refine ccons (cont_push _ _) ?_
  refine ccons (cont_ald _ _) ?_
  refine ccons (cont_istore _ _) ?_
  refine ccons (cont_aload _ _) ?_
  refine ccons (cont_getR _ _ _) ?_
  refine ccons (cont_push _ _) ?_
  refine ccons (cont_ald _ _) ?_
  refine ccons (cont_istore _ _) ?_
  refine ccons (cont_aload _ _) ?_
  refine ccons (cont_getR _ _ _) ?_
  refine ccons (cont_aload _ _) ?_
  refine ccons (cont_getI _ _ _) ?_
  refine ccons (cont_ald _ _) ?_
  refine ccons (cont_push _ _) ?_
  refine ccons (cont_bin _ _) ?_
  refine ccons (cont_istore _ _) ?_
  refine ccons (cont_iload _ _) ?_
  refine ccons (cont_if_lt _ _) ?_
  refine ccons (cont_iload _ _) ?_
  refine ccons (cont_push _ _) ?_
  refine ccons (cont_rem _) ?_
  refine ccons (cont_iload _ _) ?_
  refine ccons (cont_push _ _) ?_
  refine ccons (cont_rem _) ?_
  refine ccons (cont_c_eq _ _) ?_
  refine ccons (cont_iload _ _) ?_
  refine ccons (cont_push _ _) ?_
  refine ccons (cont_iload _ _) ?_
  refine ccons (cont_bin _ _) ?_
  refine ccons (cont_bin _ _) ?_
  refine ccons (cont_istore _ _) ?_
  refine ccons (cont_iload _ _) ?_
  refine ccons (cont_push _ _) ?_
  refine ccons (cont_div _) ?_
  refine ccons (cont_istore _ _) ?_
  refine ccons (cont_iload _ _) ?_
  refine ccons (cont_push _ _) ?_
  refine ccons (cont_div _) ?_
  refine ccons (cont_istore _ _) ?_
  refine ccons (cont_iinc _ _ _) ?_
  refine ccons (cont_goto _) ?_
  refine ccons (cont_iload _ _) ?_
  refine ccons (cont_iret) ?_
  exact cnil
theorem mgs_gX10_unlike (cut : List Nat) (n : Nat) : mgs (zlook tX10_unlike) cut gX10_unlike n = gX10_unlike := mgs_mev (ctab ctX10_unlike) cut n
def nX10_unlike : List Nat := [0, 29, 52]
set_option maxRecDepth 100000 in
theorem eX10_unlike_0 (M : MM) : gX10_unlike 0 [some (.inr (some 19)), none, none, none, none] [] M = (if (M 19 29) < 0 ∨ 12 ≤ (M 19 29).toNatClampNeg then none else gX10_unlike 29 [some (.inr (some 19)), some (.inl (0 : Int32)), some (.inl (M 36 0)), some (.inl (M 36 1)), some (.inl ((M 21 (M 19 29).toNatClampNeg) - (1 : Int32)))] [] M) := by
  have h : ∀ k : KT, mgs (zlook tX10_unlike) nX10_unlike k 20 0 [some (.inr (some 19)), none, none, none, none] [] M = (if (M 19 29) < 0 ∨ 12 ≤ (M 19 29).toNatClampNeg then none else k 29 [some (.inr (some 19)), some (.inl (0 : Int32)), some (.inl (M 36 0)), some (.inl (M 36 1)), some (.inl ((M 21 (M 19 29).toNatClampNeg) - (1 : Int32)))] [] M) := fun k => rfl
  have h := h gX10_unlike
  rw [mgs_gX10_unlike] at h
  exact h
set_option maxRecDepth 100000 in
theorem eX10_unlike_29 (M : MM) (x1 : Int32) (x2 : Int32) (x3 : Int32) (x4 : Int32) : gX10_unlike 29 [some (.inr (some 19)), some (.inl x1), some (.inl x2), some (.inl x3), some (.inl x4)] [] M = (if x4 < 0 then some ((some (.inl x1)), M) else (if (x2 - x2 / (10 : Int32) * (10 : Int32)) = (x3 - x3 / (10 : Int32) * (10 : Int32)) then gX10_unlike 52 [some (.inr (some 19)), some (.inl x1), some (.inl x2), some (.inl x3), some (.inl x4)] [] M else gX10_unlike 52 [some (.inr (some 19)), some (.inl (x1 ||| ((1 : Int32) <<< (x4 &&& 31)))), some (.inl x2), some (.inl x3), some (.inl x4)] [] M)) := by
  have h : ∀ k : KT, mgs (zlook tX10_unlike) nX10_unlike k 15 29 [some (.inr (some 19)), some (.inl x1), some (.inl x2), some (.inl x3), some (.inl x4)] [] M = (if x4 < 0 then some ((some (.inl x1)), M) else (if (x2 - x2 / (10 : Int32) * (10 : Int32)) = (x3 - x3 / (10 : Int32) * (10 : Int32)) then k 52 [some (.inr (some 19)), some (.inl x1), some (.inl x2), some (.inl x3), some (.inl x4)] [] M else k 52 [some (.inr (some 19)), some (.inl (x1 ||| ((1 : Int32) <<< (x4 &&& 31)))), some (.inl x2), some (.inl x3), some (.inl x4)] [] M)) := fun k => rfl
  have h := h gX10_unlike
  rw [mgs_gX10_unlike] at h
  exact h
set_option maxRecDepth 100000 in
theorem eX10_unlike_52 (M : MM) (x1 : Int32) (x2 : Int32) (x3 : Int32) (x4 : Int32) : gX10_unlike 52 [some (.inr (some 19)), some (.inl x1), some (.inl x2), some (.inl x3), some (.inl x4)] [] M = gX10_unlike 29 [some (.inr (some 19)), some (.inl x1), some (.inl (x2 / (10 : Int32))), some (.inl (x3 / (10 : Int32))), some (.inl (x4 + (-1 : Int32)))] [] M := by
  have h : ∀ k : KT, mgs (zlook tX10_unlike) nX10_unlike k 10 52 [some (.inr (some 19)), some (.inl x1), some (.inl x2), some (.inl x3), some (.inl x4)] [] M = k 29 [some (.inr (some 19)), some (.inl x1), some (.inl (x2 / (10 : Int32))), some (.inl (x3 / (10 : Int32))), some (.inl (x4 + (-1 : Int32)))] [] M := fun k => rfl
  have h := h gX10_unlike
  rw [mgs_gX10_unlike] at h
  exact h
theorem iX10_unlike (M : MM) : mX10_unlike [.inr (some 19)] M = gX10_unlike 0 [some (.inr (some 19)), none, none, none, none] [] M := rfl
noncomputable def gX10_say : KT := mev (zlook tX10_say)
theorem ctX10_say : ∀ q ∈ tX10_say, Cont q.2 := by
  refine ccons (cont_aload _ _) ?_
  refine ccons (cont_push _ _) ?_
  refine ccons (cont_putZ _ _ _) ?_
  refine ccons (cont_aload _ _) ?_
  refine ccons (cont_push _ _) ?_
  refine ccons (cont_put _ _ _) ?_
  refine ccons (cont_push _ _) ?_
  refine ccons (cont_istore _ _) ?_
  refine ccons (cont_iload _ _) ?_
  refine ccons (cont_push _ _) ?_
  refine ccons (cont_c_ge _ _) ?_
  refine ccons (cont_aload _ _) ?_
  refine ccons (cont_getR _ _ _) ?_
  refine ccons (cont_iload _ _) ?_
  refine ccons (cont_iload _ _) ?_
  refine ccons (cont_push _ _) ?_
  refine ccons (cont_c_ge _ _) ?_
  refine ccons (cont_push _ _) ?_
  refine ccons (cont_goto _) ?_
  refine ccons (cont_push _ _) ?_
  refine ccons (cont_ast _) ?_
  refine ccons (cont_iinc _ _ _) ?_
  refine ccons (cont_goto _) ?_
  refine ccons (cont_aload _ _) ?_
  refine ccons (cont_getI _ _ _) ?_
  refine ccons (cont_if_ne _ _) ?_
  refine ccons (cont_aload _ _) ?_
  refine ccons (cont_getI _ _ _) ?_
  refine ccons (cont_if_ne _ _) ?_
  refine ccons (cont_push _ _) ?_
  refine ccons (cont_goto _) ?_
  refine ccons (cont_push _ _) ?_
  refine ccons (cont_istore _ _) ?_
  refine ccons (cont_aload _ _) ?_
  refine ccons (cont_getI _ _ _) ?_
  refine ccons (cont_if_le _ _) ?_
  refine ccons (cont_aload _ _) ?_
  refine ccons (cont_getI _ _ _) ?_
  refine ccons (cont_if_ne _ _) ?_
  refine ccons (cont_aload _ _) ?_
  refine ccons (cont_callV _ _ _ _) ?_
  refine ccons (cont_aload _ _) ?_
  refine ccons (cont_getR _ _ _) ?_
  refine ccons (cont_push _ _) ?_
  refine ccons (cont_ald _ _) ?_
  refine ccons (cont_push _ _) ?_
  refine ccons (cont_c_ge _ _) ?_
  refine ccons (cont_aload _ _) ?_
  refine ccons (cont_getI _ _ _) ?_
  refine ccons (cont_if_lt _ _) ?_
  refine ccons (cont_aload _ _) ?_
  refine ccons (cont_getR _ _ _) ?_
  refine ccons (cont_aload _ _) ?_
  refine ccons (cont_getI _ _ _) ?_
  refine ccons (cont_ald _ _) ?_
  refine ccons (cont_if_le _ _) ?_
  refine ccons (cont_aload _ _) ?_
  refine ccons (cont_getR _ _ _) ?_
  refine ccons (cont_push _ _) ?_
  refine ccons (cont_ald _ _) ?_
  refine ccons (cont_push _ _) ?_
  refine ccons (cont_c_ge _ _) ?_
  refine ccons (cont_aload _ _) ?_
  refine ccons (cont_getR _ _ _) ?_
  refine ccons (cont_push _ _) ?_
  refine ccons (cont_ald _ _) ?_
  refine ccons (cont_if_ne _ _) ?_
  refine ccons (cont_aload _ _) ?_
  refine ccons (cont_getR _ _ _) ?_
  refine ccons (cont_push _ _) ?_
  refine ccons (cont_ald _ _) ?_
  refine ccons (cont_if_ne _ _) ?_
  refine ccons (cont_push _ _) ?_
  refine ccons (cont_goto _) ?_
  refine ccons (cont_push _ _) ?_
  refine ccons (cont_istore _ _) ?_
  refine ccons (cont_aload _ _) ?_
  refine ccons (cont_getR _ _ _) ?_
  refine ccons (cont_push _ _) ?_
  refine ccons (cont_iload _ _) ?_
  refine ccons (cont_if_eq _ _) ?_
  refine ccons (cont_aload _ _) ?_
  refine ccons (cont_getR _ _ _) ?_
  refine ccons (cont_push _ _) ?_
  refine ccons (cont_ald _ _) ?_
  refine ccons (cont_aload _ _) ?_
  refine ccons (cont_getR _ _ _) ?_
  refine ccons (cont_push _ _) ?_
  refine ccons (cont_ald _ _) ?_
  refine ccons (cont_aload _ _) ?_
  refine ccons (cont_getI _ _ _) ?_
  refine ccons (cont_bin _ _) ?_
  refine ccons (cont_c_ge _ _) ?_
  refine ccons (cont_aload _ _) ?_
  refine ccons (cont_callV _ _ _ _) ?_
  refine ccons (cont_goto _) ?_
  refine ccons (cont_push _ _) ?_
  refine ccons (cont_ast _) ?_
  refine ccons (cont_push _ _) ?_
  refine ccons (cont_istore _ _) ?_
  refine ccons (cont_iload _ _) ?_
  refine ccons (cont_push _ _) ?_
  refine ccons (cont_c_ge _ _) ?_
  refine ccons (cont_aload _ _) ?_
  refine ccons (cont_getR _ _ _) ?_
  refine ccons (cont_iload _ _) ?_
  refine ccons (cont_ald _ _) ?_
  refine ccons (cont_push _ _) ?_
  refine ccons (cont_c_ge _ _) ?_
  refine ccons (cont_aload _ _) ?_
  refine ccons (cont_getR _ _ _) ?_
  refine ccons (cont_push _ _) ?_
  refine ccons (cont_iload _ _) ?_
  refine ccons (cont_bin _ _) ?_
  refine ccons (cont_push _ _) ?_
  refine ccons (cont_bin _ _) ?_
  refine ccons (cont_aload _ _) ?_
  refine ccons (cont_getR _ _ _) ?_
  refine ccons (cont_iload _ _) ?_
  refine ccons (cont_ald _ _) ?_
  refine ccons (cont_ast _) ?_
  refine ccons (cont_aload _ _) ?_
  refine ccons (cont_getR _ _ _) ?_
  refine ccons (cont_push _ _) ?_
  refine ccons (cont_iload _ _) ?_
  refine ccons (cont_bin _ _) ?_
  refine ccons (cont_push _ _) ?_
  refine ccons (cont_bin _ _) ?_
  refine ccons (cont_aload _ _) ?_
  refine ccons (cont_getR _ _ _) ?_
  refine ccons (cont_iload _ _) ?_
  refine ccons (cont_ald _ _) ?_
  refine ccons (cont_ast _) ?_
  refine ccons (cont_aload _ _) ?_
  refine ccons (cont_getR _ _ _) ?_
  refine ccons (cont_push _ _) ?_
  refine ccons (cont_iload _ _) ?_
  refine ccons (cont_bin _ _) ?_
  refine ccons (cont_push _ _) ?_
  refine ccons (cont_bin _ _) ?_
  refine ccons (cont_aload _ _) ?_
  refine ccons (cont_getR _ _ _) ?_
  refine ccons (cont_iload _ _) ?_
  refine ccons (cont_ald _ _) ?_
  refine ccons (cont_ast _) ?_
  refine ccons (cont_iinc _ _ _) ?_
  refine ccons (cont_goto _) ?_
  refine ccons (cont_aload _ _) ?_
  refine ccons (cont_callV _ _ _ _) ?_
  refine ccons (cont_istore _ _) ?_
  refine ccons (cont_aload _ _) ?_
  refine ccons (cont_push _ _) ?_
  refine ccons (cont_put _ _ _) ?_
  refine ccons (cont_aload _ _) ?_
  refine ccons (cont_getR _ _ _) ?_
  refine ccons (cont_push _ _) ?_
  refine ccons (cont_iload _ _) ?_
  refine ccons (cont_ast _) ?_
  refine ccons (cont_aload _ _) ?_
  refine ccons (cont_getR _ _ _) ?_
  refine ccons (cont_push _ _) ?_
  refine ccons (cont_aload _ _) ?_
  refine ccons (cont_getI _ _ _) ?_
  refine ccons (cont_ast _) ?_
  refine ccons (cont_aload _ _) ?_
  refine ccons (cont_iload _ _) ?_
  refine ccons (cont_push _ _) ?_
  refine ccons (cont_c_le _ _) ?_
  refine ccons (cont_push _ _) ?_
  refine ccons (cont_goto _) ?_
  refine ccons (cont_aload _ _) ?_
  refine ccons (cont_getI _ _ _) ?_
  refine ccons (cont_push _ _) ?_
  refine ccons (cont_c_ne _ _) ?_
  refine ccons (cont_push _ _) ?_
  refine ccons (cont_goto _) ?_
  refine ccons (cont_aload _ _) ?_
  refine ccons (cont_getI _ _ _) ?_
  refine ccons (cont_push _ _) ?_
  refine ccons (cont_bin _ _) ?_
  refine ccons (cont_put _ _ _) ?_
  refine ccons (cont_iload _ _) ?_
  refine ccons (cont_iret) ?_
  exact cnil
theorem mgs_gX10_say (cut : List Nat) (n : Nat) : mgs (zlook tX10_say) cut gX10_say n = gX10_say := mgs_mev (ctab ctX10_say) cut n
def nX10_say : List Nat := [0, 12, 59, 60, 79, 142, 143, 178, 181, 182, 185, 255, 259, 260]
set_option maxRecDepth 100000 in
theorem eX10_say_0 (M : MM) : gX10_say 0 [some (.inr (some 19)), none, none, none] [] M = gX10_say 12 [some (.inr (some 19)), some (.inl (0 : Int32)), none, none] [] (st2 (st2 M 19 26 (1 : Int32)) 19 34 (0 : Int32)) := by
  have h : ∀ k : KT, mgs (zlook tX10_say) nX10_say k 8 0 [some (.inr (some 19)), none, none, none] [] M = k 12 [some (.inr (some 19)), some (.inl (0 : Int32)), none, none] [] (st2 (st2 M 19 26 (1 : Int32)) 19 34 (0 : Int32)) := fun k => rfl
  have h := h gX10_say
  rw [mgs_gX10_say] at h
  exact h
set_option maxRecDepth 100000 in
theorem eX10_say_12 (M : MM) (x1 : Int32) : gX10_say 12 [some (.inr (some 19)), some (.inl x1), none, none] [] M = (if (9 : Int32) ≤ x1 then (if (M 19 16) = 0 then (if (M 19 27) = 0 then gX10_say 60 [some (.inr (some 19)), some (.inl x1), none, none] [.inl (0 : Int32)] M else gX10_say 59 [some (.inr (some 19)), some (.inl x1), none, none] [] M) else gX10_say 59 [some (.inr (some 19)), some (.inl x1), none, none] [] M) else (if (7 : Int32) ≤ x1 then (if x1 < 0 ∨ 9 ≤ x1.toNatClampNeg then none else gX10_say 12 [some (.inr (some 19)), some (.inl (x1 + (1 : Int32))), none, none] [] (st2 M 43 x1.toNatClampNeg (0 : Int32))) else (if x1 < 0 ∨ 9 ≤ x1.toNatClampNeg then none else gX10_say 12 [some (.inr (some 19)), some (.inl (x1 + (1 : Int32))), none, none] [] (st2 M 43 x1.toNatClampNeg (-1 : Int32))))) := by
  have h : ∀ k : KT, mgs (zlook tX10_say) nX10_say k 14 12 [some (.inr (some 19)), some (.inl x1), none, none] [] M = (if (9 : Int32) ≤ x1 then (if (M 19 16) = 0 then (if (M 19 27) = 0 then k 60 [some (.inr (some 19)), some (.inl x1), none, none] [.inl (0 : Int32)] M else k 59 [some (.inr (some 19)), some (.inl x1), none, none] [] M) else k 59 [some (.inr (some 19)), some (.inl x1), none, none] [] M) else (if (7 : Int32) ≤ x1 then (if x1 < 0 ∨ 9 ≤ x1.toNatClampNeg then none else k 12 [some (.inr (some 19)), some (.inl (x1 + (1 : Int32))), none, none] [] (st2 M 43 x1.toNatClampNeg (0 : Int32))) else (if x1 < 0 ∨ 9 ≤ x1.toNatClampNeg then none else k 12 [some (.inr (some 19)), some (.inl (x1 + (1 : Int32))), none, none] [] (st2 M 43 x1.toNatClampNeg (-1 : Int32))))) := fun k => rfl
  have h := h gX10_say
  rw [mgs_gX10_say] at h
  exact h
set_option maxRecDepth 100000 in
theorem eX10_say_59 (M : MM) (x1 : Int32) : gX10_say 59 [some (.inr (some 19)), some (.inl x1), none, none] [] M = gX10_say 60 [some (.inr (some 19)), some (.inl x1), none, none] [.inl (1 : Int32)] M := by
  have h : ∀ k : KT, mgs (zlook tX10_say) nX10_say k 1 59 [some (.inr (some 19)), some (.inl x1), none, none] [] M = k 60 [some (.inr (some 19)), some (.inl x1), none, none] [.inl (1 : Int32)] M := fun k => rfl
  have h := h gX10_say
  rw [mgs_gX10_say] at h
  exact h
set_option maxRecDepth 100000 in
theorem eX10_say_60 (M : MM) (x1 : Int32) (xs0 : Int32) : gX10_say 60 [some (.inr (some 19)), some (.inl x1), none, none] [.inl xs0] M = (if (M 19 16) ≤ 0 then gX10_say 260 [some (.inr (some 19)), some (.inl xs0), none, none] [] M else (if (M 19 27) = 0 then (mX10_readAll [.inr (some 19)] M).bind (fun r => gX10_say 79 [some (.inr (some 19)), some (.inl xs0), none, none] (r.1.toList ++ []) r.2) else gX10_say 260 [some (.inr (some 19)), some (.inl xs0), none, none] [] M)) := by
  have h : ∀ k : KT, mgs (zlook tX10_say) nX10_say k 9 60 [some (.inr (some 19)), some (.inl x1), none, none] [.inl xs0] M = (if (M 19 16) ≤ 0 then k 260 [some (.inr (some 19)), some (.inl xs0), none, none] [] M else (if (M 19 27) = 0 then (mX10_readAll [.inr (some 19)] M).bind (fun r => k 79 [some (.inr (some 19)), some (.inl xs0), none, none] (r.1.toList ++ []) r.2) else k 260 [some (.inr (some 19)), some (.inl xs0), none, none] [] M)) := fun k => rfl
  have h := h gX10_say
  rw [mgs_gX10_say] at h
  exact h
set_option maxRecDepth 100000 in
theorem eX10_say_79 (M : MM) (x1 : Int32) : gX10_say 79 [some (.inr (some 19)), some (.inl x1), none, none] [] M = (if (1000000 : Int32) ≤ (M 37 0) then gX10_say 260 [some (.inr (some 19)), some (.inl x1), none, none] [] M else (if (M 19 29) < 0 then gX10_say 142 [some (.inr (some 19)), some (.inl x1), none, none] [] M else (if (M 19 29) < 0 ∨ 12 ≤ (M 19 29).toNatClampNeg then none else (if (M 21 (M 19 29).toNatClampNeg) ≤ 0 then gX10_say 142 [some (.inr (some 19)), some (.inl x1), none, none] [] M else (if (1000000 : Int32) ≤ (M 37 1) then gX10_say 142 [some (.inr (some 19)), some (.inl x1), none, none] [] M else (if (M 35 0) = 0 then (if (M 35 1) = 0 then gX10_say 143 [some (.inr (some 19)), some (.inl x1), none, none] [.inl (1 : Int32)] M else gX10_say 142 [some (.inr (some 19)), some (.inl x1), none, none] [] M) else gX10_say 142 [some (.inr (some 19)), some (.inl x1), none, none] [] M)))))) := by
  have h : ∀ k : KT, mgs (zlook tX10_say) nX10_say k 33 79 [some (.inr (some 19)), some (.inl x1), none, none] [] M = (if (1000000 : Int32) ≤ (M 37 0) then k 260 [some (.inr (some 19)), some (.inl x1), none, none] [] M else (if (M 19 29) < 0 then k 142 [some (.inr (some 19)), some (.inl x1), none, none] [] M else (if (M 19 29) < 0 ∨ 12 ≤ (M 19 29).toNatClampNeg then none else (if (M 21 (M 19 29).toNatClampNeg) ≤ 0 then k 142 [some (.inr (some 19)), some (.inl x1), none, none] [] M else (if (1000000 : Int32) ≤ (M 37 1) then k 142 [some (.inr (some 19)), some (.inl x1), none, none] [] M else (if (M 35 0) = 0 then (if (M 35 1) = 0 then k 143 [some (.inr (some 19)), some (.inl x1), none, none] [.inl (1 : Int32)] M else k 142 [some (.inr (some 19)), some (.inl x1), none, none] [] M) else k 142 [some (.inr (some 19)), some (.inl x1), none, none] [] M)))))) := fun k => rfl
  have h := h gX10_say
  rw [mgs_gX10_say] at h
  exact h
set_option maxRecDepth 100000 in
theorem eX10_say_142 (M : MM) (x1 : Int32) : gX10_say 142 [some (.inr (some 19)), some (.inl x1), none, none] [] M = gX10_say 143 [some (.inr (some 19)), some (.inl x1), none, none] [.inl (0 : Int32)] M := by
  have h : ∀ k : KT, mgs (zlook tX10_say) nX10_say k 1 142 [some (.inr (some 19)), some (.inl x1), none, none] [] M = k 143 [some (.inr (some 19)), some (.inl x1), none, none] [.inl (0 : Int32)] M := fun k => rfl
  have h := h gX10_say
  rw [mgs_gX10_say] at h
  exact h
set_option maxRecDepth 100000 in
theorem eX10_say_143 (M : MM) (x1 : Int32) (xs0 : Int32) : gX10_say 143 [some (.inr (some 19)), some (.inl x1), none, none] [.inl xs0] M = (if xs0 = 0 then gX10_say 181 [some (.inr (some 19)), some (.inl x1), some (.inl xs0), none] [.inl (8 : Int32), .inr (some 43)] M else (if ((M 37 0) + (M 19 14)) ≤ (M 37 1) then gX10_say 181 [some (.inr (some 19)), some (.inl x1), some (.inl xs0), none] [.inl (8 : Int32), .inr (some 43)] M else (mX10_unlike [.inr (some 19)] M).bind (fun r => gX10_say 178 [some (.inr (some 19)), some (.inl x1), some (.inl xs0), none] (r.1.toList ++ [.inl (8 : Int32), .inr (some 43)]) r.2))) := by
  have h : ∀ k : KT, mgs (zlook tX10_say) nX10_say k 20 143 [some (.inr (some 19)), some (.inl x1), none, none] [.inl xs0] M = (if xs0 = 0 then k 181 [some (.inr (some 19)), some (.inl x1), some (.inl xs0), none] [.inl (8 : Int32), .inr (some 43)] M else (if ((M 37 0) + (M 19 14)) ≤ (M 37 1) then k 181 [some (.inr (some 19)), some (.inl x1), some (.inl xs0), none] [.inl (8 : Int32), .inr (some 43)] M else (mX10_unlike [.inr (some 19)] M).bind (fun r => k 178 [some (.inr (some 19)), some (.inl x1), some (.inl xs0), none] (r.1.toList ++ [.inl (8 : Int32), .inr (some 43)]) r.2))) := fun k => rfl
  have h := h gX10_say
  rw [mgs_gX10_say] at h
  exact h
set_option maxRecDepth 100000 in
theorem eX10_say_178 (M : MM) (x1 : Int32) (x2 : Int32) (xs0 : Int32) (xs1 : Int32) : gX10_say 178 [some (.inr (some 19)), some (.inl x1), some (.inl x2), none] [.inl xs0, .inl xs1, .inr (some 43)] M = gX10_say 182 [some (.inr (some 19)), some (.inl x1), some (.inl x2), none] [.inl xs0, .inl xs1, .inr (some 43)] M := by
  have h : ∀ k : KT, mgs (zlook tX10_say) nX10_say k 1 178 [some (.inr (some 19)), some (.inl x1), some (.inl x2), none] [.inl xs0, .inl xs1, .inr (some 43)] M = k 182 [some (.inr (some 19)), some (.inl x1), some (.inl x2), none] [.inl xs0, .inl xs1, .inr (some 43)] M := fun k => rfl
  have h := h gX10_say
  rw [mgs_gX10_say] at h
  exact h
set_option maxRecDepth 100000 in
theorem eX10_say_181 (M : MM) (x1 : Int32) (x2 : Int32) (xs0 : Int32) : gX10_say 181 [some (.inr (some 19)), some (.inl x1), some (.inl x2), none] [.inl xs0, .inr (some 43)] M = gX10_say 182 [some (.inr (some 19)), some (.inl x1), some (.inl x2), none] [.inl (0 : Int32), .inl xs0, .inr (some 43)] M := by
  have h : ∀ k : KT, mgs (zlook tX10_say) nX10_say k 1 181 [some (.inr (some 19)), some (.inl x1), some (.inl x2), none] [.inl xs0, .inr (some 43)] M = k 182 [some (.inr (some 19)), some (.inl x1), some (.inl x2), none] [.inl (0 : Int32), .inl xs0, .inr (some 43)] M := fun k => rfl
  have h := h gX10_say
  rw [mgs_gX10_say] at h
  exact h
set_option maxRecDepth 100000 in
theorem eX10_say_182 (M : MM) (x1 : Int32) (x2 : Int32) (xs0 : Int32) (xs1 : Int32) : gX10_say 182 [some (.inr (some 19)), some (.inl x1), some (.inl x2), none] [.inl xs0, .inl xs1, .inr (some 43)] M = (if xs1 < 0 ∨ 9 ≤ xs1.toNatClampNeg then none else gX10_say 185 [some (.inr (some 19)), some (.inl x1), some (.inl x2), some (.inl (0 : Int32))] [] (st2 M 43 xs1.toNatClampNeg xs0)) := by
  have h : ∀ k : KT, mgs (zlook tX10_say) nX10_say k 3 182 [some (.inr (some 19)), some (.inl x1), some (.inl x2), none] [.inl xs0, .inl xs1, .inr (some 43)] M = (if xs1 < 0 ∨ 9 ≤ xs1.toNatClampNeg then none else k 185 [some (.inr (some 19)), some (.inl x1), some (.inl x2), some (.inl (0 : Int32))] [] (st2 M 43 xs1.toNatClampNeg xs0)) := fun k => rfl
  have h := h gX10_say
  rw [mgs_gX10_say] at h
  exact h
set_option maxRecDepth 100000 in
theorem eX10_say_185 (M : MM) (x1 : Int32) (x2 : Int32) (x3 : Int32) : gX10_say 185 [some (.inr (some 19)), some (.inl x1), some (.inl x2), some (.inl x3)] [] M = (if (2 : Int32) ≤ x3 then gX10_say 255 [some (.inr (some 19)), some (.inl x1), some (.inl x2), some (.inl x3)] [] M else (if x3 < 0 ∨ 2 ≤ x3.toNatClampNeg then none else (if (1000000 : Int32) ≤ (M 37 x3.toNatClampNeg) then gX10_say 255 [some (.inr (some 19)), some (.inl x1), some (.inl x2), some (.inl x3)] [] M else (if x3 < 0 ∨ 2 ≤ x3.toNatClampNeg then none else (if (((3 : Int32) * x3) + (1 : Int32)) < 0 ∨ 9 ≤ (((3 : Int32) * x3) + (1 : Int32)).toNatClampNeg then none else (if x3 < 0 ∨ 2 ≤ x3.toNatClampNeg then none else (if (((3 : Int32) * x3) + (2 : Int32)) < 0 ∨ 9 ≤ (((3 : Int32) * x3) + (2 : Int32)).toNatClampNeg then none else (if x3 < 0 ∨ 2 ≤ x3.toNatClampNeg then none else (if (((3 : Int32) * x3) + (3 : Int32)) < 0 ∨ 9 ≤ (((3 : Int32) * x3) + (3 : Int32)).toNatClampNeg then none else gX10_say 185 [some (.inr (some 19)), some (.inl x1), some (.inl x2), some (.inl (x3 + (1 : Int32)))] [] (st2 (st2 (st2 M 43 (((3 : Int32) * x3) + (1 : Int32)).toNatClampNeg (M 35 x3.toNatClampNeg)) 43 (((3 : Int32) * x3) + (2 : Int32)).toNatClampNeg ((st2 M 43 (((3 : Int32) * x3) + (1 : Int32)).toNatClampNeg (M 35 x3.toNatClampNeg)) 36 x3.toNatClampNeg)) 43 (((3 : Int32) * x3) + (3 : Int32)).toNatClampNeg ((st2 (st2 M 43 (((3 : Int32) * x3) + (1 : Int32)).toNatClampNeg (M 35 x3.toNatClampNeg)) 43 (((3 : Int32) * x3) + (2 : Int32)).toNatClampNeg ((st2 M 43 (((3 : Int32) * x3) + (1 : Int32)).toNatClampNeg (M 35 x3.toNatClampNeg)) 36 x3.toNatClampNeg)) 37 x3.toNatClampNeg))))))))))) := by
  have h : ∀ k : KT, mgs (zlook tX10_say) nX10_say k 47 185 [some (.inr (some 19)), some (.inl x1), some (.inl x2), some (.inl x3)] [] M = (if (2 : Int32) ≤ x3 then k 255 [some (.inr (some 19)), some (.inl x1), some (.inl x2), some (.inl x3)] [] M else (if x3 < 0 ∨ 2 ≤ x3.toNatClampNeg then none else (if (1000000 : Int32) ≤ (M 37 x3.toNatClampNeg) then k 255 [some (.inr (some 19)), some (.inl x1), some (.inl x2), some (.inl x3)] [] M else (if x3 < 0 ∨ 2 ≤ x3.toNatClampNeg then none else (if (((3 : Int32) * x3) + (1 : Int32)) < 0 ∨ 9 ≤ (((3 : Int32) * x3) + (1 : Int32)).toNatClampNeg then none else (if x3 < 0 ∨ 2 ≤ x3.toNatClampNeg then none else (if (((3 : Int32) * x3) + (2 : Int32)) < 0 ∨ 9 ≤ (((3 : Int32) * x3) + (2 : Int32)).toNatClampNeg then none else (if x3 < 0 ∨ 2 ≤ x3.toNatClampNeg then none else (if (((3 : Int32) * x3) + (3 : Int32)) < 0 ∨ 9 ≤ (((3 : Int32) * x3) + (3 : Int32)).toNatClampNeg then none else k 185 [some (.inr (some 19)), some (.inl x1), some (.inl x2), some (.inl (x3 + (1 : Int32)))] [] (st2 (st2 (st2 M 43 (((3 : Int32) * x3) + (1 : Int32)).toNatClampNeg (M 35 x3.toNatClampNeg)) 43 (((3 : Int32) * x3) + (2 : Int32)).toNatClampNeg ((st2 M 43 (((3 : Int32) * x3) + (1 : Int32)).toNatClampNeg (M 35 x3.toNatClampNeg)) 36 x3.toNatClampNeg)) 43 (((3 : Int32) * x3) + (3 : Int32)).toNatClampNeg ((st2 (st2 M 43 (((3 : Int32) * x3) + (1 : Int32)).toNatClampNeg (M 35 x3.toNatClampNeg)) 43 (((3 : Int32) * x3) + (2 : Int32)).toNatClampNeg ((st2 M 43 (((3 : Int32) * x3) + (1 : Int32)).toNatClampNeg (M 35 x3.toNatClampNeg)) 36 x3.toNatClampNeg)) 37 x3.toNatClampNeg))))))))))) := fun k => rfl
  have h := h gX10_say
  rw [mgs_gX10_say] at h
  exact h
set_option maxRecDepth 100000 in
theorem eX10_say_255 (M : MM) (x1 : Int32) (x2 : Int32) (x3 : Int32) : gX10_say 255 [some (.inr (some 19)), some (.inl x1), some (.inl x2), some (.inl x3)] [] M = (mX10_act [.inr (some 19)] M).bind (fun r => gX10_say 259 [some (.inr (some 19)), some (.inl x1), some (.inl x2), some (.inl x3)] (r.1.toList ++ []) r.2) := by
  have h : ∀ k : KT, mgs (zlook tX10_say) nX10_say k 2 255 [some (.inr (some 19)), some (.inl x1), some (.inl x2), some (.inl x3)] [] M = (mX10_act [.inr (some 19)] M).bind (fun r => k 259 [some (.inr (some 19)), some (.inl x1), some (.inl x2), some (.inl x3)] (r.1.toList ++ []) r.2) := fun k => rfl
  have h := h gX10_say
  rw [mgs_gX10_say] at h
  exact h
set_option maxRecDepth 100000 in
theorem eX10_say_259 (M : MM) (x1 : Int32) (x2 : Int32) (x3 : Int32) (xs0 : Int32) : gX10_say 259 [some (.inr (some 19)), some (.inl x1), some (.inl x2), some (.inl x3)] [.inl xs0] M = gX10_say 260 [some (.inr (some 19)), some (.inl xs0), some (.inl x2), some (.inl x3)] [] M := by
  have h : ∀ k : KT, mgs (zlook tX10_say) nX10_say k 1 259 [some (.inr (some 19)), some (.inl x1), some (.inl x2), some (.inl x3)] [.inl xs0] M = k 260 [some (.inr (some 19)), some (.inl xs0), some (.inl x2), some (.inl x3)] [] M := fun k => rfl
  have h := h gX10_say
  rw [mgs_gX10_say] at h
  exact h
set_option maxRecDepth 100000 in
theorem eX10_say_260 (M : MM) (x1 : Int32) (d2 : Option AV) (d3 : Option AV) : gX10_say 260 [some (.inr (some 19)), some (.inl x1), d2, d3] [] M = (if x1 ≤ (1 : Int32) then (if ((st2 (st2 (st2 M 19 16 (0 : Int32)) 43 0 x1) 43 7 ((st2 (st2 M 19 16 (0 : Int32)) 43 0 x1) 19 34)) 19 33) = (9 : Int32) then some ((some (.inl x1)), (st2 (st2 (st2 (st2 M 19 16 (0 : Int32)) 43 0 x1) 43 7 ((st2 (st2 M 19 16 (0 : Int32)) 43 0 x1) 19 34)) 19 33 (9 : Int32))) else some ((some (.inl x1)), (st2 (st2 (st2 (st2 M 19 16 (0 : Int32)) 43 0 x1) 43 7 ((st2 (st2 M 19 16 (0 : Int32)) 43 0 x1) 19 34)) 19 33 (((st2 (st2 (st2 M 19 16 (0 : Int32)) 43 0 x1) 43 7 ((st2 (st2 M 19 16 (0 : Int32)) 43 0 x1) 19 34)) 19 33) + (1 : Int32))))) else some ((some (.inl x1)), (st2 (st2 (st2 (st2 M 19 16 (0 : Int32)) 43 0 x1) 43 7 ((st2 (st2 M 19 16 (0 : Int32)) 43 0 x1) 19 34)) 19 33 (0 : Int32)))) := by
  have h : ∀ k : KT, mgs (zlook tX10_say) nX10_say k 29 260 [some (.inr (some 19)), some (.inl x1), d2, d3] [] M = (if x1 ≤ (1 : Int32) then (if ((st2 (st2 (st2 M 19 16 (0 : Int32)) 43 0 x1) 43 7 ((st2 (st2 M 19 16 (0 : Int32)) 43 0 x1) 19 34)) 19 33) = (9 : Int32) then some ((some (.inl x1)), (st2 (st2 (st2 (st2 M 19 16 (0 : Int32)) 43 0 x1) 43 7 ((st2 (st2 M 19 16 (0 : Int32)) 43 0 x1) 19 34)) 19 33 (9 : Int32))) else some ((some (.inl x1)), (st2 (st2 (st2 (st2 M 19 16 (0 : Int32)) 43 0 x1) 43 7 ((st2 (st2 M 19 16 (0 : Int32)) 43 0 x1) 19 34)) 19 33 (((st2 (st2 (st2 M 19 16 (0 : Int32)) 43 0 x1) 43 7 ((st2 (st2 M 19 16 (0 : Int32)) 43 0 x1) 19 34)) 19 33) + (1 : Int32))))) else some ((some (.inl x1)), (st2 (st2 (st2 (st2 M 19 16 (0 : Int32)) 43 0 x1) 43 7 ((st2 (st2 M 19 16 (0 : Int32)) 43 0 x1) 19 34)) 19 33 (0 : Int32)))) := fun k => rfl
  have h := h gX10_say
  rw [mgs_gX10_say] at h
  exact h
theorem iX10_say (M : MM) : mX10_say [.inr (some 19)] M = gX10_say 0 [some (.inr (some 19)), none, none, none] [] M := rfl
noncomputable def gX10_goOn : KT := mev (zlook tX10_goOn)
theorem ctX10_goOn : ∀ q ∈ tX10_goOn, Cont q.2 := by
  refine ccons (cont_aload _ _) ?_
  refine ccons (cont_getI _ _ _) ?_
  refine ccons (cont_if_ne _ _) ?_
  refine ccons (cont_push _ _) ?_
  refine ccons (cont_zret) ?_
  refine ccons (cont_aload _ _) ?_
  refine ccons (cont_push _ _) ?_
  refine ccons (cont_putZ _ _ _) ?_
  refine ccons (cont_push _ _) ?_
  refine ccons (cont_zret) ?_
  exact cnil
theorem mgs_gX10_goOn (cut : List Nat) (n : Nat) : mgs (zlook tX10_goOn) cut gX10_goOn n = gX10_goOn := mgs_mev (ctab ctX10_goOn) cut n
def nX10_goOn : List Nat := [0]
set_option maxRecDepth 100000 in
theorem eX10_goOn_0 (M : MM) : gX10_goOn 0 [some (.inr (some 19))] [] M = (if (M 19 27) = 0 then some ((some (.inl (0 : Int32))), M) else some ((some (.inl (1 : Int32))), (st2 M 19 27 (0 : Int32)))) := by
  have h : ∀ k : KT, mgs (zlook tX10_goOn) nX10_goOn k 8 0 [some (.inr (some 19))] [] M = (if (M 19 27) = 0 then some ((some (.inl (0 : Int32))), M) else some ((some (.inl (1 : Int32))), (st2 M 19 27 (0 : Int32)))) := fun k => rfl
  have h := h gX10_goOn
  rw [mgs_gX10_goOn] at h
  exact h
theorem iX10_goOn (M : MM) : mX10_goOn [.inr (some 19)] M = gX10_goOn 0 [some (.inr (some 19))] [] M := rfl
noncomputable def gX10_told : KT := mev (zlook tX10_told)
theorem ctX10_told : ∀ q ∈ tX10_told, Cont q.2 := by
  refine ccons (cont_aload _ _) ?_
  refine ccons (cont_getI _ _ _) ?_
  refine ccons (cont_if_eq _ _) ?_
  refine ccons (cont_iload _ _) ?_
  refine ccons (cont_push _ _) ?_
  refine ccons (cont_push _ _) ?_
  refine ccons (cont_callS _ _ _) ?_
  refine ccons (cont_if_eq _ _) ?_
  refine ccons (cont_aload _ _) ?_
  refine ccons (cont_getR _ _ _) ?_
  refine ccons (cont_iload _ _) ?_
  refine ccons (cont_ald _ _) ?_
  refine ccons (cont_goto _) ?_
  refine ccons (cont_push _ _) ?_
  refine ccons (cont_iret) ?_
  exact cnil
theorem mgs_gX10_told (cut : List Nat) (n : Nat) : mgs (zlook tX10_told) cut gX10_told n = gX10_told := mgs_mev (ctab ctX10_told) cut n
def nX10_told : List Nat := [0, 14]
set_option maxRecDepth 100000 in
theorem eX10_told_0 (M : MM) (x1 : Int32) : gX10_told 0 [some (.inr (some 19)), some (.inl x1)] [] M = (if (M 19 26) = 0 then some ((some (.inl (-1 : Int32))), M) else (mX10_isIn [.inl x1, .inl (0 : Int32), .inl (8 : Int32)] M).bind (fun r => gX10_told 14 [some (.inr (some 19)), some (.inl x1)] (r.1.toList ++ []) r.2)) := by
  have h : ∀ k : KT, mgs (zlook tX10_told) nX10_told k 7 0 [some (.inr (some 19)), some (.inl x1)] [] M = (if (M 19 26) = 0 then some ((some (.inl (-1 : Int32))), M) else (mX10_isIn [.inl x1, .inl (0 : Int32), .inl (8 : Int32)] M).bind (fun r => k 14 [some (.inr (some 19)), some (.inl x1)] (r.1.toList ++ []) r.2)) := fun k => rfl
  have h := h gX10_told
  rw [mgs_gX10_told] at h
  exact h
set_option maxRecDepth 100000 in
theorem eX10_told_14 (M : MM) (x1 : Int32) (xs0 : Int32) : gX10_told 14 [some (.inr (some 19)), some (.inl x1)] [.inl xs0] M = (if xs0 = 0 then some ((some (.inl (-1 : Int32))), M) else (if x1 < 0 ∨ 9 ≤ x1.toNatClampNeg then none else some ((some (.inl (M 43 x1.toNatClampNeg))), M))) := by
  have h : ∀ k : KT, mgs (zlook tX10_told) nX10_told k 7 14 [some (.inr (some 19)), some (.inl x1)] [.inl xs0] M = (if xs0 = 0 then some ((some (.inl (-1 : Int32))), M) else (if x1 < 0 ∨ 9 ≤ x1.toNatClampNeg then none else some ((some (.inl (M 43 x1.toNatClampNeg))), M))) := fun k => rfl
  have h := h gX10_told
  rw [mgs_gX10_told] at h
  exact h
theorem iX10_told (M : MM) (x1 : Int32) : mX10_told [.inr (some 19), .inl x1] M = gX10_told 0 [some (.inr (some 19)), some (.inl x1)] [] M := rfl
noncomputable def gX10_about : KT := mev (zlook tX10_about)
theorem ctX10_about : ∀ q ∈ tX10_about, Cont q.2 := by
  refine ccons (cont_push _ _) ?_
  refine ccons (cont_istore _ _) ?_
  refine ccons (cont_push _ _) ?_
  refine ccons (cont_istore _ _) ?_
  refine ccons (cont_push _ _) ?_
  refine ccons (cont_istore _ _) ?_
  refine ccons (cont_iload _ _) ?_
  refine ccons (cont_aload _ _) ?_
  refine ccons (cont_getI _ _ _) ?_
  refine ccons (cont_c_ge _ _) ?_
  refine ccons (cont_iload _ _) ?_
  refine ccons (cont_aload _ _) ?_
  refine ccons (cont_iload _ _) ?_
  refine ccons (cont_callV _ _ _ _) ?_
  refine ccons (cont_if_eq _ _) ?_
  refine ccons (cont_aload _ _) ?_
  refine ccons (cont_getR _ _ _) ?_
  refine ccons (cont_iload _ _) ?_
  refine ccons (cont_ald _ _) ?_
  refine ccons (cont_if_ge _ _) ?_
  refine ccons (cont_push _ _) ?_
  refine ccons (cont_goto _) ?_
  refine ccons (cont_push _ _) ?_
  refine ccons (cont_bin _ _) ?_
  refine ccons (cont_istore _ _) ?_
  refine ccons (cont_iload _ _) ?_
  refine ccons (cont_aload _ _) ?_
  refine ccons (cont_getR _ _ _) ?_
  refine ccons (cont_iload _ _) ?_
  refine ccons (cont_ald _ _) ?_
  refine ccons (cont_if_lt _ _) ?_
  refine ccons (cont_aload _ _) ?_
  refine ccons (cont_getR _ _ _) ?_
  refine ccons (cont_iload _ _) ?_
  refine ccons (cont_ald _ _) ?_
  refine ccons (cont_if_ne _ _) ?_
  refine ccons (cont_push _ _) ?_
  refine ccons (cont_goto _) ?_
  refine ccons (cont_push _ _) ?_
  refine ccons (cont_bin _ _) ?_
  refine ccons (cont_istore _ _) ?_
  refine ccons (cont_iinc _ _ _) ?_
  refine ccons (cont_goto _) ?_
  refine ccons (cont_iload _ _) ?_
  refine ccons (cont_switch _ _) ?_
  refine ccons (cont_aload _ _) ?_
  refine ccons (cont_getI _ _ _) ?_
  refine ccons (cont_iret) ?_
  refine ccons (cont_aload _ _) ?_
  refine ccons (cont_getI _ _ _) ?_
  refine ccons (cont_iret) ?_
  refine ccons (cont_aload _ _) ?_
  refine ccons (cont_getI _ _ _) ?_
  refine ccons (cont_iret) ?_
  refine ccons (cont_iload _ _) ?_
  refine ccons (cont_iret) ?_
  refine ccons (cont_aload _ _) ?_
  refine ccons (cont_getI _ _ _) ?_
  refine ccons (cont_if_eq _ _) ?_
  refine ccons (cont_push _ _) ?_
  refine ccons (cont_goto _) ?_
  refine ccons (cont_push _ _) ?_
  refine ccons (cont_iret) ?_
  refine ccons (cont_aload _ _) ?_
  refine ccons (cont_getI _ _ _) ?_
  refine ccons (cont_iret) ?_
  refine ccons (cont_aload _ _) ?_
  refine ccons (cont_getI _ _ _) ?_
  refine ccons (cont_iret) ?_
  refine ccons (cont_iload _ _) ?_
  refine ccons (cont_iret) ?_
  refine ccons (cont_aload _ _) ?_
  refine ccons (cont_getI _ _ _) ?_
  refine ccons (cont_iret) ?_
  refine ccons (cont_push _ _) ?_
  refine ccons (cont_iret) ?_
  exact cnil
theorem mgs_gX10_about (cut : List Nat) (n : Nat) : mgs (zlook tX10_about) cut gX10_about n = gX10_about := mgs_mev (ctab ctX10_about) cut n
def nX10_about : List Nat := [0, 7, 23, 40, 41]
set_option maxRecDepth 100000 in
theorem eX10_about_0 (M : MM) (x1 : Int32) : gX10_about 0 [some (.inr (some 19)), some (.inl x1), none, none, none] [] M = gX10_about 7 [some (.inr (some 19)), some (.inl x1), some (.inl (0 : Int32)), some (.inl (0 : Int32)), some (.inl (0 : Int32))] [] M := by
  have h : ∀ k : KT, mgs (zlook tX10_about) nX10_about k 6 0 [some (.inr (some 19)), some (.inl x1), none, none, none] [] M = k 7 [some (.inr (some 19)), some (.inl x1), some (.inl (0 : Int32)), some (.inl (0 : Int32)), some (.inl (0 : Int32))] [] M := fun k => rfl
  have h := h gX10_about
  rw [mgs_gX10_about] at h
  exact h
set_option maxRecDepth 100000 in
theorem eX10_about_7 (M : MM) (x1 : Int32) (x2 : Int32) (x3 : Int32) (x4 : Int32) : gX10_about 7 [some (.inr (some 19)), some (.inl x1), some (.inl x2), some (.inl x3), some (.inl x4)] [] M = (if (M 19 0) ≤ x4 then (if x1 = (0 : Int32) then some ((some (.inl (M 19 29))), M) else (if x1 = (1 : Int32) then some ((some (.inl (M 19 30))), M) else (if x1 = (2 : Int32) then some ((some (.inl (M 19 32))), M) else (if x1 = (3 : Int32) then some ((some (.inl x2)), M) else (if x1 = (4 : Int32) then (if (M 19 27) = 0 then some ((some (.inl (0 : Int32))), M) else some ((some (.inl (1 : Int32))), M)) else (if x1 = (5 : Int32) then some ((some (.inl (M 19 33))), M) else (if x1 = (6 : Int32) then some ((some (.inl (M 19 0))), M) else (if x1 = (7 : Int32) then some ((some (.inl x3)), M) else (if x1 = (8 : Int32) then some ((some (.inl (M 19 16))), M) else some ((some (.inl (-1 : Int32))), M)))))))))) else (mX10_isAsked [.inr (some 19), .inl x4] M).bind (fun r => gX10_about 23 [some (.inr (some 19)), some (.inl x1), some (.inl x2), some (.inl x3), some (.inl x4)] (r.1.toList ++ [.inl x2]) r.2)) := by
  have h : ∀ k : KT, mgs (zlook tX10_about) nX10_about k 12 7 [some (.inr (some 19)), some (.inl x1), some (.inl x2), some (.inl x3), some (.inl x4)] [] M = (if (M 19 0) ≤ x4 then (if x1 = (0 : Int32) then some ((some (.inl (M 19 29))), M) else (if x1 = (1 : Int32) then some ((some (.inl (M 19 30))), M) else (if x1 = (2 : Int32) then some ((some (.inl (M 19 32))), M) else (if x1 = (3 : Int32) then some ((some (.inl x2)), M) else (if x1 = (4 : Int32) then (if (M 19 27) = 0 then some ((some (.inl (0 : Int32))), M) else some ((some (.inl (1 : Int32))), M)) else (if x1 = (5 : Int32) then some ((some (.inl (M 19 33))), M) else (if x1 = (6 : Int32) then some ((some (.inl (M 19 0))), M) else (if x1 = (7 : Int32) then some ((some (.inl x3)), M) else (if x1 = (8 : Int32) then some ((some (.inl (M 19 16))), M) else some ((some (.inl (-1 : Int32))), M)))))))))) else (mX10_isAsked [.inr (some 19), .inl x4] M).bind (fun r => k 23 [some (.inr (some 19)), some (.inl x1), some (.inl x2), some (.inl x3), some (.inl x4)] (r.1.toList ++ [.inl x2]) r.2)) := fun k => rfl
  have h := h gX10_about
  rw [mgs_gX10_about] at h
  exact h
set_option maxRecDepth 100000 in
theorem eX10_about_23 (M : MM) (x1 : Int32) (x2 : Int32) (x3 : Int32) (x4 : Int32) (xs0 : Int32) (xs1 : Int32) : gX10_about 23 [some (.inr (some 19)), some (.inl x1), some (.inl x2), some (.inl x3), some (.inl x4)] [.inl xs0, .inl xs1] M = (if xs0 = 0 then gX10_about 40 [some (.inr (some 19)), some (.inl x1), some (.inl x2), some (.inl x3), some (.inl x4)] [.inl xs1] M else (if x4 < 0 ∨ 12 ≤ x4.toNatClampNeg then none else (if 0 ≤ (M 28 x4.toNatClampNeg) then gX10_about 40 [some (.inr (some 19)), some (.inl x1), some (.inl x2), some (.inl x3), some (.inl x4)] [.inl xs1] M else gX10_about 41 [some (.inr (some 19)), some (.inl x1), some (.inl x2), some (.inl x3), some (.inl x4)] [.inl (1 : Int32), .inl xs1] M))) := by
  have h : ∀ k : KT, mgs (zlook tX10_about) nX10_about k 8 23 [some (.inr (some 19)), some (.inl x1), some (.inl x2), some (.inl x3), some (.inl x4)] [.inl xs0, .inl xs1] M = (if xs0 = 0 then k 40 [some (.inr (some 19)), some (.inl x1), some (.inl x2), some (.inl x3), some (.inl x4)] [.inl xs1] M else (if x4 < 0 ∨ 12 ≤ x4.toNatClampNeg then none else (if 0 ≤ (M 28 x4.toNatClampNeg) then k 40 [some (.inr (some 19)), some (.inl x1), some (.inl x2), some (.inl x3), some (.inl x4)] [.inl xs1] M else k 41 [some (.inr (some 19)), some (.inl x1), some (.inl x2), some (.inl x3), some (.inl x4)] [.inl (1 : Int32), .inl xs1] M))) := fun k => rfl
  have h := h gX10_about
  rw [mgs_gX10_about] at h
  exact h
set_option maxRecDepth 100000 in
theorem eX10_about_40 (M : MM) (x1 : Int32) (x2 : Int32) (x3 : Int32) (x4 : Int32) (xs0 : Int32) : gX10_about 40 [some (.inr (some 19)), some (.inl x1), some (.inl x2), some (.inl x3), some (.inl x4)] [.inl xs0] M = gX10_about 41 [some (.inr (some 19)), some (.inl x1), some (.inl x2), some (.inl x3), some (.inl x4)] [.inl (0 : Int32), .inl xs0] M := by
  have h : ∀ k : KT, mgs (zlook tX10_about) nX10_about k 1 40 [some (.inr (some 19)), some (.inl x1), some (.inl x2), some (.inl x3), some (.inl x4)] [.inl xs0] M = k 41 [some (.inr (some 19)), some (.inl x1), some (.inl x2), some (.inl x3), some (.inl x4)] [.inl (0 : Int32), .inl xs0] M := fun k => rfl
  have h := h gX10_about
  rw [mgs_gX10_about] at h
  exact h
set_option maxRecDepth 100000 in
theorem eX10_about_41 (M : MM) (x1 : Int32) (x2 : Int32) (x3 : Int32) (x4 : Int32) (xs0 : Int32) (xs1 : Int32) : gX10_about 41 [some (.inr (some 19)), some (.inl x1), some (.inl x2), some (.inl x3), some (.inl x4)] [.inl xs0, .inl xs1] M = (if x4 < 0 ∨ 12 ≤ x4.toNatClampNeg then none else (if (M 28 x4.toNatClampNeg) < 0 then gX10_about 7 [some (.inr (some 19)), some (.inl x1), some (.inl (xs1 + xs0)), some (.inl (x3 + (0 : Int32))), some (.inl (x4 + (1 : Int32)))] [] M else (if x4 < 0 ∨ 12 ≤ x4.toNatClampNeg then none else (if (M 29 x4.toNatClampNeg) = 0 then gX10_about 7 [some (.inr (some 19)), some (.inl x1), some (.inl (xs1 + xs0)), some (.inl (x3 + (1 : Int32))), some (.inl (x4 + (1 : Int32)))] [] M else gX10_about 7 [some (.inr (some 19)), some (.inl x1), some (.inl (xs1 + xs0)), some (.inl (x3 + (0 : Int32))), some (.inl (x4 + (1 : Int32)))] [] M)))) := by
  have h : ∀ k : KT, mgs (zlook tX10_about) nX10_about k 19 41 [some (.inr (some 19)), some (.inl x1), some (.inl x2), some (.inl x3), some (.inl x4)] [.inl xs0, .inl xs1] M = (if x4 < 0 ∨ 12 ≤ x4.toNatClampNeg then none else (if (M 28 x4.toNatClampNeg) < 0 then k 7 [some (.inr (some 19)), some (.inl x1), some (.inl (xs1 + xs0)), some (.inl (x3 + (0 : Int32))), some (.inl (x4 + (1 : Int32)))] [] M else (if x4 < 0 ∨ 12 ≤ x4.toNatClampNeg then none else (if (M 29 x4.toNatClampNeg) = 0 then k 7 [some (.inr (some 19)), some (.inl x1), some (.inl (xs1 + xs0)), some (.inl (x3 + (1 : Int32))), some (.inl (x4 + (1 : Int32)))] [] M else k 7 [some (.inr (some 19)), some (.inl x1), some (.inl (xs1 + xs0)), some (.inl (x3 + (0 : Int32))), some (.inl (x4 + (1 : Int32)))] [] M)))) := fun k => rfl
  have h := h gX10_about
  rw [mgs_gX10_about] at h
  exact h
theorem iX10_about (M : MM) (x1 : Int32) : mX10_about [.inr (some 19), .inl x1] M = gX10_about 0 [some (.inr (some 19)), some (.inl x1), none, none, none] [] M := rfl
noncomputable def gX10_field : KT := mev (zlook tX10_field)
theorem ctX10_field : ∀ q ∈ tX10_field, Cont q.2 := by
  refine ccons (cont_aload _ _) ?_
  refine ccons (cont_iload _ _) ?_
  refine ccons (cont_callV _ _ _ _) ?_
  refine ccons (cont_if_ne _ _) ?_
  refine ccons (cont_push _ _) ?_
  refine ccons (cont_iret) ?_
  refine ccons (cont_iload _ _) ?_
  refine ccons (cont_switch _ _) ?_
  refine ccons (cont_aload _ _) ?_
  refine ccons (cont_getR _ _ _) ?_
  refine ccons (cont_iload _ _) ?_
  refine ccons (cont_ald _ _) ?_
  refine ccons (cont_iret) ?_
  refine ccons (cont_aload _ _) ?_
  refine ccons (cont_getR _ _ _) ?_
  refine ccons (cont_iload _ _) ?_
  refine ccons (cont_ald _ _) ?_
  refine ccons (cont_iret) ?_
  refine ccons (cont_aload _ _) ?_
  refine ccons (cont_getR _ _ _) ?_
  refine ccons (cont_iload _ _) ?_
  refine ccons (cont_ald _ _) ?_
  refine ccons (cont_iret) ?_
  refine ccons (cont_aload _ _) ?_
  refine ccons (cont_iload _ _) ?_
  refine ccons (cont_callV _ _ _ _) ?_
  refine ccons (cont_if_eq _ _) ?_
  refine ccons (cont_push _ _) ?_
  refine ccons (cont_goto _) ?_
  refine ccons (cont_push _ _) ?_
  refine ccons (cont_iret) ?_
  refine ccons (cont_aload _ _) ?_
  refine ccons (cont_getR _ _ _) ?_
  refine ccons (cont_iload _ _) ?_
  refine ccons (cont_ald _ _) ?_
  refine ccons (cont_if_lt _ _) ?_
  refine ccons (cont_push _ _) ?_
  refine ccons (cont_goto _) ?_
  refine ccons (cont_push _ _) ?_
  refine ccons (cont_iret) ?_
  refine ccons (cont_aload _ _) ?_
  refine ccons (cont_getR _ _ _) ?_
  refine ccons (cont_iload _ _) ?_
  refine ccons (cont_ald _ _) ?_
  refine ccons (cont_if_eq _ _) ?_
  refine ccons (cont_push _ _) ?_
  refine ccons (cont_goto _) ?_
  refine ccons (cont_push _ _) ?_
  refine ccons (cont_iret) ?_
  refine ccons (cont_aload _ _) ?_
  refine ccons (cont_getR _ _ _) ?_
  refine ccons (cont_iload _ _) ?_
  refine ccons (cont_ald _ _) ?_
  refine ccons (cont_if_eq _ _) ?_
  refine ccons (cont_push _ _) ?_
  refine ccons (cont_goto _) ?_
  refine ccons (cont_push _ _) ?_
  refine ccons (cont_iret) ?_
  refine ccons (cont_aload _ _) ?_
  refine ccons (cont_getR _ _ _) ?_
  refine ccons (cont_iload _ _) ?_
  refine ccons (cont_ald _ _) ?_
  refine ccons (cont_iret) ?_
  refine ccons (cont_push _ _) ?_
  refine ccons (cont_iret) ?_
  exact cnil
theorem mgs_gX10_field (cut : List Nat) (n : Nat) : mgs (zlook tX10_field) cut gX10_field n = gX10_field := mgs_mev (ctab ctX10_field) cut n
def nX10_field : List Nat := [0, 5, 82]
set_option maxRecDepth 100000 in
theorem eX10_field_0 (M : MM) (x1 : Int32) (x2 : Int32) : gX10_field 0 [some (.inr (some 19)), some (.inl x1), some (.inl x2)] [] M = (mX10_isField [.inr (some 19), .inl x1] M).bind (fun r => gX10_field 5 [some (.inr (some 19)), some (.inl x1), some (.inl x2)] (r.1.toList ++ []) r.2) := by
  have h : ∀ k : KT, mgs (zlook tX10_field) nX10_field k 3 0 [some (.inr (some 19)), some (.inl x1), some (.inl x2)] [] M = (mX10_isField [.inr (some 19), .inl x1] M).bind (fun r => k 5 [some (.inr (some 19)), some (.inl x1), some (.inl x2)] (r.1.toList ++ []) r.2) := fun k => rfl
  have h := h gX10_field
  rw [mgs_gX10_field] at h
  exact h
set_option maxRecDepth 100000 in
theorem eX10_field_5 (M : MM) (x1 : Int32) (x2 : Int32) (xs0 : Int32) : gX10_field 5 [some (.inr (some 19)), some (.inl x1), some (.inl x2)] [.inl xs0] M = (if xs0 = 0 then some ((some (.inl (-1 : Int32))), M) else (if x2 = (0 : Int32) then (if x1 < 0 ∨ 12 ≤ x1.toNatClampNeg then none else some ((some (.inl (M 20 x1.toNatClampNeg))), M)) else (if x2 = (1 : Int32) then (if x1 < 0 ∨ 12 ≤ x1.toNatClampNeg then none else some ((some (.inl (M 21 x1.toNatClampNeg))), M)) else (if x2 = (2 : Int32) then (if x1 < 0 ∨ 12 ≤ x1.toNatClampNeg then none else some ((some (.inl (M 22 x1.toNatClampNeg))), M)) else (if x2 = (3 : Int32) then (mX10_isAsked [.inr (some 19), .inl x1] M).bind (fun r => gX10_field 82 [some (.inr (some 19)), some (.inl x1), some (.inl x2)] (r.1.toList ++ []) r.2) else (if x2 = (4 : Int32) then (if x1 < 0 ∨ 12 ≤ x1.toNatClampNeg then none else (if (M 28 x1.toNatClampNeg) < 0 then some ((some (.inl (0 : Int32))), M) else some ((some (.inl (1 : Int32))), M))) else (if x2 = (5 : Int32) then (if x1 < 0 ∨ 12 ≤ x1.toNatClampNeg then none else (if (M 29 x1.toNatClampNeg) = 0 then some ((some (.inl (0 : Int32))), M) else some ((some (.inl (1 : Int32))), M))) else (if x2 = (6 : Int32) then (if x1 < 0 ∨ 12 ≤ x1.toNatClampNeg then none else (if (M 30 x1.toNatClampNeg) = 0 then some ((some (.inl (0 : Int32))), M) else some ((some (.inl (1 : Int32))), M))) else (if x2 = (7 : Int32) then (if x1 < 0 ∨ 12 ≤ x1.toNatClampNeg then none else some ((some (.inl (M 28 x1.toNatClampNeg))), M)) else some ((some (.inl (-1 : Int32))), M)))))))))) := by
  have h : ∀ k : KT, mgs (zlook tX10_field) nX10_field k 11 5 [some (.inr (some 19)), some (.inl x1), some (.inl x2)] [.inl xs0] M = (if xs0 = 0 then some ((some (.inl (-1 : Int32))), M) else (if x2 = (0 : Int32) then (if x1 < 0 ∨ 12 ≤ x1.toNatClampNeg then none else some ((some (.inl (M 20 x1.toNatClampNeg))), M)) else (if x2 = (1 : Int32) then (if x1 < 0 ∨ 12 ≤ x1.toNatClampNeg then none else some ((some (.inl (M 21 x1.toNatClampNeg))), M)) else (if x2 = (2 : Int32) then (if x1 < 0 ∨ 12 ≤ x1.toNatClampNeg then none else some ((some (.inl (M 22 x1.toNatClampNeg))), M)) else (if x2 = (3 : Int32) then (mX10_isAsked [.inr (some 19), .inl x1] M).bind (fun r => k 82 [some (.inr (some 19)), some (.inl x1), some (.inl x2)] (r.1.toList ++ []) r.2) else (if x2 = (4 : Int32) then (if x1 < 0 ∨ 12 ≤ x1.toNatClampNeg then none else (if (M 28 x1.toNatClampNeg) < 0 then some ((some (.inl (0 : Int32))), M) else some ((some (.inl (1 : Int32))), M))) else (if x2 = (5 : Int32) then (if x1 < 0 ∨ 12 ≤ x1.toNatClampNeg then none else (if (M 29 x1.toNatClampNeg) = 0 then some ((some (.inl (0 : Int32))), M) else some ((some (.inl (1 : Int32))), M))) else (if x2 = (6 : Int32) then (if x1 < 0 ∨ 12 ≤ x1.toNatClampNeg then none else (if (M 30 x1.toNatClampNeg) = 0 then some ((some (.inl (0 : Int32))), M) else some ((some (.inl (1 : Int32))), M))) else (if x2 = (7 : Int32) then (if x1 < 0 ∨ 12 ≤ x1.toNatClampNeg then none else some ((some (.inl (M 28 x1.toNatClampNeg))), M)) else some ((some (.inl (-1 : Int32))), M)))))))))) := fun k => rfl
  have h := h gX10_field
  rw [mgs_gX10_field] at h
  exact h
set_option maxRecDepth 100000 in
theorem eX10_field_82 (M : MM) (x1 : Int32) (x2 : Int32) (xs0 : Int32) : gX10_field 82 [some (.inr (some 19)), some (.inl x1), some (.inl x2)] [.inl xs0] M = (if xs0 = 0 then some ((some (.inl (0 : Int32))), M) else some ((some (.inl (1 : Int32))), M)) := by
  have h : ∀ k : KT, mgs (zlook tX10_field) nX10_field k 4 82 [some (.inr (some 19)), some (.inl x1), some (.inl x2)] [.inl xs0] M = (if xs0 = 0 then some ((some (.inl (0 : Int32))), M) else some ((some (.inl (1 : Int32))), M)) := fun k => rfl
  have h := h gX10_field
  rw [mgs_gX10_field] at h
  exact h
theorem iX10_field (M : MM) (x1 : Int32) (x2 : Int32) : mX10_field [.inr (some 19), .inl x1, .inl x2] M = gX10_field 0 [some (.inr (some 19)), some (.inl x1), some (.inl x2)] [] M := rfl
noncomputable def gX10_hearBack : KT := mev (zlook tX10_hearBack)
theorem ctX10_hearBack : ∀ q ∈ tX10_hearBack, Cont q.2 := by
  refine ccons (cont_push _ _) ?_
  refine ccons (cont_istore _ _) ?_
  refine ccons (cont_push _ _) ?_
  refine ccons (cont_istore _ _) ?_
  refine ccons (cont_iload _ _) ?_
  refine ccons (cont_aload _ _) ?_
  refine ccons (cont_getI _ _ _) ?_
  refine ccons (cont_c_ge _ _) ?_
  refine ccons (cont_aload _ _) ?_
  refine ccons (cont_getR _ _ _) ?_
  refine ccons (cont_iload _ _) ?_
  refine ccons (cont_ald _ _) ?_
  refine ccons (cont_if_lt _ _) ?_
  refine ccons (cont_aload _ _) ?_
  refine ccons (cont_iload _ _) ?_
  refine ccons (cont_callV _ _ _ _) ?_
  refine ccons (cont_if_eq _ _) ?_
  refine ccons (cont_aload _ _) ?_
  refine ccons (cont_getR _ _ _) ?_
  refine ccons (cont_iload _ _) ?_
  refine ccons (cont_ald _ _) ?_
  refine ccons (cont_if_eq _ _) ?_
  refine ccons (cont_goto _) ?_
  refine ccons (cont_aload _ _) ?_
  refine ccons (cont_getR _ _ _) ?_
  refine ccons (cont_iload _ _) ?_
  refine ccons (cont_push _ _) ?_
  refine ccons (cont_zst _) ?_
  refine ccons (cont_iinc _ _ _) ?_
  refine ccons (cont_iinc _ _ _) ?_
  refine ccons (cont_goto _) ?_
  refine ccons (cont_iload _ _) ?_
  refine ccons (cont_iret) ?_
  exact cnil
theorem mgs_gX10_hearBack (cut : List Nat) (n : Nat) : mgs (zlook tX10_hearBack) cut gX10_hearBack n = gX10_hearBack := mgs_mev (ctab ctX10_hearBack) cut n
def nX10_hearBack : List Nat := [0, 4, 26]
set_option maxRecDepth 100000 in
theorem eX10_hearBack_0 (M : MM) : gX10_hearBack 0 [some (.inr (some 19)), none, none] [] M = gX10_hearBack 4 [some (.inr (some 19)), some (.inl (0 : Int32)), some (.inl (0 : Int32))] [] M := by
  have h : ∀ k : KT, mgs (zlook tX10_hearBack) nX10_hearBack k 4 0 [some (.inr (some 19)), none, none] [] M = k 4 [some (.inr (some 19)), some (.inl (0 : Int32)), some (.inl (0 : Int32))] [] M := fun k => rfl
  have h := h gX10_hearBack
  rw [mgs_gX10_hearBack] at h
  exact h
set_option maxRecDepth 100000 in
theorem eX10_hearBack_4 (M : MM) (x1 : Int32) (x2 : Int32) : gX10_hearBack 4 [some (.inr (some 19)), some (.inl x1), some (.inl x2)] [] M = (if (M 19 0) ≤ x2 then some ((some (.inl x1)), M) else (if x2 < 0 ∨ 12 ≤ x2.toNatClampNeg then none else (if (M 28 x2.toNatClampNeg) < 0 then gX10_hearBack 4 [some (.inr (some 19)), some (.inl x1), some (.inl (x2 + (1 : Int32)))] [] M else (mX10_isAsked [.inr (some 19), .inl x2] M).bind (fun r => gX10_hearBack 26 [some (.inr (some 19)), some (.inl x1), some (.inl x2)] (r.1.toList ++ []) r.2)))) := by
  have h : ∀ k : KT, mgs (zlook tX10_hearBack) nX10_hearBack k 12 4 [some (.inr (some 19)), some (.inl x1), some (.inl x2)] [] M = (if (M 19 0) ≤ x2 then some ((some (.inl x1)), M) else (if x2 < 0 ∨ 12 ≤ x2.toNatClampNeg then none else (if (M 28 x2.toNatClampNeg) < 0 then k 4 [some (.inr (some 19)), some (.inl x1), some (.inl (x2 + (1 : Int32)))] [] M else (mX10_isAsked [.inr (some 19), .inl x2] M).bind (fun r => k 26 [some (.inr (some 19)), some (.inl x1), some (.inl x2)] (r.1.toList ++ []) r.2)))) := fun k => rfl
  have h := h gX10_hearBack
  rw [mgs_gX10_hearBack] at h
  exact h
set_option maxRecDepth 100000 in
theorem eX10_hearBack_26 (M : MM) (x1 : Int32) (x2 : Int32) (xs0 : Int32) : gX10_hearBack 26 [some (.inr (some 19)), some (.inl x1), some (.inl x2)] [.inl xs0] M = (if xs0 = 0 then gX10_hearBack 4 [some (.inr (some 19)), some (.inl x1), some (.inl (x2 + (1 : Int32)))] [] M else (if x2 < 0 ∨ 12 ≤ x2.toNatClampNeg then none else (if (M 29 x2.toNatClampNeg) = 0 then (if x2 < 0 ∨ 12 ≤ x2.toNatClampNeg then none else gX10_hearBack 4 [some (.inr (some 19)), some (.inl (x1 + (1 : Int32))), some (.inl (x2 + (1 : Int32)))] [] (st2 M 29 x2.toNatClampNeg (1 : Int32))) else gX10_hearBack 4 [some (.inr (some 19)), some (.inl x1), some (.inl (x2 + (1 : Int32)))] [] M))) := by
  have h : ∀ k : KT, mgs (zlook tX10_hearBack) nX10_hearBack k 14 26 [some (.inr (some 19)), some (.inl x1), some (.inl x2)] [.inl xs0] M = (if xs0 = 0 then k 4 [some (.inr (some 19)), some (.inl x1), some (.inl (x2 + (1 : Int32)))] [] M else (if x2 < 0 ∨ 12 ≤ x2.toNatClampNeg then none else (if (M 29 x2.toNatClampNeg) = 0 then (if x2 < 0 ∨ 12 ≤ x2.toNatClampNeg then none else k 4 [some (.inr (some 19)), some (.inl (x1 + (1 : Int32))), some (.inl (x2 + (1 : Int32)))] [] (st2 M 29 x2.toNatClampNeg (1 : Int32))) else k 4 [some (.inr (some 19)), some (.inl x1), some (.inl (x2 + (1 : Int32)))] [] M))) := fun k => rfl
  have h := h gX10_hearBack
  rw [mgs_gX10_hearBack] at h
  exact h
theorem iX10_hearBack (M : MM) : mX10_hearBack [.inr (some 19)] M = gX10_hearBack 0 [some (.inr (some 19)), none, none] [] M := rfl
noncomputable def gX10_send : KT := mev (zlook tX10_send)
theorem ctX10_send : ∀ q ∈ tX10_send, Cont q.2 := by
  refine ccons (cont_aload _ _) ?_
  refine ccons (cont_getI _ _ _) ?_
  refine ccons (cont_if_eq _ _) ?_
  refine ccons (cont_push _ _) ?_
  refine ccons (cont_zret) ?_
  refine ccons (cont_push _ _) ?_
  refine ccons (cont_istore _ _) ?_
  refine ccons (cont_iload _ _) ?_
  refine ccons (cont_aload _ _) ?_
  refine ccons (cont_getI _ _ _) ?_
  refine ccons (cont_c_ge _ _) ?_
  refine ccons (cont_aload _ _) ?_
  refine ccons (cont_iload _ _) ?_
  refine ccons (cont_callV _ _ _ _) ?_
  refine ccons (cont_if_eq _ _) ?_
  refine ccons (cont_aload _ _) ?_
  refine ccons (cont_getR _ _ _) ?_
  refine ccons (cont_iload _ _) ?_
  refine ccons (cont_ald _ _) ?_
  refine ccons (cont_if_lt _ _) ?_
  refine ccons (cont_aload _ _) ?_
  refine ccons (cont_getR _ _ _) ?_
  refine ccons (cont_iload _ _) ?_
  refine ccons (cont_ald _ _) ?_
  refine ccons (cont_if_ne _ _) ?_
  refine ccons (cont_push _ _) ?_
  refine ccons (cont_zret) ?_
  refine ccons (cont_iinc _ _ _) ?_
  refine ccons (cont_goto _) ?_
  refine ccons (cont_aload _ _) ?_
  refine ccons (cont_push _ _) ?_
  refine ccons (cont_putZ _ _ _) ?_
  refine ccons (cont_push _ _) ?_
  refine ccons (cont_zret) ?_
  exact cnil
theorem mgs_gX10_send (cut : List Nat) (n : Nat) : mgs (zlook tX10_send) cut gX10_send n = gX10_send := mgs_mev (ctab ctX10_send) cut n
def nX10_send : List Nat := [0, 11, 24]
set_option maxRecDepth 100000 in
theorem eX10_send_0 (M : MM) : gX10_send 0 [some (.inr (some 19)), none] [] M = (if (M 19 28) = 0 then gX10_send 11 [some (.inr (some 19)), some (.inl (0 : Int32))] [] M else some ((some (.inl (0 : Int32))), M)) := by
  have h : ∀ k : KT, mgs (zlook tX10_send) nX10_send k 5 0 [some (.inr (some 19)), none] [] M = (if (M 19 28) = 0 then k 11 [some (.inr (some 19)), some (.inl (0 : Int32))] [] M else some ((some (.inl (0 : Int32))), M)) := fun k => rfl
  have h := h gX10_send
  rw [mgs_gX10_send] at h
  exact h
set_option maxRecDepth 100000 in
theorem eX10_send_11 (M : MM) (x1 : Int32) : gX10_send 11 [some (.inr (some 19)), some (.inl x1)] [] M = (if (M 19 0) ≤ x1 then some ((some (.inl (1 : Int32))), (st2 M 19 28 (1 : Int32))) else (mX10_isAsked [.inr (some 19), .inl x1] M).bind (fun r => gX10_send 24 [some (.inr (some 19)), some (.inl x1)] (r.1.toList ++ []) r.2)) := by
  have h : ∀ k : KT, mgs (zlook tX10_send) nX10_send k 9 11 [some (.inr (some 19)), some (.inl x1)] [] M = (if (M 19 0) ≤ x1 then some ((some (.inl (1 : Int32))), (st2 M 19 28 (1 : Int32))) else (mX10_isAsked [.inr (some 19), .inl x1] M).bind (fun r => k 24 [some (.inr (some 19)), some (.inl x1)] (r.1.toList ++ []) r.2)) := fun k => rfl
  have h := h gX10_send
  rw [mgs_gX10_send] at h
  exact h
set_option maxRecDepth 100000 in
theorem eX10_send_24 (M : MM) (x1 : Int32) (xs0 : Int32) : gX10_send 24 [some (.inr (some 19)), some (.inl x1)] [.inl xs0] M = (if xs0 = 0 then gX10_send 11 [some (.inr (some 19)), some (.inl (x1 + (1 : Int32)))] [] M else (if x1 < 0 ∨ 12 ≤ x1.toNatClampNeg then none else (if (M 28 x1.toNatClampNeg) < 0 then some ((some (.inl (0 : Int32))), M) else (if x1 < 0 ∨ 12 ≤ x1.toNatClampNeg then none else (if (M 29 x1.toNatClampNeg) = 0 then some ((some (.inl (0 : Int32))), M) else gX10_send 11 [some (.inr (some 19)), some (.inl (x1 + (1 : Int32)))] [] M))))) := by
  have h : ∀ k : KT, mgs (zlook tX10_send) nX10_send k 13 24 [some (.inr (some 19)), some (.inl x1)] [.inl xs0] M = (if xs0 = 0 then k 11 [some (.inr (some 19)), some (.inl (x1 + (1 : Int32)))] [] M else (if x1 < 0 ∨ 12 ≤ x1.toNatClampNeg then none else (if (M 28 x1.toNatClampNeg) < 0 then some ((some (.inl (0 : Int32))), M) else (if x1 < 0 ∨ 12 ≤ x1.toNatClampNeg then none else (if (M 29 x1.toNatClampNeg) = 0 then some ((some (.inl (0 : Int32))), M) else k 11 [some (.inr (some 19)), some (.inl (x1 + (1 : Int32)))] [] M))))) := fun k => rfl
  have h := h gX10_send
  rw [mgs_gX10_send] at h
  exact h
theorem iX10_send (M : MM) : mX10_send [.inr (some 19)] M = gX10_send 0 [some (.inr (some 19)), none] [] M := rfl
