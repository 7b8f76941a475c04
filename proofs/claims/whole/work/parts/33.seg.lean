/-! Segments of runs: what a run from a cut point on comes to (written by wip/whole/seg.py). -/
noncomputable def gX9_differingDigits : KT := mev (zlook tX9_differingDigits)
theorem ctX9_differingDigits : ∀ q ∈ tX9_differingDigits, Cont q.2 := by
  refine ccons (cont_aload _ _) ?_
  refine ccons (cont_getR _ _ _) ?_
  refine ccons (cont_aload _ _) ?_
  refine ccons (cont_getR _ _ _) ?_
  refine ccons (cont_getI _ _ _) ?_
  refine ccons (cont_callV _ _ _ _) ?_
  refine ccons (cont_astore _ _) ?_
  refine ccons (cont_aload _ _) ?_
  refine ccons (cont_null _ _) ?_
  refine ccons (cont_aload _ _) ?_
  refine ccons (cont_getR _ _ _) ?_
  refine ccons (cont_push _ _) ?_
  refine ccons (cont_callV _ _ _ _) ?_
  refine ccons (cont_if_ne _ _) ?_
  refine ccons (cont_aload _ _) ?_
  refine ccons (cont_getR _ _ _) ?_
  refine ccons (cont_push _ _) ?_
  refine ccons (cont_callV _ _ _ _) ?_
  refine ccons (cont_if_eq _ _) ?_
  refine ccons (cont_push _ _) ?_
  refine ccons (cont_iret) ?_
  refine ccons (cont_push _ _) ?_
  refine ccons (cont_istore _ _) ?_
  refine ccons (cont_aload _ _) ?_
  refine ccons (cont_getR _ _ _) ?_
  refine ccons (cont_push _ _) ?_
  refine ccons (cont_callV _ _ _ _) ?_
  refine ccons (cont_istore _ _) ?_
  refine ccons (cont_aload _ _) ?_
  refine ccons (cont_getR _ _ _) ?_
  refine ccons (cont_push _ _) ?_
  refine ccons (cont_callV _ _ _ _) ?_
  refine ccons (cont_istore _ _) ?_
  refine ccons (cont_aload _ _) ?_
  refine ccons (cont_getI _ _ _) ?_
  refine ccons (cont_push _ _) ?_
  refine ccons (cont_bin _ _) ?_
  refine ccons (cont_istore _ _) ?_
  refine ccons (cont_iload _ _) ?_
  refine ccons (cont_if_lt _ _) ?_
  refine ccons (cont_iload _ _) ?_
  refine ccons (cont_push _ _) ?_
  refine ccons (cont_rem _) ?_
  refine ccons (cont_iload _ _) ?_
  refine ccons (cont_push _ _) ?_
  refine ccons (cont_rem _) ?_
  refine ccons (cont_c_eq _ _) ?_
  refine ccons (cont_iload _ _) ?_
  refine ccons (cont_push _ _) ?_
  refine ccons (cont_iload _ _) ?_
  refine ccons (cont_bin _ _) ?_
  refine ccons (cont_bin _ _) ?_
  refine ccons (cont_istore _ _) ?_
  refine ccons (cont_iload _ _) ?_
  refine ccons (cont_push _ _) ?_
  refine ccons (cont_div _) ?_
  refine ccons (cont_istore _ _) ?_
  refine ccons (cont_iload _ _) ?_
  refine ccons (cont_push _ _) ?_
  refine ccons (cont_div _) ?_
  refine ccons (cont_istore _ _) ?_
  refine ccons (cont_iinc _ _ _) ?_
  refine ccons (cont_goto _) ?_
  refine ccons (cont_iload _ _) ?_
  refine ccons (cont_iret) ?_
  exact cnil
theorem mgs_gX9_differingDigits (cut : List Nat) (n : Nat) : mgs (zlook tX9_differingDigits) cut gX9_differingDigits n = gX9_differingDigits := mgs_mev (ctab ctX9_differingDigits) cut n
def nX9_differingDigits : List Nat := [0, 14, 27, 38, 53, 62, 72, 96]
set_option maxRecDepth 100000 in
theorem eX9_differingDigits_0 (M : MM) : gX9_differingDigits 0 [some (.inr (some 0)), none, none, none, none, none] [] M = (mX1_slotAt [.inr (some 1), .inl (M 4 3)] M).bind (fun r => gX9_differingDigits 14 [some (.inr (some 0)), none, none, none, none, none] (r.1.toList ++ []) r.2) := by
  have h : ∀ k : KT, mgs (zlook tX9_differingDigits) nX9_differingDigits k 6 0 [some (.inr (some 0)), none, none, none, none, none] [] M = (mX1_slotAt [.inr (some 1), .inl (M 4 3)] M).bind (fun r => k 14 [some (.inr (some 0)), none, none, none, none, none] (r.1.toList ++ []) r.2) := fun k => rfl
  have h := h gX9_differingDigits
  rw [mgs_gX9_differingDigits] at h
  exact h
set_option maxRecDepth 100000 in
theorem eX9_differingDigits_14 (M : MM) (rs0 : Option Nat) : gX9_differingDigits 14 [some (.inr (some 0)), none, none, none, none, none] [.inr rs0] M = (match rs0 with | some _q1 => (mX4_sort [.inr (some 3), .inl (0 : Int32)] M).bind (fun r => gX9_differingDigits 27 [some (.inr (some 0)), some (.inr rs0), none, none, none, none] (r.1.toList ++ []) r.2) | none => some ((some (.inl (0 : Int32))), M)) := by
  have h : ∀ k : KT, mgs (zlook tX9_differingDigits) nX9_differingDigits k 7 14 [some (.inr (some 0)), none, none, none, none, none] [.inr rs0] M = (match rs0 with | some _q1 => (mX4_sort [.inr (some 3), .inl (0 : Int32)] M).bind (fun r => k 27 [some (.inr (some 0)), some (.inr rs0), none, none, none, none] (r.1.toList ++ []) r.2) | none => some ((some (.inl (0 : Int32))), M)) := by intro k; cases rs0 <;> rfl
  have h := h gX9_differingDigits
  rw [mgs_gX9_differingDigits] at h
  exact h
set_option maxRecDepth 100000 in
theorem eX9_differingDigits_27 (M : MM) (r1 : Option Nat) (xs0 : Int32) : gX9_differingDigits 27 [some (.inr (some 0)), some (.inr r1), none, none, none, none] [.inl xs0] M = (if xs0 = 0 then (mX4_sort [.inr (some 3), .inl (1 : Int32)] M).bind (fun r => gX9_differingDigits 38 [some (.inr (some 0)), some (.inr r1), none, none, none, none] (r.1.toList ++ []) r.2) else some ((some (.inl (0 : Int32))), M)) := by
  have h : ∀ k : KT, mgs (zlook tX9_differingDigits) nX9_differingDigits k 5 27 [some (.inr (some 0)), some (.inr r1), none, none, none, none] [.inl xs0] M = (if xs0 = 0 then (mX4_sort [.inr (some 3), .inl (1 : Int32)] M).bind (fun r => k 38 [some (.inr (some 0)), some (.inr r1), none, none, none, none] (r.1.toList ++ []) r.2) else some ((some (.inl (0 : Int32))), M)) := fun k => rfl
  have h := h gX9_differingDigits
  rw [mgs_gX9_differingDigits] at h
  exact h
set_option maxRecDepth 100000 in
theorem eX9_differingDigits_38 (M : MM) (r1 : Option Nat) (xs0 : Int32) : gX9_differingDigits 38 [some (.inr (some 0)), some (.inr r1), none, none, none, none] [.inl xs0] M = (if xs0 = 0 then (mX4_value [.inr (some 3), .inl (0 : Int32)] M).bind (fun r => gX9_differingDigits 53 [some (.inr (some 0)), some (.inr r1), some (.inl (0 : Int32)), none, none, none] (r.1.toList ++ []) r.2) else some ((some (.inl (0 : Int32))), M)) := by
  have h : ∀ k : KT, mgs (zlook tX9_differingDigits) nX9_differingDigits k 7 38 [some (.inr (some 0)), some (.inr r1), none, none, none, none] [.inl xs0] M = (if xs0 = 0 then (mX4_value [.inr (some 3), .inl (0 : Int32)] M).bind (fun r => k 53 [some (.inr (some 0)), some (.inr r1), some (.inl (0 : Int32)), none, none, none] (r.1.toList ++ []) r.2) else some ((some (.inl (0 : Int32))), M)) := fun k => rfl
  have h := h gX9_differingDigits
  rw [mgs_gX9_differingDigits] at h
  exact h
set_option maxRecDepth 100000 in
theorem eX9_differingDigits_53 (M : MM) (r1 : Option Nat) (x2 : Int32) (xs0 : Int32) : gX9_differingDigits 53 [some (.inr (some 0)), some (.inr r1), some (.inl x2), none, none, none] [.inl xs0] M = (mX4_value [.inr (some 3), .inl (1 : Int32)] M).bind (fun r => gX9_differingDigits 62 [some (.inr (some 0)), some (.inr r1), some (.inl x2), some (.inl xs0), none, none] (r.1.toList ++ []) r.2) := by
  have h : ∀ k : KT, mgs (zlook tX9_differingDigits) nX9_differingDigits k 5 53 [some (.inr (some 0)), some (.inr r1), some (.inl x2), none, none, none] [.inl xs0] M = (mX4_value [.inr (some 3), .inl (1 : Int32)] M).bind (fun r => k 62 [some (.inr (some 0)), some (.inr r1), some (.inl x2), some (.inl xs0), none, none] (r.1.toList ++ []) r.2) := fun k => rfl
  have h := h gX9_differingDigits
  rw [mgs_gX9_differingDigits] at h
  exact h
set_option maxRecDepth 100000 in
theorem eX9_differingDigits_62 (M : MM) (r1 : Option Nat) (x2 : Int32) (x3 : Int32) (xs0 : Int32) : gX9_differingDigits 62 [some (.inr (some 0)), some (.inr r1), some (.inl x2), some (.inl x3), none, none] [.inl xs0] M = (match r1 with | some q1 => (if zkd q1 = 5 then gX9_differingDigits 72 [some (.inr (some 0)), some (.inr r1), some (.inl x2), some (.inl x3), some (.inl xs0), some (.inl ((M q1 1) - (1 : Int32)))] [] M else none) | none => none) := by
  have h : ∀ k : KT, mgs (zlook tX9_differingDigits) nX9_differingDigits k 6 62 [some (.inr (some 0)), some (.inr r1), some (.inl x2), some (.inl x3), none, none] [.inl xs0] M = (match r1 with | some q1 => (if zkd q1 = 5 then k 72 [some (.inr (some 0)), some (.inr r1), some (.inl x2), some (.inl x3), some (.inl xs0), some (.inl ((M q1 1) - (1 : Int32)))] [] M else none) | none => none) := by intro k; cases r1 <;> rfl
  have h := h gX9_differingDigits
  rw [mgs_gX9_differingDigits] at h
  exact h
set_option maxRecDepth 100000 in
theorem eX9_differingDigits_72 (M : MM) (r1 : Option Nat) (x2 : Int32) (x3 : Int32) (x4 : Int32) (x5 : Int32) : gX9_differingDigits 72 [some (.inr (some 0)), some (.inr r1), some (.inl x2), some (.inl x3), some (.inl x4), some (.inl x5)] [] M = (if x5 < 0 then some ((some (.inl x2)), M) else (if (x3 - x3 / (10 : Int32) * (10 : Int32)) = (x4 - x4 / (10 : Int32) * (10 : Int32)) then gX9_differingDigits 96 [some (.inr (some 0)), some (.inr r1), some (.inl x2), some (.inl x3), some (.inl x4), some (.inl x5)] [] M else gX9_differingDigits 96 [some (.inr (some 0)), some (.inr r1), some (.inl (x2 ||| ((1 : Int32) <<< (x5 &&& 31)))), some (.inl x3), some (.inl x4), some (.inl x5)] [] M)) := by
  have h : ∀ k : KT, mgs (zlook tX9_differingDigits) nX9_differingDigits k 15 72 [some (.inr (some 0)), some (.inr r1), some (.inl x2), some (.inl x3), some (.inl x4), some (.inl x5)] [] M = (if x5 < 0 then some ((some (.inl x2)), M) else (if (x3 - x3 / (10 : Int32) * (10 : Int32)) = (x4 - x4 / (10 : Int32) * (10 : Int32)) then k 96 [some (.inr (some 0)), some (.inr r1), some (.inl x2), some (.inl x3), some (.inl x4), some (.inl x5)] [] M else k 96 [some (.inr (some 0)), some (.inr r1), some (.inl (x2 ||| ((1 : Int32) <<< (x5 &&& 31)))), some (.inl x3), some (.inl x4), some (.inl x5)] [] M)) := fun k => rfl
  have h := h gX9_differingDigits
  rw [mgs_gX9_differingDigits] at h
  exact h
set_option maxRecDepth 100000 in
theorem eX9_differingDigits_96 (M : MM) (r1 : Option Nat) (x2 : Int32) (x3 : Int32) (x4 : Int32) (x5 : Int32) : gX9_differingDigits 96 [some (.inr (some 0)), some (.inr r1), some (.inl x2), some (.inl x3), some (.inl x4), some (.inl x5)] [] M = gX9_differingDigits 72 [some (.inr (some 0)), some (.inr r1), some (.inl x2), some (.inl (x3 / (10 : Int32))), some (.inl (x4 / (10 : Int32))), some (.inl (x5 + (-1 : Int32)))] [] M := by
  have h : ∀ k : KT, mgs (zlook tX9_differingDigits) nX9_differingDigits k 10 96 [some (.inr (some 0)), some (.inr r1), some (.inl x2), some (.inl x3), some (.inl x4), some (.inl x5)] [] M = k 72 [some (.inr (some 0)), some (.inr r1), some (.inl x2), some (.inl (x3 / (10 : Int32))), some (.inl (x4 / (10 : Int32))), some (.inl (x5 + (-1 : Int32)))] [] M := fun k => rfl
  have h := h gX9_differingDigits
  rw [mgs_gX9_differingDigits] at h
  exact h
theorem iX9_differingDigits (M : MM) : mX9_differingDigits [.inr (some 0)] M = gX9_differingDigits 0 [some (.inr (some 0)), none, none, none, none, none] [] M := rfl
noncomputable def gX9_say : KT := mev (zlook tX9_say)
theorem ctX9_say : ∀ q ∈ tX9_say, Cont q.2 := by
  refine ccons (cont_aload _ _) ?_
  refine ccons (cont_getR _ _ _) ?_
  refine ccons (cont_push _ _) ?_
  refine ccons (cont_put _ _ _) ?_
  refine ccons (cont_aload _ _) ?_
  refine ccons (cont_getR _ _ _) ?_
  refine ccons (cont_callV _ _ _ _) ?_
  refine ccons (cont_aload _ _) ?_
  refine ccons (cont_getR _ _ _) ?_
  refine ccons (cont_getI _ _ _) ?_
  refine ccons (cont_if_ne _ _) ?_
  refine ccons (cont_aload _ _) ?_
  refine ccons (cont_getR _ _ _) ?_
  refine ccons (cont_aload _ _) ?_
  refine ccons (cont_getR _ _ _) ?_
  refine ccons (cont_getI _ _ _) ?_
  refine ccons (cont_aload _ _) ?_
  refine ccons (cont_getR _ _ _) ?_
  refine ccons (cont_getI _ _ _) ?_
  refine ccons (cont_callV _ _ _ _) ?_
  refine ccons (cont_aload _ _) ?_
  refine ccons (cont_getR _ _ _) ?_
  refine ccons (cont_push _ _) ?_
  refine ccons (cont_callV _ _ _ _) ?_
  refine ccons (cont_if_eq _ _) ?_
  refine ccons (cont_aload _ _) ?_
  refine ccons (cont_aload _ _) ?_
  refine ccons (cont_getR _ _ _) ?_
  refine ccons (cont_callV _ _ _ _) ?_
  refine ccons (cont_put _ _ _) ?_
  refine ccons (cont_goto _) ?_
  refine ccons (cont_aload _ _) ?_
  refine ccons (cont_aload _ _) ?_
  refine ccons (cont_getR _ _ _) ?_
  refine ccons (cont_getI _ _ _) ?_
  refine ccons (cont_if_ne _ _) ?_
  refine ccons (cont_aload _ _) ?_
  refine ccons (cont_getR _ _ _) ?_
  refine ccons (cont_getI _ _ _) ?_
  refine ccons (cont_if_ne _ _) ?_
  refine ccons (cont_push _ _) ?_
  refine ccons (cont_goto _) ?_
  refine ccons (cont_push _ _) ?_
  refine ccons (cont_put _ _ _) ?_
  refine ccons (cont_aload _ _) ?_
  refine ccons (cont_getR _ _ _) ?_
  refine ccons (cont_callV _ _ _ _) ?_
  refine ccons (cont_aload _ _) ?_
  refine ccons (cont_aload _ _) ?_
  refine ccons (cont_getI _ _ _) ?_
  refine ccons (cont_push _ _) ?_
  refine ccons (cont_c_gt _ _) ?_
  refine ccons (cont_aload _ _) ?_
  refine ccons (cont_getI _ _ _) ?_
  refine ccons (cont_push _ _) ?_
  refine ccons (cont_bin _ _) ?_
  refine ccons (cont_push _ _) ?_
  refine ccons (cont_min _) ?_
  refine ccons (cont_goto _) ?_
  refine ccons (cont_push _ _) ?_
  refine ccons (cont_put _ _ _) ?_
  refine ccons (cont_aload _ _) ?_
  refine ccons (cont_aload _ _) ?_
  refine ccons (cont_getI _ _ _) ?_
  refine ccons (cont_push _ _) ?_
  refine ccons (cont_c_ne _ _) ?_
  refine ccons (cont_aload _ _) ?_
  refine ccons (cont_callV _ _ _ _) ?_
  refine ccons (cont_goto _) ?_
  refine ccons (cont_push _ _) ?_
  refine ccons (cont_put _ _ _) ?_
  refine ccons (cont_aload _ _) ?_
  refine ccons (cont_getI _ _ _) ?_
  refine ccons (cont_iret) ?_
  exact cnil
theorem mgs_gX9_say (cut : List Nat) (n : Nat) : mgs (zlook tX9_say) cut gX9_say n = gX9_say := mgs_mev (ctab ctX9_say) cut n
def nX9_say : List Nat := [0, 15, 46, 54, 65, 96, 97, 100, 107, 131, 147]
set_option maxRecDepth 100000 in
theorem eX9_say_0 (M : MM) : gX9_say 0 [some (.inr (some 0))] [] M = (mX4_forget [.inr (some 3)] (st2 M 4 7 (0 : Int32))).bind (fun r => gX9_say 15 [some (.inr (some 0))] (r.1.toList ++ []) r.2) := by
  have h : ∀ k : KT, mgs (zlook tX9_say) nX9_say k 7 0 [some (.inr (some 0))] [] M = (mX4_forget [.inr (some 3)] (st2 M 4 7 (0 : Int32))).bind (fun r => k 15 [some (.inr (some 0))] (r.1.toList ++ []) r.2) := fun k => rfl
  have h := h gX9_say
  rw [mgs_gX9_say] at h
  exact h
set_option maxRecDepth 100000 in
theorem eX9_say_15 (M : MM) : gX9_say 15 [some (.inr (some 0))] [] M = (if (M 4 5) = 0 then (mX4_read [.inr (some 3), .inl (M 4 3), .inl (M 4 4)] M).bind (fun r => gX9_say 46 [some (.inr (some 0))] (r.1.toList ++ []) r.2) else gX9_say 46 [some (.inr (some 0))] [] M) := by
  have h : ∀ k : KT, mgs (zlook tX9_say) nX9_say k 13 15 [some (.inr (some 0))] [] M = (if (M 4 5) = 0 then (mX4_read [.inr (some 3), .inl (M 4 3), .inl (M 4 4)] M).bind (fun r => k 46 [some (.inr (some 0))] (r.1.toList ++ []) r.2) else k 46 [some (.inr (some 0))] [] M) := fun k => rfl
  have h := h gX9_say
  rw [mgs_gX9_say] at h
  exact h
set_option maxRecDepth 100000 in
theorem eX9_say_46 (M : MM) : gX9_say 46 [some (.inr (some 0))] [] M = (mX4_found [.inr (some 3), .inl (0 : Int32)] M).bind (fun r => gX9_say 54 [some (.inr (some 0))] (r.1.toList ++ []) r.2) := by
  have h : ∀ k : KT, mgs (zlook tX9_say) nX9_say k 4 46 [some (.inr (some 0))] [] M = (mX4_found [.inr (some 3), .inl (0 : Int32)] M).bind (fun r => k 54 [some (.inr (some 0))] (r.1.toList ++ []) r.2) := fun k => rfl
  have h := h gX9_say
  rw [mgs_gX9_say] at h
  exact h
set_option maxRecDepth 100000 in
theorem eX9_say_54 (M : MM) (xs0 : Int32) : gX9_say 54 [some (.inr (some 0))] [.inl xs0] M = (if xs0 = 0 then (if (M 2 3) = 0 then (if (M 4 5) = 0 then gX9_say 97 [some (.inr (some 0))] [.inl (0 : Int32), .inr (some 0)] M else gX9_say 96 [some (.inr (some 0))] [.inr (some 0)] M) else gX9_say 96 [some (.inr (some 0))] [.inr (some 0)] M) else (mX6_hear [.inr (some 4)] M).bind (fun r => gX9_say 65 [some (.inr (some 0))] (r.1.toList ++ [.inr (some 0)]) r.2)) := by
  have h : ∀ k : KT, mgs (zlook tX9_say) nX9_say k 12 54 [some (.inr (some 0))] [.inl xs0] M = (if xs0 = 0 then (if (M 2 3) = 0 then (if (M 4 5) = 0 then k 97 [some (.inr (some 0))] [.inl (0 : Int32), .inr (some 0)] M else k 96 [some (.inr (some 0))] [.inr (some 0)] M) else k 96 [some (.inr (some 0))] [.inr (some 0)] M) else (mX6_hear [.inr (some 4)] M).bind (fun r => k 65 [some (.inr (some 0))] (r.1.toList ++ [.inr (some 0)]) r.2)) := fun k => rfl
  have h := h gX9_say
  rw [mgs_gX9_say] at h
  exact h
set_option maxRecDepth 100000 in
theorem eX9_say_65 (M : MM) (xs0 : Int32) : gX9_say 65 [some (.inr (some 0))] [.inl xs0, .inr (some 0)] M = gX9_say 100 [some (.inr (some 0))] [] (st2 M 0 5 xs0) := by
  have h : ∀ k : KT, mgs (zlook tX9_say) nX9_say k 2 65 [some (.inr (some 0))] [.inl xs0, .inr (some 0)] M = k 100 [some (.inr (some 0))] [] (st2 M 0 5 xs0) := fun k => rfl
  have h := h gX9_say
  rw [mgs_gX9_say] at h
  exact h
set_option maxRecDepth 100000 in
theorem eX9_say_96 (M : MM) : gX9_say 96 [some (.inr (some 0))] [.inr (some 0)] M = gX9_say 97 [some (.inr (some 0))] [.inl (1 : Int32), .inr (some 0)] M := by
  have h : ∀ k : KT, mgs (zlook tX9_say) nX9_say k 1 96 [some (.inr (some 0))] [.inr (some 0)] M = k 97 [some (.inr (some 0))] [.inl (1 : Int32), .inr (some 0)] M := fun k => rfl
  have h := h gX9_say
  rw [mgs_gX9_say] at h
  exact h
set_option maxRecDepth 100000 in
theorem eX9_say_97 (M : MM) (xs0 : Int32) : gX9_say 97 [some (.inr (some 0))] [.inl xs0, .inr (some 0)] M = gX9_say 100 [some (.inr (some 0))] [] (st2 M 0 5 xs0) := by
  have h : ∀ k : KT, mgs (zlook tX9_say) nX9_say k 1 97 [some (.inr (some 0))] [.inl xs0, .inr (some 0)] M = k 100 [some (.inr (some 0))] [] (st2 M 0 5 xs0) := fun k => rfl
  have h := h gX9_say
  rw [mgs_gX9_say] at h
  exact h
set_option maxRecDepth 100000 in
theorem eX9_say_100 (M : MM) : gX9_say 100 [some (.inr (some 0))] [] M = (mX2_clear [.inr (some 2)] M).bind (fun r => gX9_say 107 [some (.inr (some 0))] (r.1.toList ++ []) r.2) := by
  have h : ∀ k : KT, mgs (zlook tX9_say) nX9_say k 3 100 [some (.inr (some 0))] [] M = (mX2_clear [.inr (some 2)] M).bind (fun r => k 107 [some (.inr (some 0))] (r.1.toList ++ []) r.2) := fun k => rfl
  have h := h gX9_say
  rw [mgs_gX9_say] at h
  exact h
set_option maxRecDepth 100000 in
theorem eX9_say_107 (M : MM) : gX9_say 107 [some (.inr (some 0))] [] M = (if (1 : Int32) < (M 0 5) then gX9_say 131 [some (.inr (some 0))] [.inl (0 : Int32), .inr (some 0)] M else gX9_say 131 [some (.inr (some 0))] [.inl (if (9 : Int32) < ((M 0 6) + (1 : Int32)) then (9 : Int32) else ((M 0 6) + (1 : Int32))), .inr (some 0)] M) := by
  have h : ∀ k : KT, mgs (zlook tX9_say) nX9_say k 12 107 [some (.inr (some 0))] [] M = (if (1 : Int32) < (M 0 5) then k 131 [some (.inr (some 0))] [.inl (0 : Int32), .inr (some 0)] M else k 131 [some (.inr (some 0))] [.inl (if (9 : Int32) < ((M 0 6) + (1 : Int32)) then (9 : Int32) else ((M 0 6) + (1 : Int32))), .inr (some 0)] M) := fun k => rfl
  have h := h gX9_say
  rw [mgs_gX9_say] at h
  exact h
set_option maxRecDepth 100000 in
theorem eX9_say_131 (M : MM) (xs0 : Int32) : gX9_say 131 [some (.inr (some 0))] [.inl xs0, .inr (some 0)] M = (if ((st2 M 0 6 xs0) 0 5) = (2 : Int32) then (mX9_differingDigits [.inr (some 0)] (st2 M 0 6 xs0)).bind (fun r => gX9_say 147 [some (.inr (some 0))] (r.1.toList ++ [.inr (some 0)]) r.2) else some ((some (.inl ((st2 (st2 M 0 6 xs0) 0 7 (0 : Int32)) 0 5))), (st2 (st2 M 0 6 xs0) 0 7 (0 : Int32)))) := by
  have h : ∀ k : KT, mgs (zlook tX9_say) nX9_say k 11 131 [some (.inr (some 0))] [.inl xs0, .inr (some 0)] M = (if ((st2 M 0 6 xs0) 0 5) = (2 : Int32) then (mX9_differingDigits [.inr (some 0)] (st2 M 0 6 xs0)).bind (fun r => k 147 [some (.inr (some 0))] (r.1.toList ++ [.inr (some 0)]) r.2) else some ((some (.inl ((st2 (st2 M 0 6 xs0) 0 7 (0 : Int32)) 0 5))), (st2 (st2 M 0 6 xs0) 0 7 (0 : Int32)))) := fun k => rfl
  have h := h gX9_say
  rw [mgs_gX9_say] at h
  exact h
set_option maxRecDepth 100000 in
theorem eX9_say_147 (M : MM) (xs0 : Int32) : gX9_say 147 [some (.inr (some 0))] [.inl xs0, .inr (some 0)] M = some ((some (.inl ((st2 M 0 7 xs0) 0 5))), (st2 M 0 7 xs0)) := by
  have h : ∀ k : KT, mgs (zlook tX9_say) nX9_say k 5 147 [some (.inr (some 0))] [.inl xs0, .inr (some 0)] M = some ((some (.inl ((st2 M 0 7 xs0) 0 5))), (st2 M 0 7 xs0)) := fun k => rfl
  have h := h gX9_say
  rw [mgs_gX9_say] at h
  exact h
theorem iX9_say (M : MM) : mX9_say [.inr (some 0)] M = gX9_say 0 [some (.inr (some 0))] [] M := rfl
noncomputable def gX9_goOn : KT := mev (zlook tX9_goOn)
theorem ctX9_goOn : ∀ q ∈ tX9_goOn, Cont q.2 := by
  refine ccons (cont_aload _ _) ?_
  refine ccons (cont_getR _ _ _) ?_
  refine ccons (cont_getI _ _ _) ?_
  refine ccons (cont_istore _ _) ?_
  refine ccons (cont_aload _ _) ?_
  refine ccons (cont_getR _ _ _) ?_
  refine ccons (cont_push _ _) ?_
  refine ccons (cont_putZ _ _ _) ?_
  refine ccons (cont_iload _ _) ?_
  refine ccons (cont_zret) ?_
  exact cnil
theorem mgs_gX9_goOn (cut : List Nat) (n : Nat) : mgs (zlook tX9_goOn) cut gX9_goOn n = gX9_goOn := mgs_mev (ctab ctX9_goOn) cut n
def nX9_goOn : List Nat := [0]
set_option maxRecDepth 100000 in
theorem eX9_goOn_0 (M : MM) : gX9_goOn 0 [some (.inr (some 0)), none] [] M = (if (M 4 5) = 0 ∨ (M 4 5) = 1 then some ((some (.inl (M 4 5))), (st2 M 4 5 (0 : Int32))) else none) := by
  have h : ∀ k : KT, mgs (zlook tX9_goOn) nX9_goOn k 10 0 [some (.inr (some 0)), none] [] M = (if (M 4 5) = 0 ∨ (M 4 5) = 1 then some ((some (.inl (M 4 5))), (st2 M 4 5 (0 : Int32))) else none) := fun k => rfl
  have h := h gX9_goOn
  rw [mgs_gX9_goOn] at h
  exact h
theorem iX9_goOn (M : MM) : mX9_goOn [.inr (some 0)] M = gX9_goOn 0 [some (.inr (some 0)), none] [] M := rfl
noncomputable def gX9_told : KT := mev (zlook tX9_told)
theorem ctX9_told : ∀ q ∈ tX9_told, Cont q.2 := by
  refine ccons (cont_aload _ _) ?_
  refine ccons (cont_getI _ _ _) ?_
  refine ccons (cont_push _ _) ?_
  refine ccons (cont_c_ne _ _) ?_
  refine ccons (cont_push _ _) ?_
  refine ccons (cont_iret) ?_
  refine ccons (cont_iload _ _) ?_
  refine ccons (cont_switch _ _) ?_
  refine ccons (cont_aload _ _) ?_
  refine ccons (cont_getI _ _ _) ?_
  refine ccons (cont_iret) ?_
  refine ccons (cont_aload _ _) ?_
  refine ccons (cont_getR _ _ _) ?_
  refine ccons (cont_push _ _) ?_
  refine ccons (cont_callV _ _ _ _) ?_
  refine ccons (cont_iret) ?_
  refine ccons (cont_aload _ _) ?_
  refine ccons (cont_getR _ _ _) ?_
  refine ccons (cont_push _ _) ?_
  refine ccons (cont_callV _ _ _ _) ?_
  refine ccons (cont_iret) ?_
  refine ccons (cont_aload _ _) ?_
  refine ccons (cont_getR _ _ _) ?_
  refine ccons (cont_push _ _) ?_
  refine ccons (cont_callV _ _ _ _) ?_
  refine ccons (cont_iret) ?_
  refine ccons (cont_aload _ _) ?_
  refine ccons (cont_getR _ _ _) ?_
  refine ccons (cont_push _ _) ?_
  refine ccons (cont_callV _ _ _ _) ?_
  refine ccons (cont_iret) ?_
  refine ccons (cont_aload _ _) ?_
  refine ccons (cont_getR _ _ _) ?_
  refine ccons (cont_push _ _) ?_
  refine ccons (cont_callV _ _ _ _) ?_
  refine ccons (cont_iret) ?_
  refine ccons (cont_aload _ _) ?_
  refine ccons (cont_getR _ _ _) ?_
  refine ccons (cont_push _ _) ?_
  refine ccons (cont_callV _ _ _ _) ?_
  refine ccons (cont_iret) ?_
  refine ccons (cont_aload _ _) ?_
  refine ccons (cont_getR _ _ _) ?_
  refine ccons (cont_getI _ _ _) ?_
  refine ccons (cont_iret) ?_
  refine ccons (cont_aload _ _) ?_
  refine ccons (cont_getI _ _ _) ?_
  refine ccons (cont_iret) ?_
  refine ccons (cont_push _ _) ?_
  refine ccons (cont_iret) ?_
  exact cnil
theorem mgs_gX9_told (cut : List Nat) (n : Nat) : mgs (zlook tX9_told) cut gX9_told n = gX9_told := mgs_mev (ctab ctX9_told) cut n
def nX9_told : List Nat := [0, 73, 82, 91, 100, 109, 118]
set_option maxRecDepth 100000 in
theorem eX9_told_0 (M : MM) (x1 : Int32) : gX9_told 0 [some (.inr (some 0)), some (.inl x1)] [] M = (if (M 0 5) = (-1 : Int32) then some ((some (.inl (-1 : Int32))), M) else (if x1 = (0 : Int32) then some ((some (.inl (M 0 5))), M) else (if x1 = (1 : Int32) then (mX4_sort [.inr (some 3), .inl (0 : Int32)] M).bind (fun r => gX9_told 73 [some (.inr (some 0)), some (.inl x1)] (r.1.toList ++ []) r.2) else (if x1 = (2 : Int32) then (mX4_value [.inr (some 3), .inl (0 : Int32)] M).bind (fun r => gX9_told 82 [some (.inr (some 0)), some (.inl x1)] (r.1.toList ++ []) r.2) else (if x1 = (3 : Int32) then (mX4_cost [.inr (some 3), .inl (0 : Int32)] M).bind (fun r => gX9_told 91 [some (.inr (some 0)), some (.inl x1)] (r.1.toList ++ []) r.2) else (if x1 = (4 : Int32) then (mX4_sort [.inr (some 3), .inl (1 : Int32)] M).bind (fun r => gX9_told 100 [some (.inr (some 0)), some (.inl x1)] (r.1.toList ++ []) r.2) else (if x1 = (5 : Int32) then (mX4_value [.inr (some 3), .inl (1 : Int32)] M).bind (fun r => gX9_told 109 [some (.inr (some 0)), some (.inl x1)] (r.1.toList ++ []) r.2) else (if x1 = (6 : Int32) then (mX4_cost [.inr (some 3), .inl (1 : Int32)] M).bind (fun r => gX9_told 118 [some (.inr (some 0)), some (.inl x1)] (r.1.toList ++ []) r.2) else (if x1 = (7 : Int32) then some ((some (.inl (M 4 7))), M) else (if x1 = (8 : Int32) then some ((some (.inl (M 0 7))), M) else some ((some (.inl (-1 : Int32))), M))))))))))) := by
  have h : ∀ k : KT, mgs (zlook tX9_told) nX9_told k 10 0 [some (.inr (some 0)), some (.inl x1)] [] M = (if (M 0 5) = (-1 : Int32) then some ((some (.inl (-1 : Int32))), M) else (if x1 = (0 : Int32) then some ((some (.inl (M 0 5))), M) else (if x1 = (1 : Int32) then (mX4_sort [.inr (some 3), .inl (0 : Int32)] M).bind (fun r => k 73 [some (.inr (some 0)), some (.inl x1)] (r.1.toList ++ []) r.2) else (if x1 = (2 : Int32) then (mX4_value [.inr (some 3), .inl (0 : Int32)] M).bind (fun r => k 82 [some (.inr (some 0)), some (.inl x1)] (r.1.toList ++ []) r.2) else (if x1 = (3 : Int32) then (mX4_cost [.inr (some 3), .inl (0 : Int32)] M).bind (fun r => k 91 [some (.inr (some 0)), some (.inl x1)] (r.1.toList ++ []) r.2) else (if x1 = (4 : Int32) then (mX4_sort [.inr (some 3), .inl (1 : Int32)] M).bind (fun r => k 100 [some (.inr (some 0)), some (.inl x1)] (r.1.toList ++ []) r.2) else (if x1 = (5 : Int32) then (mX4_value [.inr (some 3), .inl (1 : Int32)] M).bind (fun r => k 109 [some (.inr (some 0)), some (.inl x1)] (r.1.toList ++ []) r.2) else (if x1 = (6 : Int32) then (mX4_cost [.inr (some 3), .inl (1 : Int32)] M).bind (fun r => k 118 [some (.inr (some 0)), some (.inl x1)] (r.1.toList ++ []) r.2) else (if x1 = (7 : Int32) then some ((some (.inl (M 4 7))), M) else (if x1 = (8 : Int32) then some ((some (.inl (M 0 7))), M) else some ((some (.inl (-1 : Int32))), M))))))))))) := fun k => rfl
  have h := h gX9_told
  rw [mgs_gX9_told] at h
  exact h
set_option maxRecDepth 100000 in
theorem eX9_told_73 (M : MM) (x1 : Int32) (xs0 : Int32) : gX9_told 73 [some (.inr (some 0)), some (.inl x1)] [.inl xs0] M = some ((some (.inl xs0)), M) := by
  have h : ∀ k : KT, mgs (zlook tX9_told) nX9_told k 1 73 [some (.inr (some 0)), some (.inl x1)] [.inl xs0] M = some ((some (.inl xs0)), M) := fun k => rfl
  have h := h gX9_told
  rw [mgs_gX9_told] at h
  exact h
set_option maxRecDepth 100000 in
theorem eX9_told_82 (M : MM) (x1 : Int32) (xs0 : Int32) : gX9_told 82 [some (.inr (some 0)), some (.inl x1)] [.inl xs0] M = some ((some (.inl xs0)), M) := by
  have h : ∀ k : KT, mgs (zlook tX9_told) nX9_told k 1 82 [some (.inr (some 0)), some (.inl x1)] [.inl xs0] M = some ((some (.inl xs0)), M) := fun k => rfl
  have h := h gX9_told
  rw [mgs_gX9_told] at h
  exact h
set_option maxRecDepth 100000 in
theorem eX9_told_91 (M : MM) (x1 : Int32) (xs0 : Int32) : gX9_told 91 [some (.inr (some 0)), some (.inl x1)] [.inl xs0] M = some ((some (.inl xs0)), M) := by
  have h : ∀ k : KT, mgs (zlook tX9_told) nX9_told k 1 91 [some (.inr (some 0)), some (.inl x1)] [.inl xs0] M = some ((some (.inl xs0)), M) := fun k => rfl
  have h := h gX9_told
  rw [mgs_gX9_told] at h
  exact h
set_option maxRecDepth 100000 in
theorem eX9_told_100 (M : MM) (x1 : Int32) (xs0 : Int32) : gX9_told 100 [some (.inr (some 0)), some (.inl x1)] [.inl xs0] M = some ((some (.inl xs0)), M) := by
  have h : ∀ k : KT, mgs (zlook tX9_told) nX9_told k 1 100 [some (.inr (some 0)), some (.inl x1)] [.inl xs0] M = some ((some (.inl xs0)), M) := fun k => rfl
  have h := h gX9_told
  rw [mgs_gX9_told] at h
  exact h
set_option maxRecDepth 100000 in
theorem eX9_told_109 (M : MM) (x1 : Int32) (xs0 : Int32) : gX9_told 109 [some (.inr (some 0)), some (.inl x1)] [.inl xs0] M = some ((some (.inl xs0)), M) := by
  have h : ∀ k : KT, mgs (zlook tX9_told) nX9_told k 1 109 [some (.inr (some 0)), some (.inl x1)] [.inl xs0] M = some ((some (.inl xs0)), M) := fun k => rfl
  have h := h gX9_told
  rw [mgs_gX9_told] at h
  exact h
set_option maxRecDepth 100000 in
theorem eX9_told_118 (M : MM) (x1 : Int32) (xs0 : Int32) : gX9_told 118 [some (.inr (some 0)), some (.inl x1)] [.inl xs0] M = some ((some (.inl xs0)), M) := by
  have h : ∀ k : KT, mgs (zlook tX9_told) nX9_told k 1 118 [some (.inr (some 0)), some (.inl x1)] [.inl xs0] M = some ((some (.inl xs0)), M) := fun k => rfl
  have h := h gX9_told
  rw [mgs_gX9_told] at h
  exact h
theorem iX9_told (M : MM) (x1 : Int32) : mX9_told [.inr (some 0), .inl x1] M = gX9_told 0 [some (.inr (some 0)), some (.inl x1)] [] M := rfl
noncomputable def gX9_about : KT := mev (zlook tX9_about)
theorem ctX9_about : ∀ q ∈ tX9_about, Cont q.2 := by
  refine ccons (cont_iload _ _) ?_
  refine ccons (cont_switch _ _) ?_
  refine ccons (cont_aload _ _) ?_
  refine ccons (cont_getR _ _ _) ?_
  refine ccons (cont_getI _ _ _) ?_
  refine ccons (cont_iret) ?_
  refine ccons (cont_aload _ _) ?_
  refine ccons (cont_getR _ _ _) ?_
  refine ccons (cont_getI _ _ _) ?_
  refine ccons (cont_iret) ?_
  refine ccons (cont_aload _ _) ?_
  refine ccons (cont_getR _ _ _) ?_
  refine ccons (cont_getI _ _ _) ?_
  refine ccons (cont_iret) ?_
  refine ccons (cont_aload _ _) ?_
  refine ccons (cont_getR _ _ _) ?_
  refine ccons (cont_callV _ _ _ _) ?_
  refine ccons (cont_iret) ?_
  refine ccons (cont_aload _ _) ?_
  refine ccons (cont_getR _ _ _) ?_
  refine ccons (cont_getI _ _ _) ?_
  refine ccons (cont_callS _ _ _) ?_
  refine ccons (cont_iret) ?_
  refine ccons (cont_aload _ _) ?_
  refine ccons (cont_getI _ _ _) ?_
  refine ccons (cont_iret) ?_
  refine ccons (cont_aload _ _) ?_
  refine ccons (cont_getR _ _ _) ?_
  refine ccons (cont_getI _ _ _) ?_
  refine ccons (cont_iret) ?_
  refine ccons (cont_aload _ _) ?_
  refine ccons (cont_getR _ _ _) ?_
  refine ccons (cont_callV _ _ _ _) ?_
  refine ccons (cont_iret) ?_
  refine ccons (cont_aload _ _) ?_
  refine ccons (cont_getR _ _ _) ?_
  refine ccons (cont_getI _ _ _) ?_
  refine ccons (cont_iret) ?_
  refine ccons (cont_push _ _) ?_
  refine ccons (cont_iret) ?_
  exact cnil
theorem mgs_gX9_about (cut : List Nat) (n : Nat) : mgs (zlook tX9_about) cut gX9_about n = gX9_about := mgs_mev (ctab ctX9_about) cut n
def nX9_about : List Nat := [0, 83, 94, 115]
set_option maxRecDepth 100000 in
theorem eX9_about_0 (M : MM) (x1 : Int32) : gX9_about 0 [some (.inr (some 0)), some (.inl x1)] [] M = (if x1 = (0 : Int32) then some ((some (.inl (M 4 3))), M) else (if x1 = (1 : Int32) then some ((some (.inl (M 4 4))), M) else (if x1 = (2 : Int32) then some ((some (.inl (M 4 8))), M) else (if x1 = (3 : Int32) then (mX1_countOpen [.inr (some 1)] M).bind (fun r => gX9_about 83 [some (.inr (some 0)), some (.inl x1)] (r.1.toList ++ []) r.2) else (if x1 = (4 : Int32) then (mX9_oneIf [.inl (M 4 5)] M).bind (fun r => gX9_about 94 [some (.inr (some 0)), some (.inl x1)] (r.1.toList ++ []) r.2) else (if x1 = (5 : Int32) then some ((some (.inl (M 0 6))), M) else (if x1 = (6 : Int32) then some ((some (.inl (M 1 1))), M) else (if x1 = (7 : Int32) then (mX1_countUnheard [.inr (some 1)] M).bind (fun r => gX9_about 115 [some (.inr (some 0)), some (.inl x1)] (r.1.toList ++ []) r.2) else (if x1 = (8 : Int32) then some ((some (.inl (M 2 3))), M) else some ((some (.inl (-1 : Int32))), M)))))))))) := by
  have h : ∀ k : KT, mgs (zlook tX9_about) nX9_about k 6 0 [some (.inr (some 0)), some (.inl x1)] [] M = (if x1 = (0 : Int32) then some ((some (.inl (M 4 3))), M) else (if x1 = (1 : Int32) then some ((some (.inl (M 4 4))), M) else (if x1 = (2 : Int32) then some ((some (.inl (M 4 8))), M) else (if x1 = (3 : Int32) then (mX1_countOpen [.inr (some 1)] M).bind (fun r => k 83 [some (.inr (some 0)), some (.inl x1)] (r.1.toList ++ []) r.2) else (if x1 = (4 : Int32) then (mX9_oneIf [.inl (M 4 5)] M).bind (fun r => k 94 [some (.inr (some 0)), some (.inl x1)] (r.1.toList ++ []) r.2) else (if x1 = (5 : Int32) then some ((some (.inl (M 0 6))), M) else (if x1 = (6 : Int32) then some ((some (.inl (M 1 1))), M) else (if x1 = (7 : Int32) then (mX1_countUnheard [.inr (some 1)] M).bind (fun r => k 115 [some (.inr (some 0)), some (.inl x1)] (r.1.toList ++ []) r.2) else (if x1 = (8 : Int32) then some ((some (.inl (M 2 3))), M) else some ((some (.inl (-1 : Int32))), M)))))))))) := fun k => rfl
  have h := h gX9_about
  rw [mgs_gX9_about] at h
  exact h
set_option maxRecDepth 100000 in
theorem eX9_about_83 (M : MM) (x1 : Int32) (xs0 : Int32) : gX9_about 83 [some (.inr (some 0)), some (.inl x1)] [.inl xs0] M = some ((some (.inl xs0)), M) := by
  have h : ∀ k : KT, mgs (zlook tX9_about) nX9_about k 1 83 [some (.inr (some 0)), some (.inl x1)] [.inl xs0] M = some ((some (.inl xs0)), M) := fun k => rfl
  have h := h gX9_about
  rw [mgs_gX9_about] at h
  exact h
set_option maxRecDepth 100000 in
theorem eX9_about_94 (M : MM) (x1 : Int32) (xs0 : Int32) : gX9_about 94 [some (.inr (some 0)), some (.inl x1)] [.inl xs0] M = some ((some (.inl xs0)), M) := by
  have h : ∀ k : KT, mgs (zlook tX9_about) nX9_about k 1 94 [some (.inr (some 0)), some (.inl x1)] [.inl xs0] M = some ((some (.inl xs0)), M) := fun k => rfl
  have h := h gX9_about
  rw [mgs_gX9_about] at h
  exact h
set_option maxRecDepth 100000 in
theorem eX9_about_115 (M : MM) (x1 : Int32) (xs0 : Int32) : gX9_about 115 [some (.inr (some 0)), some (.inl x1)] [.inl xs0] M = some ((some (.inl xs0)), M) := by
  have h : ∀ k : KT, mgs (zlook tX9_about) nX9_about k 1 115 [some (.inr (some 0)), some (.inl x1)] [.inl xs0] M = some ((some (.inl xs0)), M) := fun k => rfl
  have h := h gX9_about
  rw [mgs_gX9_about] at h
  exact h
theorem iX9_about (M : MM) (x1 : Int32) : mX9_about [.inr (some 0), .inl x1] M = gX9_about 0 [some (.inr (some 0)), some (.inl x1)] [] M := rfl
noncomputable def gX9_field : KT := mev (zlook tX9_field)
theorem ctX9_field : ∀ q ∈ tX9_field, Cont q.2 := by
  refine ccons (cont_aload _ _) ?_
  refine ccons (cont_getR _ _ _) ?_
  refine ccons (cont_iload _ _) ?_
  refine ccons (cont_callV _ _ _ _) ?_
  refine ccons (cont_astore _ _) ?_
  refine ccons (cont_aload _ _) ?_
  refine ccons (cont_nonnull _ _) ?_
  refine ccons (cont_push _ _) ?_
  refine ccons (cont_iret) ?_
  refine ccons (cont_iload _ _) ?_
  refine ccons (cont_switch _ _) ?_
  refine ccons (cont_aload _ _) ?_
  refine ccons (cont_getI _ _ _) ?_
  refine ccons (cont_iret) ?_
  refine ccons (cont_aload _ _) ?_
  refine ccons (cont_getI _ _ _) ?_
  refine ccons (cont_iret) ?_
  refine ccons (cont_aload _ _) ?_
  refine ccons (cont_getI _ _ _) ?_
  refine ccons (cont_iret) ?_
  refine ccons (cont_aload _ _) ?_
  refine ccons (cont_getI _ _ _) ?_
  refine ccons (cont_callS _ _ _) ?_
  refine ccons (cont_iret) ?_
  refine ccons (cont_aload _ _) ?_
  refine ccons (cont_getI _ _ _) ?_
  refine ccons (cont_callS _ _ _) ?_
  refine ccons (cont_iret) ?_
  refine ccons (cont_aload _ _) ?_
  refine ccons (cont_getI _ _ _) ?_
  refine ccons (cont_if_eq _ _) ?_
  refine ccons (cont_aload _ _) ?_
  refine ccons (cont_getI _ _ _) ?_
  refine ccons (cont_if_eq _ _) ?_
  refine ccons (cont_push _ _) ?_
  refine ccons (cont_goto _) ?_
  refine ccons (cont_push _ _) ?_
  refine ccons (cont_callS _ _ _) ?_
  refine ccons (cont_iret) ?_
  refine ccons (cont_aload _ _) ?_
  refine ccons (cont_getI _ _ _) ?_
  refine ccons (cont_callS _ _ _) ?_
  refine ccons (cont_iret) ?_
  refine ccons (cont_aload _ _) ?_
  refine ccons (cont_getI _ _ _) ?_
  refine ccons (cont_if_eq _ _) ?_
  refine ccons (cont_aload _ _) ?_
  refine ccons (cont_getI _ _ _) ?_
  refine ccons (cont_goto _) ?_
  refine ccons (cont_push _ _) ?_
  refine ccons (cont_iret) ?_
  refine ccons (cont_push _ _) ?_
  refine ccons (cont_iret) ?_
  exact cnil
theorem mgs_gX9_field (cut : List Nat) (n : Nat) : mgs (zlook tX9_field) cut gX9_field n = gX9_field := mgs_mev (ctab ctX9_field) cut n
def nX9_field : List Nat := [0, 8, 86, 94, 117, 125]
set_option maxRecDepth 100000 in
theorem eX9_field_0 (M : MM) (x1 : Int32) (x2 : Int32) : gX9_field 0 [some (.inr (some 0)), some (.inl x1), some (.inl x2), none] [] M = (mX1_slotAt [.inr (some 1), .inl x1] M).bind (fun r => gX9_field 8 [some (.inr (some 0)), some (.inl x1), some (.inl x2), none] (r.1.toList ++ []) r.2) := by
  have h : ∀ k : KT, mgs (zlook tX9_field) nX9_field k 4 0 [some (.inr (some 0)), some (.inl x1), some (.inl x2), none] [] M = (mX1_slotAt [.inr (some 1), .inl x1] M).bind (fun r => k 8 [some (.inr (some 0)), some (.inl x1), some (.inl x2), none] (r.1.toList ++ []) r.2) := fun k => rfl
  have h := h gX9_field
  rw [mgs_gX9_field] at h
  exact h
set_option maxRecDepth 100000 in
theorem eX9_field_8 (M : MM) (x1 : Int32) (x2 : Int32) (rs0 : Option Nat) : gX9_field 8 [some (.inr (some 0)), some (.inl x1), some (.inl x2), none] [.inr rs0] M = (match rs0 with | some _q1 => (if x2 = (0 : Int32) then (match rs0 with | some q11 => (if zkd q11 = 5 then some ((some (.inl (M q11 0))), M) else none) | none => none) else (if x2 = (1 : Int32) then (match rs0 with | some q10 => (if zkd q10 = 5 then some ((some (.inl (M q10 1))), M) else none) | none => none) else (if x2 = (2 : Int32) then (match rs0 with | some q9 => (if zkd q9 = 5 then some ((some (.inl (M q9 5))), M) else none) | none => none) else (if x2 = (3 : Int32) then (match rs0 with | some q8 => (if zkd q8 = 5 then (mX9_oneIf [.inl (M q8 8)] M).bind (fun r => gX9_field 86 [some (.inr (some 0)), some (.inl x1), some (.inl x2), some (.inr rs0)] (r.1.toList ++ []) r.2) else none) | none => none) else (if x2 = (4 : Int32) then (match rs0 with | some q7 => (if zkd q7 = 5 then (mX9_oneIf [.inl (M q7 9)] M).bind (fun r => gX9_field 94 [some (.inr (some 0)), some (.inl x1), some (.inl x2), some (.inr rs0)] (r.1.toList ++ []) r.2) else none) | none => none) else (if x2 = (5 : Int32) then (match rs0 with | some q5 => (if zkd q5 = 5 then (if (M q5 9) = 0 then (mX9_oneIf [.inl (0 : Int32)] M).bind (fun r => gX9_field 117 [some (.inr (some 0)), some (.inl x1), some (.inl x2), some (.inr rs0)] (r.1.toList ++ []) r.2) else (match rs0 with | some q6 => (if zkd q6 = 5 then (if (M q6 11) = 0 then (mX9_oneIf [.inl (0 : Int32)] M).bind (fun r => gX9_field 117 [some (.inr (some 0)), some (.inl x1), some (.inl x2), some (.inr rs0)] (r.1.toList ++ []) r.2) else (mX9_oneIf [.inl (1 : Int32)] M).bind (fun r => gX9_field 117 [some (.inr (some 0)), some (.inl x1), some (.inl x2), some (.inr rs0)] (r.1.toList ++ []) r.2)) else none) | none => none)) else none) | none => none) else (if x2 = (6 : Int32) then (match rs0 with | some q4 => (if zkd q4 = 5 then (mX9_oneIf [.inl (M q4 12)] M).bind (fun r => gX9_field 125 [some (.inr (some 0)), some (.inl x1), some (.inl x2), some (.inr rs0)] (r.1.toList ++ []) r.2) else none) | none => none) else (if x2 = (7 : Int32) then (match rs0 with | some q2 => (if zkd q2 = 5 then (if (M q2 9) = 0 then some ((some (.inl (-1 : Int32))), M) else (match rs0 with | some q3 => (if zkd q3 = 5 then some ((some (.inl (M q3 10))), M) else none) | none => none)) else none) | none => none) else some ((some (.inl (-1 : Int32))), M))))))))) | none => some ((some (.inl (-1 : Int32))), M)) := by
  have h : ∀ k : KT, mgs (zlook tX9_field) nX9_field k 14 8 [some (.inr (some 0)), some (.inl x1), some (.inl x2), none] [.inr rs0] M = (match rs0 with | some _q1 => (if x2 = (0 : Int32) then (match rs0 with | some q11 => (if zkd q11 = 5 then some ((some (.inl (M q11 0))), M) else none) | none => none) else (if x2 = (1 : Int32) then (match rs0 with | some q10 => (if zkd q10 = 5 then some ((some (.inl (M q10 1))), M) else none) | none => none) else (if x2 = (2 : Int32) then (match rs0 with | some q9 => (if zkd q9 = 5 then some ((some (.inl (M q9 5))), M) else none) | none => none) else (if x2 = (3 : Int32) then (match rs0 with | some q8 => (if zkd q8 = 5 then (mX9_oneIf [.inl (M q8 8)] M).bind (fun r => k 86 [some (.inr (some 0)), some (.inl x1), some (.inl x2), some (.inr rs0)] (r.1.toList ++ []) r.2) else none) | none => none) else (if x2 = (4 : Int32) then (match rs0 with | some q7 => (if zkd q7 = 5 then (mX9_oneIf [.inl (M q7 9)] M).bind (fun r => k 94 [some (.inr (some 0)), some (.inl x1), some (.inl x2), some (.inr rs0)] (r.1.toList ++ []) r.2) else none) | none => none) else (if x2 = (5 : Int32) then (match rs0 with | some q5 => (if zkd q5 = 5 then (if (M q5 9) = 0 then (mX9_oneIf [.inl (0 : Int32)] M).bind (fun r => k 117 [some (.inr (some 0)), some (.inl x1), some (.inl x2), some (.inr rs0)] (r.1.toList ++ []) r.2) else (match rs0 with | some q6 => (if zkd q6 = 5 then (if (M q6 11) = 0 then (mX9_oneIf [.inl (0 : Int32)] M).bind (fun r => k 117 [some (.inr (some 0)), some (.inl x1), some (.inl x2), some (.inr rs0)] (r.1.toList ++ []) r.2) else (mX9_oneIf [.inl (1 : Int32)] M).bind (fun r => k 117 [some (.inr (some 0)), some (.inl x1), some (.inl x2), some (.inr rs0)] (r.1.toList ++ []) r.2)) else none) | none => none)) else none) | none => none) else (if x2 = (6 : Int32) then (match rs0 with | some q4 => (if zkd q4 = 5 then (mX9_oneIf [.inl (M q4 12)] M).bind (fun r => k 125 [some (.inr (some 0)), some (.inl x1), some (.inl x2), some (.inr rs0)] (r.1.toList ++ []) r.2) else none) | none => none) else (if x2 = (7 : Int32) then (match rs0 with | some q2 => (if zkd q2 = 5 then (if (M q2 9) = 0 then some ((some (.inl (-1 : Int32))), M) else (match rs0 with | some q3 => (if zkd q3 = 5 then some ((some (.inl (M q3 10))), M) else none) | none => none)) else none) | none => none) else some ((some (.inl (-1 : Int32))), M))))))))) | none => some ((some (.inl (-1 : Int32))), M)) := by intro k; cases rs0 <;> rfl
  have h := h gX9_field
  rw [mgs_gX9_field] at h
  exact h
set_option maxRecDepth 100000 in
theorem eX9_field_86 (M : MM) (x1 : Int32) (x2 : Int32) (r3 : Option Nat) (xs0 : Int32) : gX9_field 86 [some (.inr (some 0)), some (.inl x1), some (.inl x2), some (.inr r3)] [.inl xs0] M = some ((some (.inl xs0)), M) := by
  have h : ∀ k : KT, mgs (zlook tX9_field) nX9_field k 1 86 [some (.inr (some 0)), some (.inl x1), some (.inl x2), some (.inr r3)] [.inl xs0] M = some ((some (.inl xs0)), M) := fun k => rfl
  have h := h gX9_field
  rw [mgs_gX9_field] at h
  exact h
set_option maxRecDepth 100000 in
theorem eX9_field_94 (M : MM) (x1 : Int32) (x2 : Int32) (r3 : Option Nat) (xs0 : Int32) : gX9_field 94 [some (.inr (some 0)), some (.inl x1), some (.inl x2), some (.inr r3)] [.inl xs0] M = some ((some (.inl xs0)), M) := by
  have h : ∀ k : KT, mgs (zlook tX9_field) nX9_field k 1 94 [some (.inr (some 0)), some (.inl x1), some (.inl x2), some (.inr r3)] [.inl xs0] M = some ((some (.inl xs0)), M) := fun k => rfl
  have h := h gX9_field
  rw [mgs_gX9_field] at h
  exact h
set_option maxRecDepth 100000 in
theorem eX9_field_117 (M : MM) (x1 : Int32) (x2 : Int32) (r3 : Option Nat) (xs0 : Int32) : gX9_field 117 [some (.inr (some 0)), some (.inl x1), some (.inl x2), some (.inr r3)] [.inl xs0] M = some ((some (.inl xs0)), M) := by
  have h : ∀ k : KT, mgs (zlook tX9_field) nX9_field k 1 117 [some (.inr (some 0)), some (.inl x1), some (.inl x2), some (.inr r3)] [.inl xs0] M = some ((some (.inl xs0)), M) := fun k => rfl
  have h := h gX9_field
  rw [mgs_gX9_field] at h
  exact h
set_option maxRecDepth 100000 in
theorem eX9_field_125 (M : MM) (x1 : Int32) (x2 : Int32) (r3 : Option Nat) (xs0 : Int32) : gX9_field 125 [some (.inr (some 0)), some (.inl x1), some (.inl x2), some (.inr r3)] [.inl xs0] M = some ((some (.inl xs0)), M) := by
  have h : ∀ k : KT, mgs (zlook tX9_field) nX9_field k 1 125 [some (.inr (some 0)), some (.inl x1), some (.inl x2), some (.inr r3)] [.inl xs0] M = some ((some (.inl xs0)), M) := fun k => rfl
  have h := h gX9_field
  rw [mgs_gX9_field] at h
  exact h
theorem iX9_field (M : MM) (x1 : Int32) (x2 : Int32) : mX9_field [.inr (some 0), .inl x1, .inl x2] M = gX9_field 0 [some (.inr (some 0)), some (.inl x1), some (.inl x2), none] [] M := rfl
noncomputable def gX9_hearBack : KT := mev (zlook tX9_hearBack)
theorem ctX9_hearBack : ∀ q ∈ tX9_hearBack, Cont q.2 := by
  refine ccons (cont_aload _ _) ?_
  refine ccons (cont_getR _ _ _) ?_
  refine ccons (cont_callV _ _ _ _) ?_
  refine ccons (cont_iret) ?_
  exact cnil
theorem mgs_gX9_hearBack (cut : List Nat) (n : Nat) : mgs (zlook tX9_hearBack) cut gX9_hearBack n = gX9_hearBack := mgs_mev (ctab ctX9_hearBack) cut n
def nX9_hearBack : List Nat := [0, 7]
set_option maxRecDepth 100000 in
theorem eX9_hearBack_0 (M : MM) : gX9_hearBack 0 [some (.inr (some 0))] [] M = (mX1_hearAllBack [.inr (some 1)] M).bind (fun r => gX9_hearBack 7 [some (.inr (some 0))] (r.1.toList ++ []) r.2) := by
  have h : ∀ k : KT, mgs (zlook tX9_hearBack) nX9_hearBack k 3 0 [some (.inr (some 0))] [] M = (mX1_hearAllBack [.inr (some 1)] M).bind (fun r => k 7 [some (.inr (some 0))] (r.1.toList ++ []) r.2) := fun k => rfl
  have h := h gX9_hearBack
  rw [mgs_gX9_hearBack] at h
  exact h
set_option maxRecDepth 100000 in
theorem eX9_hearBack_7 (M : MM) (xs0 : Int32) : gX9_hearBack 7 [some (.inr (some 0))] [.inl xs0] M = some ((some (.inl xs0)), M) := by
  have h : ∀ k : KT, mgs (zlook tX9_hearBack) nX9_hearBack k 1 7 [some (.inr (some 0))] [.inl xs0] M = some ((some (.inl xs0)), M) := fun k => rfl
  have h := h gX9_hearBack
  rw [mgs_gX9_hearBack] at h
  exact h
theorem iX9_hearBack (M : MM) : mX9_hearBack [.inr (some 0)] M = gX9_hearBack 0 [some (.inr (some 0))] [] M := rfl
noncomputable def gX9_send : KT := mev (zlook tX9_send)
theorem ctX9_send : ∀ q ∈ tX9_send, Cont q.2 := by
  refine ccons (cont_aload _ _) ?_
  refine ccons (cont_getR _ _ _) ?_
  refine ccons (cont_getI _ _ _) ?_
  refine ccons (cont_if_ne _ _) ?_
  refine ccons (cont_aload _ _) ?_
  refine ccons (cont_getR _ _ _) ?_
  refine ccons (cont_callV _ _ _ _) ?_
  refine ccons (cont_if_gt _ _) ?_
  refine ccons (cont_aload _ _) ?_
  refine ccons (cont_getR _ _ _) ?_
  refine ccons (cont_callV _ _ _ _) ?_
  refine ccons (cont_if_le _ _) ?_
  refine ccons (cont_push _ _) ?_
  refine ccons (cont_zret) ?_
  refine ccons (cont_aload _ _) ?_
  refine ccons (cont_getR _ _ _) ?_
  refine ccons (cont_push _ _) ?_
  refine ccons (cont_putZ _ _ _) ?_
  refine ccons (cont_push _ _) ?_
  refine ccons (cont_zret) ?_
  exact cnil
theorem mgs_gX9_send (cut : List Nat) (n : Nat) : mgs (zlook tX9_send) cut gX9_send n = gX9_send := mgs_mev (ctab ctX9_send) cut n
def nX9_send : List Nat := [0, 17, 27]
set_option maxRecDepth 100000 in
theorem eX9_send_0 (M : MM) : gX9_send 0 [some (.inr (some 0))] [] M = (if (M 4 6) = 0 then (mX1_countOpen [.inr (some 1)] M).bind (fun r => gX9_send 17 [some (.inr (some 0))] (r.1.toList ++ []) r.2) else some ((some (.inl (0 : Int32))), M)) := by
  have h : ∀ k : KT, mgs (zlook tX9_send) nX9_send k 7 0 [some (.inr (some 0))] [] M = (if (M 4 6) = 0 then (mX1_countOpen [.inr (some 1)] M).bind (fun r => k 17 [some (.inr (some 0))] (r.1.toList ++ []) r.2) else some ((some (.inl (0 : Int32))), M)) := fun k => rfl
  have h := h gX9_send
  rw [mgs_gX9_send] at h
  exact h
set_option maxRecDepth 100000 in
theorem eX9_send_17 (M : MM) (xs0 : Int32) : gX9_send 17 [some (.inr (some 0))] [.inl xs0] M = (if 0 < xs0 then some ((some (.inl (0 : Int32))), M) else (mX1_countUnheard [.inr (some 1)] M).bind (fun r => gX9_send 27 [some (.inr (some 0))] (r.1.toList ++ []) r.2)) := by
  have h : ∀ k : KT, mgs (zlook tX9_send) nX9_send k 4 17 [some (.inr (some 0))] [.inl xs0] M = (if 0 < xs0 then some ((some (.inl (0 : Int32))), M) else (mX1_countUnheard [.inr (some 1)] M).bind (fun r => k 27 [some (.inr (some 0))] (r.1.toList ++ []) r.2)) := fun k => rfl
  have h := h gX9_send
  rw [mgs_gX9_send] at h
  exact h
set_option maxRecDepth 100000 in
theorem eX9_send_27 (M : MM) (xs0 : Int32) : gX9_send 27 [some (.inr (some 0))] [.inl xs0] M = (if xs0 ≤ 0 then some ((some (.inl (1 : Int32))), (st2 M 4 6 (1 : Int32))) else some ((some (.inl (0 : Int32))), M)) := by
  have h : ∀ k : KT, mgs (zlook tX9_send) nX9_send k 7 27 [some (.inr (some 0))] [.inl xs0] M = (if xs0 ≤ 0 then some ((some (.inl (1 : Int32))), (st2 M 4 6 (1 : Int32))) else some ((some (.inl (0 : Int32))), M)) := fun k => rfl
  have h := h gX9_send
  rw [mgs_gX9_send] at h
  exact h
theorem iX9_send (M : MM) : mX9_send [.inr (some 0)] M = gX9_send 0 [some (.inr (some 0))] [] M := rfl
noncomputable def gX10_isIn : KT := mev (zlook tX10_isIn)
theorem ctX10_isIn : ∀ q ∈ tX10_isIn, Cont q.2 := by
  refine ccons (cont_iload _ _) ?_
  refine ccons (cont_iload _ _) ?_
  refine ccons (cont_c_lt _ _) ?_
  refine ccons (cont_iload _ _) ?_
  refine ccons (cont_iload _ _) ?_
  refine ccons (cont_c_gt _ _) ?_
  refine ccons (cont_push _ _) ?_
  refine ccons (cont_goto _) ?_
  refine ccons (cont_push _ _) ?_
  refine ccons (cont_zret) ?_
  exact cnil
theorem mgs_gX10_isIn (cut : List Nat) (n : Nat) : mgs (zlook tX10_isIn) cut gX10_isIn n = gX10_isIn := mgs_mev (ctab ctX10_isIn) cut n
def nX10_isIn : List Nat := [0]
set_option maxRecDepth 100000 in
theorem eX10_isIn_0 (M : MM) (x0 : Int32) (x1 : Int32) (x2 : Int32) : gX10_isIn 0 [some (.inl x0), some (.inl x1), some (.inl x2)] [] M = (if x0 < x1 then some ((some (.inl (0 : Int32))), M) else (if x2 < x0 then some ((some (.inl (0 : Int32))), M) else some ((some (.inl (1 : Int32))), M))) := by
  have h : ∀ k : KT, mgs (zlook tX10_isIn) nX10_isIn k 9 0 [some (.inl x0), some (.inl x1), some (.inl x2)] [] M = (if x0 < x1 then some ((some (.inl (0 : Int32))), M) else (if x2 < x0 then some ((some (.inl (0 : Int32))), M) else some ((some (.inl (1 : Int32))), M))) := fun k => rfl
  have h := h gX10_isIn
  rw [mgs_gX10_isIn] at h
  exact h
theorem iX10_isIn (M : MM) (x0 : Int32) (x1 : Int32) (x2 : Int32) : mX10_isIn [.inl x0, .inl x1, .inl x2] M = gX10_isIn 0 [some (.inl x0), some (.inl x1), some (.inl x2)] [] M := rfl
noncomputable def gX10_isField : KT := mev (zlook tX10_isField)
theorem ctX10_isField : ∀ q ∈ tX10_isField, Cont q.2 := by
  refine ccons (cont_iload _ _) ?_
  refine ccons (cont_push _ _) ?_
  refine ccons (cont_aload _ _) ?_
  refine ccons (cont_getI _ _ _) ?_
  refine ccons (cont_push _ _) ?_
  refine ccons (cont_bin _ _) ?_
  refine ccons (cont_callS _ _ _) ?_
  refine ccons (cont_zret) ?_
  exact cnil
theorem mgs_gX10_isField (cut : List Nat) (n : Nat) : mgs (zlook tX10_isField) cut gX10_isField n = gX10_isField := mgs_mev (ctab ctX10_isField) cut n
def nX10_isField : List Nat := [0, 11]
set_option maxRecDepth 100000 in
theorem eX10_isField_0 (M : MM) (x1 : Int32) : gX10_isField 0 [some (.inr (some 19)), some (.inl x1)] [] M = (mX10_isIn [.inl x1, .inl (0 : Int32), .inl ((M 19 0) - (1 : Int32))] M).bind (fun r => gX10_isField 11 [some (.inr (some 19)), some (.inl x1)] (r.1.toList ++ []) r.2) := by
  have h : ∀ k : KT, mgs (zlook tX10_isField) nX10_isField k 7 0 [some (.inr (some 19)), some (.inl x1)] [] M = (mX10_isIn [.inl x1, .inl (0 : Int32), .inl ((M 19 0) - (1 : Int32))] M).bind (fun r => k 11 [some (.inr (some 19)), some (.inl x1)] (r.1.toList ++ []) r.2) := fun k => rfl
  have h := h gX10_isField
  rw [mgs_gX10_isField] at h
  exact h
set_option maxRecDepth 100000 in
theorem eX10_isField_11 (M : MM) (x1 : Int32) (xs0 : Int32) : gX10_isField 11 [some (.inr (some 19)), some (.inl x1)] [.inl xs0] M = (if xs0 = 0 ∨ xs0 = 1 then some ((some (.inl xs0)), M) else none) := by
  have h : ∀ k : KT, mgs (zlook tX10_isField) nX10_isField k 1 11 [some (.inr (some 19)), some (.inl x1)] [.inl xs0] M = (if xs0 = 0 ∨ xs0 = 1 then some ((some (.inl xs0)), M) else none) := fun k => rfl
  have h := h gX10_isField
  rw [mgs_gX10_isField] at h
  exact h
theorem iX10_isField (M : MM) (x1 : Int32) : mX10_isField [.inr (some 19), .inl x1] M = gX10_isField 0 [some (.inr (some 19)), some (.inl x1)] [] M := rfl
noncomputable def gX10_isNew : KT := mev (zlook tX10_isNew)
theorem ctX10_isNew : ∀ q ∈ tX10_isNew, Cont q.2 := by
  refine ccons (cont_iload _ _) ?_
  refine ccons (cont_push _ _) ?_
  refine ccons (cont_push _ _) ?_
  refine ccons (cont_callS _ _ _) ?_
  refine ccons (cont_if_eq _ _) ?_
  refine ccons (cont_aload _ _) ?_
  refine ccons (cont_getI _ _ _) ?_
  refine ccons (cont_push _ _) ?_
  refine ccons (cont_c_eq _ _) ?_
  refine ccons (cont_aload _ _) ?_
  refine ccons (cont_getI _ _ _) ?_
  refine ccons (cont_if_eq _ _) ?_
  refine ccons (cont_push _ _) ?_
  refine ccons (cont_zret) ?_
  refine ccons (cont_push _ _) ?_
  refine ccons (cont_istore _ _) ?_
  refine ccons (cont_iload _ _) ?_
  refine ccons (cont_aload _ _) ?_
  refine ccons (cont_getI _ _ _) ?_
  refine ccons (cont_c_ge _ _) ?_
  refine ccons (cont_aload _ _) ?_
  refine ccons (cont_getR _ _ _) ?_
  refine ccons (cont_iload _ _) ?_
  refine ccons (cont_ald _ _) ?_
  refine ccons (cont_iload _ _) ?_
  refine ccons (cont_c_ne _ _) ?_
  refine ccons (cont_push _ _) ?_
  refine ccons (cont_zret) ?_
  refine ccons (cont_iinc _ _ _) ?_
  refine ccons (cont_goto _) ?_
  refine ccons (cont_push _ _) ?_
  refine ccons (cont_zret) ?_
  exact cnil
theorem mgs_gX10_isNew (cut : List Nat) (n : Nat) : mgs (zlook tX10_isNew) cut gX10_isNew n = gX10_isNew := mgs_mev (ctab ctX10_isNew) cut n
def nX10_isNew : List Nat := [0, 8, 31]
set_option maxRecDepth 100000 in
theorem eX10_isNew_0 (M : MM) (x1 : Int32) : gX10_isNew 0 [some (.inr (some 19)), some (.inl x1), none] [] M = (mX10_isIn [.inl x1, .inl (20 : Int32), .inl (59 : Int32)] M).bind (fun r => gX10_isNew 8 [some (.inr (some 19)), some (.inl x1), none] (r.1.toList ++ []) r.2) := by
  have h : ∀ k : KT, mgs (zlook tX10_isNew) nX10_isNew k 4 0 [some (.inr (some 19)), some (.inl x1), none] [] M = (mX10_isIn [.inl x1, .inl (20 : Int32), .inl (59 : Int32)] M).bind (fun r => k 8 [some (.inr (some 19)), some (.inl x1), none] (r.1.toList ++ []) r.2) := fun k => rfl
  have h := h gX10_isNew
  rw [mgs_gX10_isNew] at h
  exact h
set_option maxRecDepth 100000 in
theorem eX10_isNew_8 (M : MM) (x1 : Int32) (xs0 : Int32) : gX10_isNew 8 [some (.inr (some 19)), some (.inl x1), none] [.inl xs0] M = (if xs0 = 0 then some ((some (.inl (0 : Int32))), M) else (if (M 19 0) = (12 : Int32) then some ((some (.inl (0 : Int32))), M) else (if (M 19 26) = 0 then gX10_isNew 31 [some (.inr (some 19)), some (.inl x1), some (.inl (0 : Int32))] [] M else some ((some (.inl (0 : Int32))), M)))) := by
  have h : ∀ k : KT, mgs (zlook tX10_isNew) nX10_isNew k 10 8 [some (.inr (some 19)), some (.inl x1), none] [.inl xs0] M = (if xs0 = 0 then some ((some (.inl (0 : Int32))), M) else (if (M 19 0) = (12 : Int32) then some ((some (.inl (0 : Int32))), M) else (if (M 19 26) = 0 then k 31 [some (.inr (some 19)), some (.inl x1), some (.inl (0 : Int32))] [] M else some ((some (.inl (0 : Int32))), M)))) := fun k => rfl
  have h := h gX10_isNew
  rw [mgs_gX10_isNew] at h
  exact h
set_option maxRecDepth 100000 in
theorem eX10_isNew_31 (M : MM) (x1 : Int32) (x2 : Int32) : gX10_isNew 31 [some (.inr (some 19)), some (.inl x1), some (.inl x2)] [] M = (if (M 19 0) ≤ x2 then some ((some (.inl (1 : Int32))), M) else (if x2 < 0 ∨ 12 ≤ x2.toNatClampNeg then none else (if (M 20 x2.toNatClampNeg) = x1 then some ((some (.inl (0 : Int32))), M) else gX10_isNew 31 [some (.inr (some 19)), some (.inl x1), some (.inl (x2 + (1 : Int32)))] [] M))) := by
  have h : ∀ k : KT, mgs (zlook tX10_isNew) nX10_isNew k 12 31 [some (.inr (some 19)), some (.inl x1), some (.inl x2)] [] M = (if (M 19 0) ≤ x2 then some ((some (.inl (1 : Int32))), M) else (if x2 < 0 ∨ 12 ≤ x2.toNatClampNeg then none else (if (M 20 x2.toNatClampNeg) = x1 then some ((some (.inl (0 : Int32))), M) else k 31 [some (.inr (some 19)), some (.inl x1), some (.inl (x2 + (1 : Int32)))] [] M))) := fun k => rfl
  have h := h gX10_isNew
  rw [mgs_gX10_isNew] at h
  exact h
theorem iX10_isNew (M : MM) (x1 : Int32) : mX10_isNew [.inr (some 19), .inl x1] M = gX10_isNew 0 [some (.inr (some 19)), some (.inl x1), none] [] M := rfl
noncomputable def gX10_comes : KT := mev (zlook tX10_comes)
theorem ctX10_comes : ∀ q ∈ tX10_comes, Cont q.2 := by
  refine ccons (cont_aload _ _) ?_
  refine ccons (cont_getR _ _ _) ?_
  refine ccons (cont_aload _ _) ?_
  refine ccons (cont_getI _ _ _) ?_
  refine ccons (cont_iload _ _) ?_
  refine ccons (cont_ast _) ?_
  refine ccons (cont_aload _ _) ?_
  refine ccons (cont_getR _ _ _) ?_
  refine ccons (cont_aload _ _) ?_
  refine ccons (cont_getI _ _ _) ?_
  refine ccons (cont_iload _ _) ?_
  refine ccons (cont_zst _) ?_
  refine ccons (cont_aload _ _) ?_
  refine ccons (cont_getR _ _ _) ?_
  refine ccons (cont_aload _ _) ?_
  refine ccons (cont_getI _ _ _) ?_
  refine ccons (cont_push _ _) ?_
  refine ccons (cont_ast _) ?_
  refine ccons (cont_aload _ _) ?_
  refine ccons (cont_getR _ _ _) ?_
  refine ccons (cont_aload _ _) ?_
  refine ccons (cont_getI _ _ _) ?_
  refine ccons (cont_push _ _) ?_
  refine ccons (cont_ast _) ?_
  refine ccons (cont_aload _ _) ?_
  refine ccons (cont_getI _ _ _) ?_
  refine ccons (cont_if_ne _ _) ?_
  refine ccons (cont_aload _ _) ?_
  refine ccons (cont_push _ _) ?_
  refine ccons (cont_put _ _ _) ?_
  refine ccons (cont_aload _ _) ?_
  refine ccons (cont_dup _) ?_
  refine ccons (cont_getI _ _ _) ?_
  refine ccons (cont_push _ _) ?_
  refine ccons (cont_bin _ _) ?_
  refine ccons (cont_put _ _ _) ?_
  refine ccons (cont_aload _ _) ?_
  refine ccons (cont_getI _ _ _) ?_
  refine ccons (cont_push _ _) ?_
  refine ccons (cont_bin _ _) ?_
  refine ccons (cont_iret) ?_
  exact cnil
theorem mgs_gX10_comes (cut : List Nat) (n : Nat) : mgs (zlook tX10_comes) cut gX10_comes n = gX10_comes := mgs_mev (ctab ctX10_comes) cut n
def nX10_comes : List Nat := [0, 52]
set_option maxRecDepth 100000 in
theorem eX10_comes_0 (M : MM) (x1 : Int32) (x2 : Int32) : gX10_comes 0 [some (.inr (some 19)), some (.inl x1), some (.inl x2)] [] M = (if (M 19 0) < 0 ∨ 12 ≤ (M 19 0).toNatClampNeg then none else (if ((st2 M 20 (M 19 0).toNatClampNeg x1) 19 0) < 0 ∨ 12 ≤ ((st2 M 20 (M 19 0).toNatClampNeg x1) 19 0).toNatClampNeg then none else (if x2 = 0 ∨ x2 = 1 then (if ((st2 (st2 M 20 (M 19 0).toNatClampNeg x1) 24 ((st2 M 20 (M 19 0).toNatClampNeg x1) 19 0).toNatClampNeg x2) 19 0) < 0 ∨ 12 ≤ ((st2 (st2 M 20 (M 19 0).toNatClampNeg x1) 24 ((st2 M 20 (M 19 0).toNatClampNeg x1) 19 0).toNatClampNeg x2) 19 0).toNatClampNeg then none else (if ((st2 (st2 (st2 M 20 (M 19 0).toNatClampNeg x1) 24 ((st2 M 20 (M 19 0).toNatClampNeg x1) 19 0).toNatClampNeg x2) 26 ((st2 (st2 M 20 (M 19 0).toNatClampNeg x1) 24 ((st2 M 20 (M 19 0).toNatClampNeg x1) 19 0).toNatClampNeg x2) 19 0).toNatClampNeg (-1 : Int32)) 19 0) < 0 ∨ 12 ≤ ((st2 (st2 (st2 M 20 (M 19 0).toNatClampNeg x1) 24 ((st2 M 20 (M 19 0).toNatClampNeg x1) 19 0).toNatClampNeg x2) 26 ((st2 (st2 M 20 (M 19 0).toNatClampNeg x1) 24 ((st2 M 20 (M 19 0).toNatClampNeg x1) 19 0).toNatClampNeg x2) 19 0).toNatClampNeg (-1 : Int32)) 19 0).toNatClampNeg then none else (if ((st2 (st2 (st2 (st2 M 20 (M 19 0).toNatClampNeg x1) 24 ((st2 M 20 (M 19 0).toNatClampNeg x1) 19 0).toNatClampNeg x2) 26 ((st2 (st2 M 20 (M 19 0).toNatClampNeg x1) 24 ((st2 M 20 (M 19 0).toNatClampNeg x1) 19 0).toNatClampNeg x2) 19 0).toNatClampNeg (-1 : Int32)) 28 ((st2 (st2 (st2 M 20 (M 19 0).toNatClampNeg x1) 24 ((st2 M 20 (M 19 0).toNatClampNeg x1) 19 0).toNatClampNeg x2) 26 ((st2 (st2 M 20 (M 19 0).toNatClampNeg x1) 24 ((st2 M 20 (M 19 0).toNatClampNeg x1) 19 0).toNatClampNeg x2) 19 0).toNatClampNeg (-1 : Int32)) 19 0).toNatClampNeg (-1 : Int32)) 19 0) = 0 then gX10_comes 52 [some (.inr (some 19)), some (.inl x1), some (.inl x2)] [] (st2 (st2 (st2 (st2 (st2 M 20 (M 19 0).toNatClampNeg x1) 24 ((st2 M 20 (M 19 0).toNatClampNeg x1) 19 0).toNatClampNeg x2) 26 ((st2 (st2 M 20 (M 19 0).toNatClampNeg x1) 24 ((st2 M 20 (M 19 0).toNatClampNeg x1) 19 0).toNatClampNeg x2) 19 0).toNatClampNeg (-1 : Int32)) 28 ((st2 (st2 (st2 M 20 (M 19 0).toNatClampNeg x1) 24 ((st2 M 20 (M 19 0).toNatClampNeg x1) 19 0).toNatClampNeg x2) 26 ((st2 (st2 M 20 (M 19 0).toNatClampNeg x1) 24 ((st2 M 20 (M 19 0).toNatClampNeg x1) 19 0).toNatClampNeg x2) 19 0).toNatClampNeg (-1 : Int32)) 19 0).toNatClampNeg (-1 : Int32)) 19 29 (0 : Int32)) else gX10_comes 52 [some (.inr (some 19)), some (.inl x1), some (.inl x2)] [] (st2 (st2 (st2 (st2 M 20 (M 19 0).toNatClampNeg x1) 24 ((st2 M 20 (M 19 0).toNatClampNeg x1) 19 0).toNatClampNeg x2) 26 ((st2 (st2 M 20 (M 19 0).toNatClampNeg x1) 24 ((st2 M 20 (M 19 0).toNatClampNeg x1) 19 0).toNatClampNeg x2) 19 0).toNatClampNeg (-1 : Int32)) 28 ((st2 (st2 (st2 M 20 (M 19 0).toNatClampNeg x1) 24 ((st2 M 20 (M 19 0).toNatClampNeg x1) 19 0).toNatClampNeg x2) 26 ((st2 (st2 M 20 (M 19 0).toNatClampNeg x1) 24 ((st2 M 20 (M 19 0).toNatClampNeg x1) 19 0).toNatClampNeg x2) 19 0).toNatClampNeg (-1 : Int32)) 19 0).toNatClampNeg (-1 : Int32))))) else none))) := by
  have h : ∀ k : KT, mgs (zlook tX10_comes) nX10_comes k 30 0 [some (.inr (some 19)), some (.inl x1), some (.inl x2)] [] M = (if (M 19 0) < 0 ∨ 12 ≤ (M 19 0).toNatClampNeg then none else (if ((st2 M 20 (M 19 0).toNatClampNeg x1) 19 0) < 0 ∨ 12 ≤ ((st2 M 20 (M 19 0).toNatClampNeg x1) 19 0).toNatClampNeg then none else (if x2 = 0 ∨ x2 = 1 then (if ((st2 (st2 M 20 (M 19 0).toNatClampNeg x1) 24 ((st2 M 20 (M 19 0).toNatClampNeg x1) 19 0).toNatClampNeg x2) 19 0) < 0 ∨ 12 ≤ ((st2 (st2 M 20 (M 19 0).toNatClampNeg x1) 24 ((st2 M 20 (M 19 0).toNatClampNeg x1) 19 0).toNatClampNeg x2) 19 0).toNatClampNeg then none else (if ((st2 (st2 (st2 M 20 (M 19 0).toNatClampNeg x1) 24 ((st2 M 20 (M 19 0).toNatClampNeg x1) 19 0).toNatClampNeg x2) 26 ((st2 (st2 M 20 (M 19 0).toNatClampNeg x1) 24 ((st2 M 20 (M 19 0).toNatClampNeg x1) 19 0).toNatClampNeg x2) 19 0).toNatClampNeg (-1 : Int32)) 19 0) < 0 ∨ 12 ≤ ((st2 (st2 (st2 M 20 (M 19 0).toNatClampNeg x1) 24 ((st2 M 20 (M 19 0).toNatClampNeg x1) 19 0).toNatClampNeg x2) 26 ((st2 (st2 M 20 (M 19 0).toNatClampNeg x1) 24 ((st2 M 20 (M 19 0).toNatClampNeg x1) 19 0).toNatClampNeg x2) 19 0).toNatClampNeg (-1 : Int32)) 19 0).toNatClampNeg then none else (if ((st2 (st2 (st2 (st2 M 20 (M 19 0).toNatClampNeg x1) 24 ((st2 M 20 (M 19 0).toNatClampNeg x1) 19 0).toNatClampNeg x2) 26 ((st2 (st2 M 20 (M 19 0).toNatClampNeg x1) 24 ((st2 M 20 (M 19 0).toNatClampNeg x1) 19 0).toNatClampNeg x2) 19 0).toNatClampNeg (-1 : Int32)) 28 ((st2 (st2 (st2 M 20 (M 19 0).toNatClampNeg x1) 24 ((st2 M 20 (M 19 0).toNatClampNeg x1) 19 0).toNatClampNeg x2) 26 ((st2 (st2 M 20 (M 19 0).toNatClampNeg x1) 24 ((st2 M 20 (M 19 0).toNatClampNeg x1) 19 0).toNatClampNeg x2) 19 0).toNatClampNeg (-1 : Int32)) 19 0).toNatClampNeg (-1 : Int32)) 19 0) = 0 then k 52 [some (.inr (some 19)), some (.inl x1), some (.inl x2)] [] (st2 (st2 (st2 (st2 (st2 M 20 (M 19 0).toNatClampNeg x1) 24 ((st2 M 20 (M 19 0).toNatClampNeg x1) 19 0).toNatClampNeg x2) 26 ((st2 (st2 M 20 (M 19 0).toNatClampNeg x1) 24 ((st2 M 20 (M 19 0).toNatClampNeg x1) 19 0).toNatClampNeg x2) 19 0).toNatClampNeg (-1 : Int32)) 28 ((st2 (st2 (st2 M 20 (M 19 0).toNatClampNeg x1) 24 ((st2 M 20 (M 19 0).toNatClampNeg x1) 19 0).toNatClampNeg x2) 26 ((st2 (st2 M 20 (M 19 0).toNatClampNeg x1) 24 ((st2 M 20 (M 19 0).toNatClampNeg x1) 19 0).toNatClampNeg x2) 19 0).toNatClampNeg (-1 : Int32)) 19 0).toNatClampNeg (-1 : Int32)) 19 29 (0 : Int32)) else k 52 [some (.inr (some 19)), some (.inl x1), some (.inl x2)] [] (st2 (st2 (st2 (st2 M 20 (M 19 0).toNatClampNeg x1) 24 ((st2 M 20 (M 19 0).toNatClampNeg x1) 19 0).toNatClampNeg x2) 26 ((st2 (st2 M 20 (M 19 0).toNatClampNeg x1) 24 ((st2 M 20 (M 19 0).toNatClampNeg x1) 19 0).toNatClampNeg x2) 19 0).toNatClampNeg (-1 : Int32)) 28 ((st2 (st2 (st2 M 20 (M 19 0).toNatClampNeg x1) 24 ((st2 M 20 (M 19 0).toNatClampNeg x1) 19 0).toNatClampNeg x2) 26 ((st2 (st2 M 20 (M 19 0).toNatClampNeg x1) 24 ((st2 M 20 (M 19 0).toNatClampNeg x1) 19 0).toNatClampNeg x2) 19 0).toNatClampNeg (-1 : Int32)) 19 0).toNatClampNeg (-1 : Int32))))) else none))) := fun k => rfl
  have h := h gX10_comes
  rw [mgs_gX10_comes] at h
  exact h
set_option maxRecDepth 100000 in
theorem eX10_comes_52 (M : MM) (x1 : Int32) (x2 : Int32) : gX10_comes 52 [some (.inr (some 19)), some (.inl x1), some (.inl x2)] [] M = some ((some (.inl (((st2 M 19 0 ((M 19 0) + (1 : Int32))) 19 0) - (1 : Int32)))), (st2 M 19 0 ((M 19 0) + (1 : Int32)))) := by
  have h : ∀ k : KT, mgs (zlook tX10_comes) nX10_comes k 11 52 [some (.inr (some 19)), some (.inl x1), some (.inl x2)] [] M = some ((some (.inl (((st2 M 19 0 ((M 19 0) + (1 : Int32))) 19 0) - (1 : Int32)))), (st2 M 19 0 ((M 19 0) + (1 : Int32)))) := fun k => rfl
  have h := h gX10_comes
  rw [mgs_gX10_comes] at h
  exact h
theorem iX10_comes (M : MM) (x1 : Int32) (x2 : Int32) : mX10_comes [.inr (some 19), .inl x1, .inl x2] M = gX10_comes 0 [some (.inr (some 19)), some (.inl x1), some (.inl x2)] [] M := rfl
noncomputable def gX10_digits : KT := mev (zlook tX10_digits)
theorem ctX10_digits : ∀ q ∈ tX10_digits, Cont q.2 := by
  refine ccons (cont_aload _ _) ?_
  refine ccons (cont_iload _ _) ?_
  refine ccons (cont_callV _ _ _ _) ?_
  refine ccons (cont_if_eq _ _) ?_
  refine ccons (cont_iload _ _) ?_
  refine ccons (cont_push _ _) ?_
  refine ccons (cont_push _ _) ?_
  refine ccons (cont_callS _ _ _) ?_
  refine ccons (cont_if_ne _ _) ?_
  refine ccons (cont_push _ _) ?_
  refine ccons (cont_iret) ?_
  refine ccons (cont_aload _ _) ?_
  refine ccons (cont_getR _ _ _) ?_
  refine ccons (cont_aload _ _) ?_
  refine ccons (cont_getI _ _ _) ?_
  refine ccons (cont_iload _ _) ?_
  refine ccons (cont_ast _) ?_
  refine ccons (cont_aload _ _) ?_
  refine ccons (cont_getR _ _ _) ?_
  refine ccons (cont_aload _ _) ?_
  refine ccons (cont_getI _ _ _) ?_
  refine ccons (cont_iload _ _) ?_
  refine ccons (cont_zst _) ?_
  refine ccons (cont_aload _ _) ?_
  refine ccons (cont_iload _ _) ?_
  refine ccons (cont_iload _ _) ?_
  refine ccons (cont_callV _ _ _ _) ?_
  refine ccons (cont_iret) ?_
  exact cnil
theorem mgs_gX10_digits (cut : List Nat) (n : Nat) : mgs (zlook tX10_digits) cut gX10_digits n = gX10_digits := mgs_mev (ctab ctX10_digits) cut n
def nX10_digits : List Nat := [0, 5, 15, 47]
set_option maxRecDepth 100000 in
theorem eX10_digits_0 (M : MM) (x1 : Int32) (x2 : Int32) (x3 : Int32) (x4 : Int32) : gX10_digits 0 [some (.inr (some 19)), some (.inl x1), some (.inl x2), some (.inl x3), some (.inl x4)] [] M = (mX10_isNew [.inr (some 19), .inl x1] M).bind (fun r => gX10_digits 5 [some (.inr (some 19)), some (.inl x1), some (.inl x2), some (.inl x3), some (.inl x4)] (r.1.toList ++ []) r.2) := by
  have h : ∀ k : KT, mgs (zlook tX10_digits) nX10_digits k 3 0 [some (.inr (some 19)), some (.inl x1), some (.inl x2), some (.inl x3), some (.inl x4)] [] M = (mX10_isNew [.inr (some 19), .inl x1] M).bind (fun r => k 5 [some (.inr (some 19)), some (.inl x1), some (.inl x2), some (.inl x3), some (.inl x4)] (r.1.toList ++ []) r.2) := fun k => rfl
  have h := h gX10_digits
  rw [mgs_gX10_digits] at h
  exact h
set_option maxRecDepth 100000 in
theorem eX10_digits_5 (M : MM) (x1 : Int32) (x2 : Int32) (x3 : Int32) (x4 : Int32) (xs0 : Int32) : gX10_digits 5 [some (.inr (some 19)), some (.inl x1), some (.inl x2), some (.inl x3), some (.inl x4)] [.inl xs0] M = (if xs0 = 0 then some ((some (.inl (-1 : Int32))), M) else (mX10_isIn [.inl x2, .inl (1 : Int32), .inl (8 : Int32)] M).bind (fun r => gX10_digits 15 [some (.inr (some 19)), some (.inl x1), some (.inl x2), some (.inl x3), some (.inl x4)] (r.1.toList ++ []) r.2)) := by
  have h : ∀ k : KT, mgs (zlook tX10_digits) nX10_digits k 5 5 [some (.inr (some 19)), some (.inl x1), some (.inl x2), some (.inl x3), some (.inl x4)] [.inl xs0] M = (if xs0 = 0 then some ((some (.inl (-1 : Int32))), M) else (mX10_isIn [.inl x2, .inl (1 : Int32), .inl (8 : Int32)] M).bind (fun r => k 15 [some (.inr (some 19)), some (.inl x1), some (.inl x2), some (.inl x3), some (.inl x4)] (r.1.toList ++ []) r.2)) := fun k => rfl
  have h := h gX10_digits
  rw [mgs_gX10_digits] at h
  exact h
set_option maxRecDepth 100000 in
theorem eX10_digits_15 (M : MM) (x1 : Int32) (x2 : Int32) (x3 : Int32) (x4 : Int32) (xs0 : Int32) : gX10_digits 15 [some (.inr (some 19)), some (.inl x1), some (.inl x2), some (.inl x3), some (.inl x4)] [.inl xs0] M = (if xs0 = 0 then some ((some (.inl (-1 : Int32))), M) else (if (M 19 0) < 0 ∨ 12 ≤ (M 19 0).toNatClampNeg then none else (if ((st2 M 21 (M 19 0).toNatClampNeg x2) 19 0) < 0 ∨ 12 ≤ ((st2 M 21 (M 19 0).toNatClampNeg x2) 19 0).toNatClampNeg then none else (if x3 = 0 ∨ x3 = 1 then (mX10_comes [.inr (some 19), .inl x1, .inl x4] (st2 (st2 M 21 (M 19 0).toNatClampNeg x2) 23 ((st2 M 21 (M 19 0).toNatClampNeg x2) 19 0).toNatClampNeg x3)).bind (fun r => gX10_digits 47 [some (.inr (some 19)), some (.inl x1), some (.inl x2), some (.inl x3), some (.inl x4)] (r.1.toList ++ []) r.2) else none)))) := by
  have h : ∀ k : KT, mgs (zlook tX10_digits) nX10_digits k 17 15 [some (.inr (some 19)), some (.inl x1), some (.inl x2), some (.inl x3), some (.inl x4)] [.inl xs0] M = (if xs0 = 0 then some ((some (.inl (-1 : Int32))), M) else (if (M 19 0) < 0 ∨ 12 ≤ (M 19 0).toNatClampNeg then none else (if ((st2 M 21 (M 19 0).toNatClampNeg x2) 19 0) < 0 ∨ 12 ≤ ((st2 M 21 (M 19 0).toNatClampNeg x2) 19 0).toNatClampNeg then none else (if x3 = 0 ∨ x3 = 1 then (mX10_comes [.inr (some 19), .inl x1, .inl x4] (st2 (st2 M 21 (M 19 0).toNatClampNeg x2) 23 ((st2 M 21 (M 19 0).toNatClampNeg x2) 19 0).toNatClampNeg x3)).bind (fun r => k 47 [some (.inr (some 19)), some (.inl x1), some (.inl x2), some (.inl x3), some (.inl x4)] (r.1.toList ++ []) r.2) else none)))) := fun k => rfl
  have h := h gX10_digits
  rw [mgs_gX10_digits] at h
  exact h
set_option maxRecDepth 100000 in
theorem eX10_digits_47 (M : MM) (x1 : Int32) (x2 : Int32) (x3 : Int32) (x4 : Int32) (xs0 : Int32) : gX10_digits 47 [some (.inr (some 19)), some (.inl x1), some (.inl x2), some (.inl x3), some (.inl x4)] [.inl xs0] M = some ((some (.inl xs0)), M) := by
  have h : ∀ k : KT, mgs (zlook tX10_digits) nX10_digits k 1 47 [some (.inr (some 19)), some (.inl x1), some (.inl x2), some (.inl x3), some (.inl x4)] [.inl xs0] M = some ((some (.inl xs0)), M) := fun k => rfl
  have h := h gX10_digits
  rw [mgs_gX10_digits] at h
  exact h
theorem iX10_digits (M : MM) (x1 : Int32) (x2 : Int32) (x3 : Int32) (x4 : Int32) : mX10_digits [.inr (some 19), .inl x1, .inl x2, .inl x3, .inl x4] M = gX10_digits 0 [some (.inr (some 19)), some (.inl x1), some (.inl x2), some (.inl x3), some (.inl x4)] [] M := rfl
noncomputable def gX10_choice : KT := mev (zlook tX10_choice)
theorem ctX10_choice : ∀ q ∈ tX10_choice, Cont q.2 := by
  refine ccons (cont_aload _ _) ?_
  refine ccons (cont_getR _ _ _) ?_
  refine ccons (cont_push _ _) ?_
  refine ccons (cont_iload _ _) ?_
  refine ccons (cont_ast _) ?_
  refine ccons (cont_aload _ _) ?_
  refine ccons (cont_getR _ _ _) ?_
  refine ccons (cont_push _ _) ?_
  refine ccons (cont_iload _ _) ?_
  refine ccons (cont_ast _) ?_
  refine ccons (cont_aload _ _) ?_
  refine ccons (cont_getR _ _ _) ?_
  refine ccons (cont_push _ _) ?_
  refine ccons (cont_iload _ _) ?_
  refine ccons (cont_ast _) ?_
  refine ccons (cont_aload _ _) ?_
  refine ccons (cont_getR _ _ _) ?_
  refine ccons (cont_push _ _) ?_
  refine ccons (cont_iload _ _) ?_
  refine ccons (cont_ast _) ?_
  refine ccons (cont_aload _ _) ?_
  refine ccons (cont_getR _ _ _) ?_
  refine ccons (cont_push _ _) ?_
  refine ccons (cont_iload _ _) ?_
  refine ccons (cont_ast _) ?_
  refine ccons (cont_aload _ _) ?_
  refine ccons (cont_getR _ _ _) ?_
  refine ccons (cont_push _ _) ?_
  refine ccons (cont_iload _ _) ?_
  refine ccons (cont_ast _) ?_
  refine ccons (cont_push _ _) ?_
  refine ccons (cont_istore _ _) ?_
  refine ccons (cont_iload _ _) ?_
  refine ccons (cont_push _ _) ?_
  refine ccons (cont_c_ge _ _) ?_
  refine ccons (cont_aload _ _) ?_
  refine ccons (cont_getR _ _ _) ?_
  refine ccons (cont_iload _ _) ?_
  refine ccons (cont_ald _ _) ?_
  refine ccons (cont_push _ _) ?_
  refine ccons (cont_c_eq _ _) ?_
  refine ccons (cont_iinc _ _ _) ?_
  refine ccons (cont_goto _) ?_
  refine ccons (cont_aload _ _) ?_
  refine ccons (cont_iload _ _) ?_
  refine ccons (cont_callV _ _ _ _) ?_
  refine ccons (cont_if_eq _ _) ?_
  refine ccons (cont_iload _ _) ?_
  refine ccons (cont_if_le _ _) ?_
  refine ccons (cont_push _ _) ?_
  refine ccons (cont_goto _) ?_
  refine ccons (cont_push _ _) ?_
  refine ccons (cont_istore _ _) ?_
  refine ccons (cont_push _ _) ?_
  refine ccons (cont_istore _ _) ?_
  refine ccons (cont_iload _ _) ?_
  refine ccons (cont_iload _ _) ?_
  refine ccons (cont_c_ge _ _) ?_
  refine ccons (cont_iload _ _) ?_
  refine ccons (cont_if_eq _ _) ?_
  refine ccons (cont_aload _ _) ?_
  refine ccons (cont_getR _ _ _) ?_
  refine ccons (cont_iload _ _) ?_
  refine ccons (cont_ald _ _) ?_
  refine ccons (cont_push _ _) ?_
  refine ccons (cont_push _ _) ?_
  refine ccons (cont_callS _ _ _) ?_
  refine ccons (cont_if_eq _ _) ?_
  refine ccons (cont_push _ _) ?_
  refine ccons (cont_goto _) ?_
  refine ccons (cont_push _ _) ?_
  refine ccons (cont_istore _ _) ?_
  refine ccons (cont_push _ _) ?_
  refine ccons (cont_istore _ _) ?_
  refine ccons (cont_iload _ _) ?_
  refine ccons (cont_iload _ _) ?_
  refine ccons (cont_c_ge _ _) ?_
  refine ccons (cont_iload _ _) ?_
  refine ccons (cont_if_eq _ _) ?_
  refine ccons (cont_aload _ _) ?_
  refine ccons (cont_getR _ _ _) ?_
  refine ccons (cont_iload _ _) ?_
  refine ccons (cont_ald _ _) ?_
  refine ccons (cont_aload _ _) ?_
  refine ccons (cont_getR _ _ _) ?_
  refine ccons (cont_iload _ _) ?_
  refine ccons (cont_ald _ _) ?_
  refine ccons (cont_c_eq _ _) ?_
  refine ccons (cont_push _ _) ?_
  refine ccons (cont_goto _) ?_
  refine ccons (cont_push _ _) ?_
  refine ccons (cont_istore _ _) ?_
  refine ccons (cont_iinc _ _ _) ?_
  refine ccons (cont_goto _) ?_
  refine ccons (cont_iinc _ _ _) ?_
  refine ccons (cont_goto _) ?_
  refine ccons (cont_iload _ _) ?_
  refine ccons (cont_if_ne _ _) ?_
  refine ccons (cont_push _ _) ?_
  refine ccons (cont_iret) ?_
  refine ccons (cont_push _ _) ?_
  refine ccons (cont_istore _ _) ?_
  refine ccons (cont_iload _ _) ?_
  refine ccons (cont_iload _ _) ?_
  refine ccons (cont_c_ge _ _) ?_
  refine ccons (cont_aload _ _) ?_
  refine ccons (cont_getR _ _ _) ?_
  refine ccons (cont_push _ _) ?_
  refine ccons (cont_aload _ _) ?_
  refine ccons (cont_getI _ _ _) ?_
  refine ccons (cont_bin _ _) ?_
  refine ccons (cont_iload _ _) ?_
  refine ccons (cont_bin _ _) ?_
  refine ccons (cont_aload _ _) ?_
  refine ccons (cont_getR _ _ _) ?_
  refine ccons (cont_iload _ _) ?_
  refine ccons (cont_ald _ _) ?_
  refine ccons (cont_ast _) ?_
  refine ccons (cont_iinc _ _ _) ?_
  refine ccons (cont_goto _) ?_
  refine ccons (cont_aload _ _) ?_
  refine ccons (cont_getR _ _ _) ?_
  refine ccons (cont_aload _ _) ?_
  refine ccons (cont_getI _ _ _) ?_
  refine ccons (cont_iload _ _) ?_
  refine ccons (cont_ast _) ?_
  refine ccons (cont_aload _ _) ?_
  refine ccons (cont_iload _ _) ?_
  refine ccons (cont_iload _ _) ?_
  refine ccons (cont_callV _ _ _ _) ?_
  refine ccons (cont_iret) ?_
  exact cnil
theorem mgs_gX10_choice (cut : List Nat) (n : Nat) : mgs (zlook tX10_choice) cut gX10_choice n = gX10_choice := mgs_mev (ctab ctX10_choice) cut n
def nX10_choice : List Nat := [0, 50, 74, 79, 91, 92, 97, 123, 130, 131, 136, 194, 246]
set_option maxRecDepth 100000 in
theorem eX10_choice_0 (M : MM) (x1 : Int32) (x2 : Int32) (x3 : Int32) (x4 : Int32) (x5 : Int32) (x6 : Int32) (x7 : Int32) (x8 : Int32) : gX10_choice 0 [some (.inr (some 19)), some (.inl x1), some (.inl x2), some (.inl x3), some (.inl x4), some (.inl x5), some (.inl x6), some (.inl x7), some (.inl x8), none, none, none, none] [] M = gX10_choice 50 [some (.inr (some 19)), some (.inl x1), some (.inl x2), some (.inl x3), some (.inl x4), some (.inl x5), some (.inl x6), some (.inl x7), some (.inl x8), some (.inl (0 : Int32)), none, none, none] [] (st2 (st2 (st2 (st2 (st2 (st2 M 31 0 x3) 31 1 x4) 31 2 x5) 31 3 x6) 31 4 x7) 31 5 x8) := by
  have h : ∀ k : KT, mgs (zlook tX10_choice) nX10_choice k 32 0 [some (.inr (some 19)), some (.inl x1), some (.inl x2), some (.inl x3), some (.inl x4), some (.inl x5), some (.inl x6), some (.inl x7), some (.inl x8), none, none, none, none] [] M = k 50 [some (.inr (some 19)), some (.inl x1), some (.inl x2), some (.inl x3), some (.inl x4), some (.inl x5), some (.inl x6), some (.inl x7), some (.inl x8), some (.inl (0 : Int32)), none, none, none] [] (st2 (st2 (st2 (st2 (st2 (st2 M 31 0 x3) 31 1 x4) 31 2 x5) 31 3 x6) 31 4 x7) 31 5 x8) := fun k => rfl
  have h := h gX10_choice
  rw [mgs_gX10_choice] at h
  exact h
set_option maxRecDepth 100000 in
theorem eX10_choice_50 (M : MM) (x1 : Int32) (x2 : Int32) (x3 : Int32) (x4 : Int32) (x5 : Int32) (x6 : Int32) (x7 : Int32) (x8 : Int32) (x9 : Int32) : gX10_choice 50 [some (.inr (some 19)), some (.inl x1), some (.inl x2), some (.inl x3), some (.inl x4), some (.inl x5), some (.inl x6), some (.inl x7), some (.inl x8), some (.inl x9), none, none, none] [] M = (if (6 : Int32) ≤ x9 then gX10_choice 74 [some (.inr (some 19)), some (.inl x1), some (.inl x2), some (.inl x3), some (.inl x4), some (.inl x5), some (.inl x6), some (.inl x7), some (.inl x8), some (.inl x9), none, none, none] [] M else (if x9 < 0 ∨ 6 ≤ x9.toNatClampNeg then none else (if (M 31 x9.toNatClampNeg) = (-1 : Int32) then gX10_choice 74 [some (.inr (some 19)), some (.inl x1), some (.inl x2), some (.inl x3), some (.inl x4), some (.inl x5), some (.inl x6), some (.inl x7), some (.inl x8), some (.inl x9), none, none, none] [] M else gX10_choice 50 [some (.inr (some 19)), some (.inl x1), some (.inl x2), some (.inl x3), some (.inl x4), some (.inl x5), some (.inl x6), some (.inl x7), some (.inl x8), some (.inl (x9 + (1 : Int32))), none, none, none] [] M))) := by
  have h : ∀ k : KT, mgs (zlook tX10_choice) nX10_choice k 11 50 [some (.inr (some 19)), some (.inl x1), some (.inl x2), some (.inl x3), some (.inl x4), some (.inl x5), some (.inl x6), some (.inl x7), some (.inl x8), some (.inl x9), none, none, none] [] M = (if (6 : Int32) ≤ x9 then k 74 [some (.inr (some 19)), some (.inl x1), some (.inl x2), some (.inl x3), some (.inl x4), some (.inl x5), some (.inl x6), some (.inl x7), some (.inl x8), some (.inl x9), none, none, none] [] M else (if x9 < 0 ∨ 6 ≤ x9.toNatClampNeg then none else (if (M 31 x9.toNatClampNeg) = (-1 : Int32) then k 74 [some (.inr (some 19)), some (.inl x1), some (.inl x2), some (.inl x3), some (.inl x4), some (.inl x5), some (.inl x6), some (.inl x7), some (.inl x8), some (.inl x9), none, none, none] [] M else k 50 [some (.inr (some 19)), some (.inl x1), some (.inl x2), some (.inl x3), some (.inl x4), some (.inl x5), some (.inl x6), some (.inl x7), some (.inl x8), some (.inl (x9 + (1 : Int32))), none, none, none] [] M))) := fun k => rfl
  have h := h gX10_choice
  rw [mgs_gX10_choice] at h
  exact h
set_option maxRecDepth 100000 in
theorem eX10_choice_74 (M : MM) (x1 : Int32) (x2 : Int32) (x3 : Int32) (x4 : Int32) (x5 : Int32) (x6 : Int32) (x7 : Int32) (x8 : Int32) (x9 : Int32) : gX10_choice 74 [some (.inr (some 19)), some (.inl x1), some (.inl x2), some (.inl x3), some (.inl x4), some (.inl x5), some (.inl x6), some (.inl x7), some (.inl x8), some (.inl x9), none, none, none] [] M = (mX10_isNew [.inr (some 19), .inl x1] M).bind (fun r => gX10_choice 79 [some (.inr (some 19)), some (.inl x1), some (.inl x2), some (.inl x3), some (.inl x4), some (.inl x5), some (.inl x6), some (.inl x7), some (.inl x8), some (.inl x9), none, none, none] (r.1.toList ++ []) r.2) := by
  have h : ∀ k : KT, mgs (zlook tX10_choice) nX10_choice k 3 74 [some (.inr (some 19)), some (.inl x1), some (.inl x2), some (.inl x3), some (.inl x4), some (.inl x5), some (.inl x6), some (.inl x7), some (.inl x8), some (.inl x9), none, none, none] [] M = (mX10_isNew [.inr (some 19), .inl x1] M).bind (fun r => k 79 [some (.inr (some 19)), some (.inl x1), some (.inl x2), some (.inl x3), some (.inl x4), some (.inl x5), some (.inl x6), some (.inl x7), some (.inl x8), some (.inl x9), none, none, none] (r.1.toList ++ []) r.2) := fun k => rfl
  have h := h gX10_choice
  rw [mgs_gX10_choice] at h
  exact h
set_option maxRecDepth 100000 in
theorem eX10_choice_79 (M : MM) (x1 : Int32) (x2 : Int32) (x3 : Int32) (x4 : Int32) (x5 : Int32) (x6 : Int32) (x7 : Int32) (x8 : Int32) (x9 : Int32) (xs0 : Int32) : gX10_choice 79 [some (.inr (some 19)), some (.inl x1), some (.inl x2), some (.inl x3), some (.inl x4), some (.inl x5), some (.inl x6), some (.inl x7), some (.inl x8), some (.inl x9), none, none, none] [.inl xs0] M = (if xs0 = 0 then gX10_choice 91 [some (.inr (some 19)), some (.inl x1), some (.inl x2), some (.inl x3), some (.inl x4), some (.inl x5), some (.inl x6), some (.inl x7), some (.inl x8), some (.inl x9), none, none, none] [] M else (if x9 ≤ 0 then gX10_choice 91 [some (.inr (some 19)), some (.inl x1), some (.inl x2), some (.inl x3), some (.inl x4), some (.inl x5), some (.inl x6), some (.inl x7), some (.inl x8), some (.inl x9), none, none, none] [] M else gX10_choice 92 [some (.inr (some 19)), some (.inl x1), some (.inl x2), some (.inl x3), some (.inl x4), some (.inl x5), some (.inl x6), some (.inl x7), some (.inl x8), some (.inl x9), none, none, none] [.inl (1 : Int32)] M)) := by
  have h : ∀ k : KT, mgs (zlook tX10_choice) nX10_choice k 5 79 [some (.inr (some 19)), some (.inl x1), some (.inl x2), some (.inl x3), some (.inl x4), some (.inl x5), some (.inl x6), some (.inl x7), some (.inl x8), some (.inl x9), none, none, none] [.inl xs0] M = (if xs0 = 0 then k 91 [some (.inr (some 19)), some (.inl x1), some (.inl x2), some (.inl x3), some (.inl x4), some (.inl x5), some (.inl x6), some (.inl x7), some (.inl x8), some (.inl x9), none, none, none] [] M else (if x9 ≤ 0 then k 91 [some (.inr (some 19)), some (.inl x1), some (.inl x2), some (.inl x3), some (.inl x4), some (.inl x5), some (.inl x6), some (.inl x7), some (.inl x8), some (.inl x9), none, none, none] [] M else k 92 [some (.inr (some 19)), some (.inl x1), some (.inl x2), some (.inl x3), some (.inl x4), some (.inl x5), some (.inl x6), some (.inl x7), some (.inl x8), some (.inl x9), none, none, none] [.inl (1 : Int32)] M)) := fun k => rfl
  have h := h gX10_choice
  rw [mgs_gX10_choice] at h
  exact h
set_option maxRecDepth 100000 in
theorem eX10_choice_91 (M : MM) (x1 : Int32) (x2 : Int32) (x3 : Int32) (x4 : Int32) (x5 : Int32) (x6 : Int32) (x7 : Int32) (x8 : Int32) (x9 : Int32) : gX10_choice 91 [some (.inr (some 19)), some (.inl x1), some (.inl x2), some (.inl x3), some (.inl x4), some (.inl x5), some (.inl x6), some (.inl x7), some (.inl x8), some (.inl x9), none, none, none] [] M = gX10_choice 92 [some (.inr (some 19)), some (.inl x1), some (.inl x2), some (.inl x3), some (.inl x4), some (.inl x5), some (.inl x6), some (.inl x7), some (.inl x8), some (.inl x9), none, none, none] [.inl (0 : Int32)] M := by
  have h : ∀ k : KT, mgs (zlook tX10_choice) nX10_choice k 1 91 [some (.inr (some 19)), some (.inl x1), some (.inl x2), some (.inl x3), some (.inl x4), some (.inl x5), some (.inl x6), some (.inl x7), some (.inl x8), some (.inl x9), none, none, none] [] M = k 92 [some (.inr (some 19)), some (.inl x1), some (.inl x2), some (.inl x3), some (.inl x4), some (.inl x5), some (.inl x6), some (.inl x7), some (.inl x8), some (.inl x9), none, none, none] [.inl (0 : Int32)] M := fun k => rfl
  have h := h gX10_choice
  rw [mgs_gX10_choice] at h
  exact h
set_option maxRecDepth 100000 in
theorem eX10_choice_92 (M : MM) (x1 : Int32) (x2 : Int32) (x3 : Int32) (x4 : Int32) (x5 : Int32) (x6 : Int32) (x7 : Int32) (x8 : Int32) (x9 : Int32) (xs0 : Int32) : gX10_choice 92 [some (.inr (some 19)), some (.inl x1), some (.inl x2), some (.inl x3), some (.inl x4), some (.inl x5), some (.inl x6), some (.inl x7), some (.inl x8), some (.inl x9), none, none, none] [.inl xs0] M = gX10_choice 97 [some (.inr (some 19)), some (.inl x1), some (.inl x2), some (.inl x3), some (.inl x4), some (.inl x5), some (.inl x6), some (.inl x7), some (.inl x8), some (.inl x9), some (.inl xs0), some (.inl (0 : Int32)), none] [] M := by
  have h : ∀ k : KT, mgs (zlook tX10_choice) nX10_choice k 3 92 [some (.inr (some 19)), some (.inl x1), some (.inl x2), some (.inl x3), some (.inl x4), some (.inl x5), some (.inl x6), some (.inl x7), some (.inl x8), some (.inl x9), none, none, none] [.inl xs0] M = k 97 [some (.inr (some 19)), some (.inl x1), some (.inl x2), some (.inl x3), some (.inl x4), some (.inl x5), some (.inl x6), some (.inl x7), some (.inl x8), some (.inl x9), some (.inl xs0), some (.inl (0 : Int32)), none] [] M := fun k => rfl
  have h := h gX10_choice
  rw [mgs_gX10_choice] at h
  exact h
set_option maxRecDepth 100000 in
theorem eX10_choice_97 (M : MM) (x1 : Int32) (x2 : Int32) (x3 : Int32) (x4 : Int32) (x5 : Int32) (x6 : Int32) (x7 : Int32) (x8 : Int32) (x9 : Int32) (x10 : Int32) (x11 : Int32) (d12 : Option AV) : gX10_choice 97 [some (.inr (some 19)), some (.inl x1), some (.inl x2), some (.inl x3), some (.inl x4), some (.inl x5), some (.inl x6), some (.inl x7), some (.inl x8), some (.inl x9), some (.inl x10), some (.inl x11), d12] [] M = (if x9 ≤ x11 then (if x10 = 0 then some ((some (.inl (-1 : Int32))), M) else gX10_choice 194 [some (.inr (some 19)), some (.inl x1), some (.inl x2), some (.inl x3), some (.inl x4), some (.inl x5), some (.inl x6), some (.inl x7), some (.inl x8), some (.inl x9), some (.inl x10), some (.inl (0 : Int32)), d12] [] M) else (if x10 = 0 then gX10_choice 130 [some (.inr (some 19)), some (.inl x1), some (.inl x2), some (.inl x3), some (.inl x4), some (.inl x5), some (.inl x6), some (.inl x7), some (.inl x8), some (.inl x9), some (.inl x10), some (.inl x11), d12] [] M else (if x11 < 0 ∨ 6 ≤ x11.toNatClampNeg then none else (mX10_isIn [.inl (M 31 x11.toNatClampNeg), .inl (20 : Int32), .inl (59 : Int32)] M).bind (fun r => gX10_choice 123 [some (.inr (some 19)), some (.inl x1), some (.inl x2), some (.inl x3), some (.inl x4), some (.inl x5), some (.inl x6), some (.inl x7), some (.inl x8), some (.inl x9), some (.inl x10), some (.inl x11), d12] (r.1.toList ++ []) r.2)))) := by
  have h : ∀ k : KT, mgs (zlook tX10_choice) nX10_choice k 12 97 [some (.inr (some 19)), some (.inl x1), some (.inl x2), some (.inl x3), some (.inl x4), some (.inl x5), some (.inl x6), some (.inl x7), some (.inl x8), some (.inl x9), some (.inl x10), some (.inl x11), d12] [] M = (if x9 ≤ x11 then (if x10 = 0 then some ((some (.inl (-1 : Int32))), M) else k 194 [some (.inr (some 19)), some (.inl x1), some (.inl x2), some (.inl x3), some (.inl x4), some (.inl x5), some (.inl x6), some (.inl x7), some (.inl x8), some (.inl x9), some (.inl x10), some (.inl (0 : Int32)), d12] [] M) else (if x10 = 0 then k 130 [some (.inr (some 19)), some (.inl x1), some (.inl x2), some (.inl x3), some (.inl x4), some (.inl x5), some (.inl x6), some (.inl x7), some (.inl x8), some (.inl x9), some (.inl x10), some (.inl x11), d12] [] M else (if x11 < 0 ∨ 6 ≤ x11.toNatClampNeg then none else (mX10_isIn [.inl (M 31 x11.toNatClampNeg), .inl (20 : Int32), .inl (59 : Int32)] M).bind (fun r => k 123 [some (.inr (some 19)), some (.inl x1), some (.inl x2), some (.inl x3), some (.inl x4), some (.inl x5), some (.inl x6), some (.inl x7), some (.inl x8), some (.inl x9), some (.inl x10), some (.inl x11), d12] (r.1.toList ++ []) r.2)))) := fun k => rfl
  have h := h gX10_choice
  rw [mgs_gX10_choice] at h
  exact h
set_option maxRecDepth 100000 in
theorem eX10_choice_123 (M : MM) (x1 : Int32) (x2 : Int32) (x3 : Int32) (x4 : Int32) (x5 : Int32) (x6 : Int32) (x7 : Int32) (x8 : Int32) (x9 : Int32) (x10 : Int32) (x11 : Int32) (d12 : Option AV) (xs0 : Int32) : gX10_choice 123 [some (.inr (some 19)), some (.inl x1), some (.inl x2), some (.inl x3), some (.inl x4), some (.inl x5), some (.inl x6), some (.inl x7), some (.inl x8), some (.inl x9), some (.inl x10), some (.inl x11), d12] [.inl xs0] M = (if xs0 = 0 then gX10_choice 130 [some (.inr (some 19)), some (.inl x1), some (.inl x2), some (.inl x3), some (.inl x4), some (.inl x5), some (.inl x6), some (.inl x7), some (.inl x8), some (.inl x9), some (.inl x10), some (.inl x11), d12] [] M else gX10_choice 131 [some (.inr (some 19)), some (.inl x1), some (.inl x2), some (.inl x3), some (.inl x4), some (.inl x5), some (.inl x6), some (.inl x7), some (.inl x8), some (.inl x9), some (.inl x10), some (.inl x11), d12] [.inl (1 : Int32)] M) := by
  have h : ∀ k : KT, mgs (zlook tX10_choice) nX10_choice k 3 123 [some (.inr (some 19)), some (.inl x1), some (.inl x2), some (.inl x3), some (.inl x4), some (.inl x5), some (.inl x6), some (.inl x7), some (.inl x8), some (.inl x9), some (.inl x10), some (.inl x11), d12] [.inl xs0] M = (if xs0 = 0 then k 130 [some (.inr (some 19)), some (.inl x1), some (.inl x2), some (.inl x3), some (.inl x4), some (.inl x5), some (.inl x6), some (.inl x7), some (.inl x8), some (.inl x9), some (.inl x10), some (.inl x11), d12] [] M else k 131 [some (.inr (some 19)), some (.inl x1), some (.inl x2), some (.inl x3), some (.inl x4), some (.inl x5), some (.inl x6), some (.inl x7), some (.inl x8), some (.inl x9), some (.inl x10), some (.inl x11), d12] [.inl (1 : Int32)] M) := fun k => rfl
  have h := h gX10_choice
  rw [mgs_gX10_choice] at h
  exact h
set_option maxRecDepth 100000 in
theorem eX10_choice_130 (M : MM) (x1 : Int32) (x2 : Int32) (x3 : Int32) (x4 : Int32) (x5 : Int32) (x6 : Int32) (x7 : Int32) (x8 : Int32) (x9 : Int32) (x10 : Int32) (x11 : Int32) (d12 : Option AV) : gX10_choice 130 [some (.inr (some 19)), some (.inl x1), some (.inl x2), some (.inl x3), some (.inl x4), some (.inl x5), some (.inl x6), some (.inl x7), some (.inl x8), some (.inl x9), some (.inl x10), some (.inl x11), d12] [] M = gX10_choice 131 [some (.inr (some 19)), some (.inl x1), some (.inl x2), some (.inl x3), some (.inl x4), some (.inl x5), some (.inl x6), some (.inl x7), some (.inl x8), some (.inl x9), some (.inl x10), some (.inl x11), d12] [.inl (0 : Int32)] M := by
  have h : ∀ k : KT, mgs (zlook tX10_choice) nX10_choice k 1 130 [some (.inr (some 19)), some (.inl x1), some (.inl x2), some (.inl x3), some (.inl x4), some (.inl x5), some (.inl x6), some (.inl x7), some (.inl x8), some (.inl x9), some (.inl x10), some (.inl x11), d12] [] M = k 131 [some (.inr (some 19)), some (.inl x1), some (.inl x2), some (.inl x3), some (.inl x4), some (.inl x5), some (.inl x6), some (.inl x7), some (.inl x8), some (.inl x9), some (.inl x10), some (.inl x11), d12] [.inl (0 : Int32)] M := fun k => rfl
  have h := h gX10_choice
  rw [mgs_gX10_choice] at h
  exact h
set_option maxRecDepth 100000 in
theorem eX10_choice_131 (M : MM) (x1 : Int32) (x2 : Int32) (x3 : Int32) (x4 : Int32) (x5 : Int32) (x6 : Int32) (x7 : Int32) (x8 : Int32) (x9 : Int32) (x10 : Int32) (x11 : Int32) (d12 : Option AV) (xs0 : Int32) : gX10_choice 131 [some (.inr (some 19)), some (.inl x1), some (.inl x2), some (.inl x3), some (.inl x4), some (.inl x5), some (.inl x6), some (.inl x7), some (.inl x8), some (.inl x9), some (.inl x10), some (.inl x11), d12] [.inl xs0] M = gX10_choice 136 [some (.inr (some 19)), some (.inl x1), some (.inl x2), some (.inl x3), some (.inl x4), some (.inl x5), some (.inl x6), some (.inl x7), some (.inl x8), some (.inl x9), some (.inl xs0), some (.inl x11), some (.inl (0 : Int32))] [] M := by
  have h : ∀ k : KT, mgs (zlook tX10_choice) nX10_choice k 3 131 [some (.inr (some 19)), some (.inl x1), some (.inl x2), some (.inl x3), some (.inl x4), some (.inl x5), some (.inl x6), some (.inl x7), some (.inl x8), some (.inl x9), some (.inl x10), some (.inl x11), d12] [.inl xs0] M = k 136 [some (.inr (some 19)), some (.inl x1), some (.inl x2), some (.inl x3), some (.inl x4), some (.inl x5), some (.inl x6), some (.inl x7), some (.inl x8), some (.inl x9), some (.inl xs0), some (.inl x11), some (.inl (0 : Int32))] [] M := fun k => rfl
  have h := h gX10_choice
  rw [mgs_gX10_choice] at h
  exact h
set_option maxRecDepth 100000 in
theorem eX10_choice_136 (M : MM) (x1 : Int32) (x2 : Int32) (x3 : Int32) (x4 : Int32) (x5 : Int32) (x6 : Int32) (x7 : Int32) (x8 : Int32) (x9 : Int32) (x10 : Int32) (x11 : Int32) (x12 : Int32) : gX10_choice 136 [some (.inr (some 19)), some (.inl x1), some (.inl x2), some (.inl x3), some (.inl x4), some (.inl x5), some (.inl x6), some (.inl x7), some (.inl x8), some (.inl x9), some (.inl x10), some (.inl x11), some (.inl x12)] [] M = (if x11 ≤ x12 then gX10_choice 97 [some (.inr (some 19)), some (.inl x1), some (.inl x2), some (.inl x3), some (.inl x4), some (.inl x5), some (.inl x6), some (.inl x7), some (.inl x8), some (.inl x9), some (.inl x10), some (.inl (x11 + (1 : Int32))), some (.inl x12)] [] M else (if x10 = 0 then gX10_choice 136 [some (.inr (some 19)), some (.inl x1), some (.inl x2), some (.inl x3), some (.inl x4), some (.inl x5), some (.inl x6), some (.inl x7), some (.inl x8), some (.inl x9), some (.inl (0 : Int32)), some (.inl x11), some (.inl (x12 + (1 : Int32)))] [] M else (if x12 < 0 ∨ 6 ≤ x12.toNatClampNeg then none else (if x11 < 0 ∨ 6 ≤ x11.toNatClampNeg then none else (if (M 31 x12.toNatClampNeg) = (M 31 x11.toNatClampNeg) then gX10_choice 136 [some (.inr (some 19)), some (.inl x1), some (.inl x2), some (.inl x3), some (.inl x4), some (.inl x5), some (.inl x6), some (.inl x7), some (.inl x8), some (.inl x9), some (.inl (0 : Int32)), some (.inl x11), some (.inl (x12 + (1 : Int32)))] [] M else gX10_choice 136 [some (.inr (some 19)), some (.inl x1), some (.inl x2), some (.inl x3), some (.inl x4), some (.inl x5), some (.inl x6), some (.inl x7), some (.inl x8), some (.inl x9), some (.inl (1 : Int32)), some (.inl x11), some (.inl (x12 + (1 : Int32)))] [] M))))) := by
  have h : ∀ k : KT, mgs (zlook tX10_choice) nX10_choice k 19 136 [some (.inr (some 19)), some (.inl x1), some (.inl x2), some (.inl x3), some (.inl x4), some (.inl x5), some (.inl x6), some (.inl x7), some (.inl x8), some (.inl x9), some (.inl x10), some (.inl x11), some (.inl x12)] [] M = (if x11 ≤ x12 then k 97 [some (.inr (some 19)), some (.inl x1), some (.inl x2), some (.inl x3), some (.inl x4), some (.inl x5), some (.inl x6), some (.inl x7), some (.inl x8), some (.inl x9), some (.inl x10), some (.inl (x11 + (1 : Int32))), some (.inl x12)] [] M else (if x10 = 0 then k 136 [some (.inr (some 19)), some (.inl x1), some (.inl x2), some (.inl x3), some (.inl x4), some (.inl x5), some (.inl x6), some (.inl x7), some (.inl x8), some (.inl x9), some (.inl (0 : Int32)), some (.inl x11), some (.inl (x12 + (1 : Int32)))] [] M else (if x12 < 0 ∨ 6 ≤ x12.toNatClampNeg then none else (if x11 < 0 ∨ 6 ≤ x11.toNatClampNeg then none else (if (M 31 x12.toNatClampNeg) = (M 31 x11.toNatClampNeg) then k 136 [some (.inr (some 19)), some (.inl x1), some (.inl x2), some (.inl x3), some (.inl x4), some (.inl x5), some (.inl x6), some (.inl x7), some (.inl x8), some (.inl x9), some (.inl (0 : Int32)), some (.inl x11), some (.inl (x12 + (1 : Int32)))] [] M else k 136 [some (.inr (some 19)), some (.inl x1), some (.inl x2), some (.inl x3), some (.inl x4), some (.inl x5), some (.inl x6), some (.inl x7), some (.inl x8), some (.inl x9), some (.inl (1 : Int32)), some (.inl x11), some (.inl (x12 + (1 : Int32)))] [] M))))) := fun k => rfl
  have h := h gX10_choice
  rw [mgs_gX10_choice] at h
  exact h
set_option maxRecDepth 100000 in
theorem eX10_choice_194 (M : MM) (x1 : Int32) (x2 : Int32) (x3 : Int32) (x4 : Int32) (x5 : Int32) (x6 : Int32) (x7 : Int32) (x8 : Int32) (x9 : Int32) (x10 : Int32) (x11 : Int32) (d12 : Option AV) : gX10_choice 194 [some (.inr (some 19)), some (.inl x1), some (.inl x2), some (.inl x3), some (.inl x4), some (.inl x5), some (.inl x6), some (.inl x7), some (.inl x8), some (.inl x9), some (.inl x10), some (.inl x11), d12] [] M = (if x9 ≤ x11 then (if (M 19 0) < 0 ∨ 12 ≤ (M 19 0).toNatClampNeg then none else (mX10_comes [.inr (some 19), .inl x1, .inl x2] (st2 M 22 (M 19 0).toNatClampNeg x9)).bind (fun r => gX10_choice 246 [some (.inr (some 19)), some (.inl x1), some (.inl x2), some (.inl x3), some (.inl x4), some (.inl x5), some (.inl x6), some (.inl x7), some (.inl x8), some (.inl x9), some (.inl x10), some (.inl x11), d12] (r.1.toList ++ []) r.2)) else (if x11 < 0 ∨ 6 ≤ x11.toNatClampNeg then none else (if (((6 : Int32) * (M 19 0)) + x11) < 0 ∨ 72 ≤ (((6 : Int32) * (M 19 0)) + x11).toNatClampNeg then none else gX10_choice 194 [some (.inr (some 19)), some (.inl x1), some (.inl x2), some (.inl x3), some (.inl x4), some (.inl x5), some (.inl x6), some (.inl x7), some (.inl x8), some (.inl x9), some (.inl x10), some (.inl (x11 + (1 : Int32))), d12] [] (st2 M 25 (((6 : Int32) * (M 19 0)) + x11).toNatClampNeg (M 31 x11.toNatClampNeg))))) := by
  have h : ∀ k : KT, mgs (zlook tX10_choice) nX10_choice k 18 194 [some (.inr (some 19)), some (.inl x1), some (.inl x2), some (.inl x3), some (.inl x4), some (.inl x5), some (.inl x6), some (.inl x7), some (.inl x8), some (.inl x9), some (.inl x10), some (.inl x11), d12] [] M = (if x9 ≤ x11 then (if (M 19 0) < 0 ∨ 12 ≤ (M 19 0).toNatClampNeg then none else (mX10_comes [.inr (some 19), .inl x1, .inl x2] (st2 M 22 (M 19 0).toNatClampNeg x9)).bind (fun r => k 246 [some (.inr (some 19)), some (.inl x1), some (.inl x2), some (.inl x3), some (.inl x4), some (.inl x5), some (.inl x6), some (.inl x7), some (.inl x8), some (.inl x9), some (.inl x10), some (.inl x11), d12] (r.1.toList ++ []) r.2)) else (if x11 < 0 ∨ 6 ≤ x11.toNatClampNeg then none else (if (((6 : Int32) * (M 19 0)) + x11) < 0 ∨ 72 ≤ (((6 : Int32) * (M 19 0)) + x11).toNatClampNeg then none else k 194 [some (.inr (some 19)), some (.inl x1), some (.inl x2), some (.inl x3), some (.inl x4), some (.inl x5), some (.inl x6), some (.inl x7), some (.inl x8), some (.inl x9), some (.inl x10), some (.inl (x11 + (1 : Int32))), d12] [] (st2 M 25 (((6 : Int32) * (M 19 0)) + x11).toNatClampNeg (M 31 x11.toNatClampNeg))))) := fun k => rfl
  have h := h gX10_choice
  rw [mgs_gX10_choice] at h
  exact h
set_option maxRecDepth 100000 in
theorem eX10_choice_246 (M : MM) (x1 : Int32) (x2 : Int32) (x3 : Int32) (x4 : Int32) (x5 : Int32) (x6 : Int32) (x7 : Int32) (x8 : Int32) (x9 : Int32) (x10 : Int32) (x11 : Int32) (d12 : Option AV) (xs0 : Int32) : gX10_choice 246 [some (.inr (some 19)), some (.inl x1), some (.inl x2), some (.inl x3), some (.inl x4), some (.inl x5), some (.inl x6), some (.inl x7), some (.inl x8), some (.inl x9), some (.inl x10), some (.inl x11), d12] [.inl xs0] M = some ((some (.inl xs0)), M) := by
  have h : ∀ k : KT, mgs (zlook tX10_choice) nX10_choice k 1 246 [some (.inr (some 19)), some (.inl x1), some (.inl x2), some (.inl x3), some (.inl x4), some (.inl x5), some (.inl x6), some (.inl x7), some (.inl x8), some (.inl x9), some (.inl x10), some (.inl x11), d12] [.inl xs0] M = some ((some (.inl xs0)), M) := fun k => rfl
  have h := h gX10_choice
  rw [mgs_gX10_choice] at h
  exact h
theorem iX10_choice (M : MM) (x1 : Int32) (x2 : Int32) (x3 : Int32) (x4 : Int32) (x5 : Int32) (x6 : Int32) (x7 : Int32) (x8 : Int32) : mX10_choice [.inr (some 19), .inl x1, .inl x2, .inl x3, .inl x4, .inl x5, .inl x6, .inl x7, .inl x8] M = gX10_choice 0 [some (.inr (some 19)), some (.inl x1), some (.inl x2), some (.inl x3), some (.inl x4), some (.inl x5), some (.inl x6), some (.inl x7), some (.inl x8), none, none, none, none] [] M := rfl
noncomputable def gX10_needs : KT := mev (zlook tX10_needs)
theorem ctX10_needs : ∀ q ∈ tX10_needs, Cont q.2 := by
  refine ccons (cont_aload _ _) ?_
  refine ccons (cont_iload _ _) ?_
  refine ccons (cont_callV _ _ _ _) ?_
  refine ccons (cont_if_eq _ _) ?_
  refine ccons (cont_iload _ _) ?_
  refine ccons (cont_push _ _) ?_
  refine ccons (cont_iload _ _) ?_
  refine ccons (cont_push _ _) ?_
  refine ccons (cont_bin _ _) ?_
  refine ccons (cont_callS _ _ _) ?_
  refine ccons (cont_if_eq _ _) ?_
  refine ccons (cont_aload _ _) ?_
  refine ccons (cont_getR _ _ _) ?_
  refine ccons (cont_iload _ _) ?_
  refine ccons (cont_ald _ _) ?_
  refine ccons (cont_if_eq _ _) ?_
  refine ccons (cont_iload _ _) ?_
  refine ccons (cont_push _ _) ?_
  refine ccons (cont_aload _ _) ?_
  refine ccons (cont_getR _ _ _) ?_
  refine ccons (cont_iload _ _) ?_
  refine ccons (cont_ald _ _) ?_
  refine ccons (cont_push _ _) ?_
  refine ccons (cont_bin _ _) ?_
  refine ccons (cont_callS _ _ _) ?_
  refine ccons (cont_if_eq _ _) ?_
  refine ccons (cont_aload _ _) ?_
  refine ccons (cont_getI _ _ _) ?_
  refine ccons (cont_if_eq _ _) ?_
  refine ccons (cont_push _ _) ?_
  refine ccons (cont_zret) ?_
  refine ccons (cont_aload _ _) ?_
  refine ccons (cont_getR _ _ _) ?_
  refine ccons (cont_iload _ _) ?_
  refine ccons (cont_iload _ _) ?_
  refine ccons (cont_ast _) ?_
  refine ccons (cont_aload _ _) ?_
  refine ccons (cont_getR _ _ _) ?_
  refine ccons (cont_iload _ _) ?_
  refine ccons (cont_iload _ _) ?_
  refine ccons (cont_ast _) ?_
  refine ccons (cont_push _ _) ?_
  refine ccons (cont_zret) ?_
  exact cnil
theorem mgs_gX10_needs (cut : List Nat) (n : Nat) : mgs (zlook tX10_needs) cut gX10_needs n = gX10_needs := mgs_mev (ctab ctX10_needs) cut n
def nX10_needs : List Nat := [0, 5, 16, 41]
set_option maxRecDepth 100000 in
theorem eX10_needs_0 (M : MM) (x1 : Int32) (x2 : Int32) (x3 : Int32) : gX10_needs 0 [some (.inr (some 19)), some (.inl x1), some (.inl x2), some (.inl x3)] [] M = (mX10_isField [.inr (some 19), .inl x1] M).bind (fun r => gX10_needs 5 [some (.inr (some 19)), some (.inl x1), some (.inl x2), some (.inl x3)] (r.1.toList ++ []) r.2) := by
  have h : ∀ k : KT, mgs (zlook tX10_needs) nX10_needs k 3 0 [some (.inr (some 19)), some (.inl x1), some (.inl x2), some (.inl x3)] [] M = (mX10_isField [.inr (some 19), .inl x1] M).bind (fun r => k 5 [some (.inr (some 19)), some (.inl x1), some (.inl x2), some (.inl x3)] (r.1.toList ++ []) r.2) := fun k => rfl
  have h := h gX10_needs
  rw [mgs_gX10_needs] at h
  exact h
set_option maxRecDepth 100000 in
theorem eX10_needs_5 (M : MM) (x1 : Int32) (x2 : Int32) (x3 : Int32) (xs0 : Int32) : gX10_needs 5 [some (.inr (some 19)), some (.inl x1), some (.inl x2), some (.inl x3)] [.inl xs0] M = (if xs0 = 0 then some ((some (.inl (0 : Int32))), M) else (mX10_isIn [.inl x2, .inl (0 : Int32), .inl (x1 - (1 : Int32))] M).bind (fun r => gX10_needs 16 [some (.inr (some 19)), some (.inl x1), some (.inl x2), some (.inl x3)] (r.1.toList ++ []) r.2)) := by
  have h : ∀ k : KT, mgs (zlook tX10_needs) nX10_needs k 7 5 [some (.inr (some 19)), some (.inl x1), some (.inl x2), some (.inl x3)] [.inl xs0] M = (if xs0 = 0 then some ((some (.inl (0 : Int32))), M) else (mX10_isIn [.inl x2, .inl (0 : Int32), .inl (x1 - (1 : Int32))] M).bind (fun r => k 16 [some (.inr (some 19)), some (.inl x1), some (.inl x2), some (.inl x3)] (r.1.toList ++ []) r.2)) := fun k => rfl
  have h := h gX10_needs
  rw [mgs_gX10_needs] at h
  exact h
set_option maxRecDepth 100000 in
theorem eX10_needs_16 (M : MM) (x1 : Int32) (x2 : Int32) (x3 : Int32) (xs0 : Int32) : gX10_needs 16 [some (.inr (some 19)), some (.inl x1), some (.inl x2), some (.inl x3)] [.inl xs0] M = (if xs0 = 0 then some ((some (.inl (0 : Int32))), M) else (if x2 < 0 ∨ 12 ≤ x2.toNatClampNeg then none else (if (M 22 x2.toNatClampNeg) = 0 then some ((some (.inl (0 : Int32))), M) else (if x2 < 0 ∨ 12 ≤ x2.toNatClampNeg then none else (mX10_isIn [.inl x3, .inl (0 : Int32), .inl ((M 22 x2.toNatClampNeg) - (1 : Int32))] M).bind (fun r => gX10_needs 41 [some (.inr (some 19)), some (.inl x1), some (.inl x2), some (.inl x3)] (r.1.toList ++ []) r.2))))) := by
  have h : ∀ k : KT, mgs (zlook tX10_needs) nX10_needs k 15 16 [some (.inr (some 19)), some (.inl x1), some (.inl x2), some (.inl x3)] [.inl xs0] M = (if xs0 = 0 then some ((some (.inl (0 : Int32))), M) else (if x2 < 0 ∨ 12 ≤ x2.toNatClampNeg then none else (if (M 22 x2.toNatClampNeg) = 0 then some ((some (.inl (0 : Int32))), M) else (if x2 < 0 ∨ 12 ≤ x2.toNatClampNeg then none else (mX10_isIn [.inl x3, .inl (0 : Int32), .inl ((M 22 x2.toNatClampNeg) - (1 : Int32))] M).bind (fun r => k 41 [some (.inr (some 19)), some (.inl x1), some (.inl x2), some (.inl x3)] (r.1.toList ++ []) r.2))))) := fun k => rfl
  have h := h gX10_needs
  rw [mgs_gX10_needs] at h
  exact h
set_option maxRecDepth 100000 in
theorem eX10_needs_41 (M : MM) (x1 : Int32) (x2 : Int32) (x3 : Int32) (xs0 : Int32) : gX10_needs 41 [some (.inr (some 19)), some (.inl x1), some (.inl x2), some (.inl x3)] [.inl xs0] M = (if xs0 = 0 then some ((some (.inl (0 : Int32))), M) else (if (M 19 26) = 0 then (if x1 < 0 ∨ 12 ≤ x1.toNatClampNeg then none else (if x1 < 0 ∨ 12 ≤ x1.toNatClampNeg then none else some ((some (.inl (1 : Int32))), (st2 (st2 M 26 x1.toNatClampNeg x2) 27 x1.toNatClampNeg x3)))) else some ((some (.inl (0 : Int32))), M))) := by
  have h : ∀ k : KT, mgs (zlook tX10_needs) nX10_needs k 16 41 [some (.inr (some 19)), some (.inl x1), some (.inl x2), some (.inl x3)] [.inl xs0] M = (if xs0 = 0 then some ((some (.inl (0 : Int32))), M) else (if (M 19 26) = 0 then (if x1 < 0 ∨ 12 ≤ x1.toNatClampNeg then none else (if x1 < 0 ∨ 12 ≤ x1.toNatClampNeg then none else some ((some (.inl (1 : Int32))), (st2 (st2 M 26 x1.toNatClampNeg x2) 27 x1.toNatClampNeg x3)))) else some ((some (.inl (0 : Int32))), M))) := fun k => rfl
  have h := h gX10_needs
  rw [mgs_gX10_needs] at h
  exact h
theorem iX10_needs (M : MM) (x1 : Int32) (x2 : Int32) (x3 : Int32) : mX10_needs [.inr (some 19), .inl x1, .inl x2, .inl x3] M = gX10_needs 0 [some (.inr (some 19)), some (.inl x1), some (.inl x2), some (.inl x3)] [] M := rfl
noncomputable def gX10_costs : KT := mev (zlook tX10_costs)
theorem ctX10_costs : ∀ q ∈ tX10_costs, Cont q.2 := by
  refine ccons (cont_iload _ _) ?_
  refine ccons (cont_push _ _) ?_
  refine ccons (cont_push _ _) ?_
  refine ccons (cont_callS _ _ _) ?_
  refine ccons (cont_if_eq _ _) ?_
  refine ccons (cont_iload _ _) ?_
  refine ccons (cont_push _ _) ?_
  refine ccons (cont_push _ _) ?_
  refine ccons (cont_callS _ _ _) ?_
  refine ccons (cont_if_eq _ _) ?_
  refine ccons (cont_iload _ _) ?_
  refine ccons (cont_push _ _) ?_
  refine ccons (cont_push _ _) ?_
  refine ccons (cont_callS _ _ _) ?_
  refine ccons (cont_if_ne _ _) ?_
  refine ccons (cont_push _ _) ?_
  refine ccons (cont_zret) ?_
  refine ccons (cont_aload _ _) ?_
  refine ccons (cont_iload _ _) ?_
  refine ccons (cont_put _ _ _) ?_
  refine ccons (cont_aload _ _) ?_
  refine ccons (cont_iload _ _) ?_
  refine ccons (cont_put _ _ _) ?_
  refine ccons (cont_aload _ _) ?_
  refine ccons (cont_iload _ _) ?_
  refine ccons (cont_put _ _ _) ?_
  refine ccons (cont_push _ _) ?_
  refine ccons (cont_zret) ?_
  exact cnil
theorem mgs_gX10_costs (cut : List Nat) (n : Nat) : mgs (zlook tX10_costs) cut gX10_costs n = gX10_costs := mgs_mev (ctab ctX10_costs) cut n
def nX10_costs : List Nat := [0, 7, 17, 28]
set_option maxRecDepth 100000 in
theorem eX10_costs_0 (M : MM) (x1 : Int32) (x2 : Int32) (x3 : Int32) : gX10_costs 0 [some (.inr (some 19)), some (.inl x1), some (.inl x2), some (.inl x3)] [] M = (mX10_isIn [.inl x1, .inl (0 : Int32), .inl (99 : Int32)] M).bind (fun r => gX10_costs 7 [some (.inr (some 19)), some (.inl x1), some (.inl x2), some (.inl x3)] (r.1.toList ++ []) r.2) := by
  have h : ∀ k : KT, mgs (zlook tX10_costs) nX10_costs k 4 0 [some (.inr (some 19)), some (.inl x1), some (.inl x2), some (.inl x3)] [] M = (mX10_isIn [.inl x1, .inl (0 : Int32), .inl (99 : Int32)] M).bind (fun r => k 7 [some (.inr (some 19)), some (.inl x1), some (.inl x2), some (.inl x3)] (r.1.toList ++ []) r.2) := fun k => rfl
  have h := h gX10_costs
  rw [mgs_gX10_costs] at h
  exact h
set_option maxRecDepth 100000 in
theorem eX10_costs_7 (M : MM) (x1 : Int32) (x2 : Int32) (x3 : Int32) (xs0 : Int32) : gX10_costs 7 [some (.inr (some 19)), some (.inl x1), some (.inl x2), some (.inl x3)] [.inl xs0] M = (if xs0 = 0 then some ((some (.inl (0 : Int32))), M) else (mX10_isIn [.inl x2, .inl (0 : Int32), .inl (99 : Int32)] M).bind (fun r => gX10_costs 17 [some (.inr (some 19)), some (.inl x1), some (.inl x2), some (.inl x3)] (r.1.toList ++ []) r.2)) := by
  have h : ∀ k : KT, mgs (zlook tX10_costs) nX10_costs k 5 7 [some (.inr (some 19)), some (.inl x1), some (.inl x2), some (.inl x3)] [.inl xs0] M = (if xs0 = 0 then some ((some (.inl (0 : Int32))), M) else (mX10_isIn [.inl x2, .inl (0 : Int32), .inl (99 : Int32)] M).bind (fun r => k 17 [some (.inr (some 19)), some (.inl x1), some (.inl x2), some (.inl x3)] (r.1.toList ++ []) r.2)) := fun k => rfl
  have h := h gX10_costs
  rw [mgs_gX10_costs] at h
  exact h
set_option maxRecDepth 100000 in
theorem eX10_costs_17 (M : MM) (x1 : Int32) (x2 : Int32) (x3 : Int32) (xs0 : Int32) : gX10_costs 17 [some (.inr (some 19)), some (.inl x1), some (.inl x2), some (.inl x3)] [.inl xs0] M = (if xs0 = 0 then some ((some (.inl (0 : Int32))), M) else (mX10_isIn [.inl x3, .inl (0 : Int32), .inl (200 : Int32)] M).bind (fun r => gX10_costs 28 [some (.inr (some 19)), some (.inl x1), some (.inl x2), some (.inl x3)] (r.1.toList ++ []) r.2)) := by
  have h : ∀ k : KT, mgs (zlook tX10_costs) nX10_costs k 5 17 [some (.inr (some 19)), some (.inl x1), some (.inl x2), some (.inl x3)] [.inl xs0] M = (if xs0 = 0 then some ((some (.inl (0 : Int32))), M) else (mX10_isIn [.inl x3, .inl (0 : Int32), .inl (200 : Int32)] M).bind (fun r => k 28 [some (.inr (some 19)), some (.inl x1), some (.inl x2), some (.inl x3)] (r.1.toList ++ []) r.2)) := fun k => rfl
  have h := h gX10_costs
  rw [mgs_gX10_costs] at h
  exact h
set_option maxRecDepth 100000 in
theorem eX10_costs_28 (M : MM) (x1 : Int32) (x2 : Int32) (x3 : Int32) (xs0 : Int32) : gX10_costs 28 [some (.inr (some 19)), some (.inl x1), some (.inl x2), some (.inl x3)] [.inl xs0] M = (if xs0 = 0 then some ((some (.inl (0 : Int32))), M) else some ((some (.inl (1 : Int32))), (st2 (st2 (st2 M 19 12 x1) 19 13 x2) 19 14 x3))) := by
  have h : ∀ k : KT, mgs (zlook tX10_costs) nX10_costs k 12 28 [some (.inr (some 19)), some (.inl x1), some (.inl x2), some (.inl x3)] [.inl xs0] M = (if xs0 = 0 then some ((some (.inl (0 : Int32))), M) else some ((some (.inl (1 : Int32))), (st2 (st2 (st2 M 19 12 x1) 19 13 x2) 19 14 x3))) := fun k => rfl
  have h := h gX10_costs
  rw [mgs_gX10_costs] at h
  exact h
theorem iX10_costs (M : MM) (x1 : Int32) (x2 : Int32) (x3 : Int32) : mX10_costs [.inr (some 19), .inl x1, .inl x2, .inl x3] M = gX10_costs 0 [some (.inr (some 19)), some (.inl x1), some (.inl x2), some (.inl x3)] [] M := rfl
noncomputable def gX10_isAsked : KT := mev (zlook tX10_isAsked)
theorem ctX10_isAsked : ∀ q ∈ tX10_isAsked, Cont q.2 := by
  refine ccons (cont_iload _ _) ?_
  refine ccons (cont_istore _ _) ?_
  refine ccons (cont_aload _ _) ?_
  refine ccons (cont_getR _ _ _) ?_
  refine ccons (cont_iload _ _) ?_
  refine ccons (cont_ald _ _) ?_
  refine ccons (cont_if_lt _ _) ?_
  refine ccons (cont_aload _ _) ?_
  refine ccons (cont_getR _ _ _) ?_
  refine ccons (cont_aload _ _) ?_
  refine ccons (cont_getR _ _ _) ?_
  refine ccons (cont_iload _ _) ?_
  refine ccons (cont_ald _ _) ?_
  refine ccons (cont_ald _ _) ?_
  refine ccons (cont_aload _ _) ?_
  refine ccons (cont_getR _ _ _) ?_
  refine ccons (cont_iload _ _) ?_
  refine ccons (cont_ald _ _) ?_
  refine ccons (cont_c_eq _ _) ?_
  refine ccons (cont_push _ _) ?_
  refine ccons (cont_zret) ?_
  refine ccons (cont_aload _ _) ?_
  refine ccons (cont_getR _ _ _) ?_
  refine ccons (cont_iload _ _) ?_
  refine ccons (cont_ald _ _) ?_
  refine ccons (cont_istore _ _) ?_
  refine ccons (cont_goto _) ?_
  refine ccons (cont_push _ _) ?_
  refine ccons (cont_zret) ?_
  exact cnil
theorem mgs_gX10_isAsked (cut : List Nat) (n : Nat) : mgs (zlook tX10_isAsked) cut gX10_isAsked n = gX10_isAsked := mgs_mev (ctab ctX10_isAsked) cut n
def nX10_isAsked : List Nat := [0, 2]
set_option maxRecDepth 100000 in
theorem eX10_isAsked_0 (M : MM) (x1 : Int32) : gX10_isAsked 0 [some (.inr (some 19)), some (.inl x1), none] [] M = gX10_isAsked 2 [some (.inr (some 19)), some (.inl x1), some (.inl x1)] [] M := by
  have h : ∀ k : KT, mgs (zlook tX10_isAsked) nX10_isAsked k 2 0 [some (.inr (some 19)), some (.inl x1), none] [] M = k 2 [some (.inr (some 19)), some (.inl x1), some (.inl x1)] [] M := fun k => rfl
  have h := h gX10_isAsked
  rw [mgs_gX10_isAsked] at h
  exact h
set_option maxRecDepth 100000 in
theorem eX10_isAsked_2 (M : MM) (x1 : Int32) (x2 : Int32) : gX10_isAsked 2 [some (.inr (some 19)), some (.inl x1), some (.inl x2)] [] M = (if x2 < 0 ∨ 12 ≤ x2.toNatClampNeg then none else (if (M 26 x2.toNatClampNeg) < 0 then some ((some (.inl (1 : Int32))), M) else (if x2 < 0 ∨ 12 ≤ x2.toNatClampNeg then none else (if (M 26 x2.toNatClampNeg) < 0 ∨ 12 ≤ (M 26 x2.toNatClampNeg).toNatClampNeg then none else (if x2 < 0 ∨ 12 ≤ x2.toNatClampNeg then none else (if (M 28 (M 26 x2.toNatClampNeg).toNatClampNeg) = (M 27 x2.toNatClampNeg) then (if x2 < 0 ∨ 12 ≤ x2.toNatClampNeg then none else gX10_isAsked 2 [some (.inr (some 19)), some (.inl x1), some (.inl (M 26 x2.toNatClampNeg))] [] M) else some ((some (.inl (0 : Int32))), M))))))) := by
  have h : ∀ k : KT, mgs (zlook tX10_isAsked) nX10_isAsked k 23 2 [some (.inr (some 19)), some (.inl x1), some (.inl x2)] [] M = (if x2 < 0 ∨ 12 ≤ x2.toNatClampNeg then none else (if (M 26 x2.toNatClampNeg) < 0 then some ((some (.inl (1 : Int32))), M) else (if x2 < 0 ∨ 12 ≤ x2.toNatClampNeg then none else (if (M 26 x2.toNatClampNeg) < 0 ∨ 12 ≤ (M 26 x2.toNatClampNeg).toNatClampNeg then none else (if x2 < 0 ∨ 12 ≤ x2.toNatClampNeg then none else (if (M 28 (M 26 x2.toNatClampNeg).toNatClampNeg) = (M 27 x2.toNatClampNeg) then (if x2 < 0 ∨ 12 ≤ x2.toNatClampNeg then none else k 2 [some (.inr (some 19)), some (.inl x1), some (.inl (M 26 x2.toNatClampNeg))] [] M) else some ((some (.inl (0 : Int32))), M))))))) := fun k => rfl
  have h := h gX10_isAsked
  rw [mgs_gX10_isAsked] at h
  exact h
theorem iX10_isAsked (M : MM) (x1 : Int32) : mX10_isAsked [.inr (some 19), .inl x1] M = gX10_isAsked 0 [some (.inr (some 19)), some (.inl x1), none] [] M := rfl
