/-! Segments of runs: what a run from a cut point on comes to (written by wip/whole/seg.py). -/
noncomputable def gX1_addDigits : KT := mev (zlook tX1_addDigits)
theorem ctX1_addDigits : ∀ q ∈ tX1_addDigits, Cont q.2 := by
  refine ccons (cont_aload _ _) ?_
  refine ccons (cont_iload _ _) ?_
  refine ccons (cont_iload _ _) ?_
  refine ccons (cont_callV _ _ _ _) ?_
  refine ccons (cont_istore _ _) ?_
  refine ccons (cont_aload _ _) ?_
  refine ccons (cont_iload _ _) ?_
  refine ccons (cont_callV _ _ _ _) ?_
  refine ccons (cont_astore _ _) ?_
  refine ccons (cont_aload _ _) ?_
  refine ccons (cont_null _ _) ?_
  refine ccons (cont_aload _ _) ?_
  refine ccons (cont_iload _ _) ?_
  refine ccons (cont_put _ _ _) ?_
  refine ccons (cont_aload _ _) ?_
  refine ccons (cont_iload _ _) ?_
  refine ccons (cont_putZ _ _ _) ?_
  refine ccons (cont_iload _ _) ?_
  refine ccons (cont_iret) ?_
  exact cnil
theorem mgs_gX1_addDigits (cut : List Nat) (n : Nat) : mgs (zlook tX1_addDigits) cut gX1_addDigits n = gX1_addDigits := mgs_mev (ctab ctX1_addDigits) cut n
def nX1_addDigits : List Nat := [0, 7, 15]
set_option maxRecDepth 100000 in
theorem eX1_addDigits_0 (M : MM) (x1 : Int32) (x2 : Int32) (x3 : Int32) (x4 : Int32) : gX1_addDigits 0 [some (.inr (some 1)), some (.inl x1), some (.inl x2), some (.inl x3), some (.inl x4), none, none] [] M = (mX1_addSlot [.inr (some 1), .inl x1, .inl x4] M).bind (fun r => gX1_addDigits 7 [some (.inr (some 1)), some (.inl x1), some (.inl x2), some (.inl x3), some (.inl x4), none, none] (r.1.toList ++ []) r.2) := by
  have h : ∀ k : KT, mgs (zlook tX1_addDigits) nX1_addDigits k 4 0 [some (.inr (some 1)), some (.inl x1), some (.inl x2), some (.inl x3), some (.inl x4), none, none] [] M = (mX1_addSlot [.inr (some 1), .inl x1, .inl x4] M).bind (fun r => k 7 [some (.inr (some 1)), some (.inl x1), some (.inl x2), some (.inl x3), some (.inl x4), none, none] (r.1.toList ++ []) r.2) := fun k => rfl
  have h := h gX1_addDigits
  rw [mgs_gX1_addDigits] at h
  exact h
set_option maxRecDepth 100000 in
theorem eX1_addDigits_7 (M : MM) (x1 : Int32) (x2 : Int32) (x3 : Int32) (x4 : Int32) (xs0 : Int32) : gX1_addDigits 7 [some (.inr (some 1)), some (.inl x1), some (.inl x2), some (.inl x3), some (.inl x4), none, none] [.inl xs0] M = (mX1_slotAt [.inr (some 1), .inl xs0] M).bind (fun r => gX1_addDigits 15 [some (.inr (some 1)), some (.inl x1), some (.inl x2), some (.inl x3), some (.inl x4), some (.inl xs0), none] (r.1.toList ++ []) r.2) := by
  have h : ∀ k : KT, mgs (zlook tX1_addDigits) nX1_addDigits k 4 7 [some (.inr (some 1)), some (.inl x1), some (.inl x2), some (.inl x3), some (.inl x4), none, none] [.inl xs0] M = (mX1_slotAt [.inr (some 1), .inl xs0] M).bind (fun r => k 15 [some (.inr (some 1)), some (.inl x1), some (.inl x2), some (.inl x3), some (.inl x4), some (.inl xs0), none] (r.1.toList ++ []) r.2) := fun k => rfl
  have h := h gX1_addDigits
  rw [mgs_gX1_addDigits] at h
  exact h
set_option maxRecDepth 100000 in
theorem eX1_addDigits_15 (M : MM) (x1 : Int32) (x2 : Int32) (x3 : Int32) (x4 : Int32) (x5 : Int32) (rs0 : Option Nat) : gX1_addDigits 15 [some (.inr (some 1)), some (.inl x1), some (.inl x2), some (.inl x3), some (.inl x4), some (.inl x5), none] [.inr rs0] M = (match rs0 with | some _q1 => (match rs0 with | some q2 => (if zkd q2 = 5 then (match rs0 with | some q3 => (if zkd q3 = 5 then (if x3 = 0 ∨ x3 = 1 then some ((some (.inl x5)), (st2 (st2 M q2 1 x2) q3 2 x3)) else none) else none) | none => none) else none) | none => none) | none => some ((some (.inl x5)), M)) := by
  have h : ∀ k : KT, mgs (zlook tX1_addDigits) nX1_addDigits k 11 15 [some (.inr (some 1)), some (.inl x1), some (.inl x2), some (.inl x3), some (.inl x4), some (.inl x5), none] [.inr rs0] M = (match rs0 with | some _q1 => (match rs0 with | some q2 => (if zkd q2 = 5 then (match rs0 with | some q3 => (if zkd q3 = 5 then (if x3 = 0 ∨ x3 = 1 then some ((some (.inl x5)), (st2 (st2 M q2 1 x2) q3 2 x3)) else none) else none) | none => none) else none) | none => none) | none => some ((some (.inl x5)), M)) := by intro k; cases rs0 <;> rfl
  have h := h gX1_addDigits
  rw [mgs_gX1_addDigits] at h
  exact h
theorem iX1_addDigits (M : MM) (x1 : Int32) (x2 : Int32) (x3 : Int32) (x4 : Int32) : mX1_addDigits [.inr (some 1), .inl x1, .inl x2, .inl x3, .inl x4] M = gX1_addDigits 0 [some (.inr (some 1)), some (.inl x1), some (.inl x2), some (.inl x3), some (.inl x4), none, none] [] M := rfl
noncomputable def gX1_addChoice : KT := mev (zlook tX1_addChoice)
theorem ctX1_addChoice : ∀ q ∈ tX1_addChoice, Cont q.2 := by
  refine ccons (cont_aload _ _) ?_
  refine ccons (cont_iload _ _) ?_
  refine ccons (cont_iload _ _) ?_
  refine ccons (cont_callV _ _ _ _) ?_
  refine ccons (cont_istore _ _) ?_
  refine ccons (cont_aload _ _) ?_
  refine ccons (cont_iload _ _) ?_
  refine ccons (cont_callV _ _ _ _) ?_
  refine ccons (cont_astore _ _) ?_
  refine ccons (cont_aload _ _) ?_
  refine ccons (cont_null _ _) ?_
  refine ccons (cont_push _ _) ?_
  refine ccons (cont_istore _ _) ?_
  refine ccons (cont_iload _ _) ?_
  refine ccons (cont_iload _ _) ?_
  refine ccons (cont_c_ge _ _) ?_
  refine ccons (cont_iload _ _) ?_
  refine ccons (cont_aload _ _) ?_
  refine ccons (cont_len _) ?_
  refine ccons (cont_c_ge _ _) ?_
  refine ccons (cont_iload _ _) ?_
  refine ccons (cont_aload _ _) ?_
  refine ccons (cont_getR _ _ _) ?_
  refine ccons (cont_len _) ?_
  refine ccons (cont_c_ge _ _) ?_
  refine ccons (cont_aload _ _) ?_
  refine ccons (cont_getR _ _ _) ?_
  refine ccons (cont_iload _ _) ?_
  refine ccons (cont_aload _ _) ?_
  refine ccons (cont_iload _ _) ?_
  refine ccons (cont_ald _ _) ?_
  refine ccons (cont_ast _) ?_
  refine ccons (cont_iinc _ _ _) ?_
  refine ccons (cont_goto _) ?_
  refine ccons (cont_aload _ _) ?_
  refine ccons (cont_iload _ _) ?_
  refine ccons (cont_put _ _ _) ?_
  refine ccons (cont_iload _ _) ?_
  refine ccons (cont_iret) ?_
  exact cnil
theorem mgs_gX1_addChoice (cut : List Nat) (n : Nat) : mgs (zlook tX1_addChoice) cut gX1_addChoice n = gX1_addChoice := mgs_mev (ctab ctX1_addChoice) cut n
def nX1_addChoice : List Nat := [0, 6, 14, 24]
set_option maxRecDepth 100000 in
theorem eX1_addChoice_0 (M : MM) (x1 : Int32) (x2 : Int32) (x4 : Int32) : gX1_addChoice 0 [some (.inr (some 1)), some (.inl x1), some (.inl x2), some (.inr (some 5)), some (.inl x4), none, none, none] [] M = (mX1_addSlot [.inr (some 1), .inl x1, .inl x2] M).bind (fun r => gX1_addChoice 6 [some (.inr (some 1)), some (.inl x1), some (.inl x2), some (.inr (some 5)), some (.inl x4), none, none, none] (r.1.toList ++ []) r.2) := by
  have h : ∀ k : KT, mgs (zlook tX1_addChoice) nX1_addChoice k 4 0 [some (.inr (some 1)), some (.inl x1), some (.inl x2), some (.inr (some 5)), some (.inl x4), none, none, none] [] M = (mX1_addSlot [.inr (some 1), .inl x1, .inl x2] M).bind (fun r => k 6 [some (.inr (some 1)), some (.inl x1), some (.inl x2), some (.inr (some 5)), some (.inl x4), none, none, none] (r.1.toList ++ []) r.2) := fun k => rfl
  have h := h gX1_addChoice
  rw [mgs_gX1_addChoice] at h
  exact h
set_option maxRecDepth 100000 in
theorem eX1_addChoice_6 (M : MM) (x1 : Int32) (x2 : Int32) (x4 : Int32) (xs0 : Int32) : gX1_addChoice 6 [some (.inr (some 1)), some (.inl x1), some (.inl x2), some (.inr (some 5)), some (.inl x4), none, none, none] [.inl xs0] M = (mX1_slotAt [.inr (some 1), .inl xs0] M).bind (fun r => gX1_addChoice 14 [some (.inr (some 1)), some (.inl x1), some (.inl x2), some (.inr (some 5)), some (.inl x4), some (.inl xs0), none, none] (r.1.toList ++ []) r.2) := by
  have h : ∀ k : KT, mgs (zlook tX1_addChoice) nX1_addChoice k 4 6 [some (.inr (some 1)), some (.inl x1), some (.inl x2), some (.inr (some 5)), some (.inl x4), none, none, none] [.inl xs0] M = (mX1_slotAt [.inr (some 1), .inl xs0] M).bind (fun r => k 14 [some (.inr (some 1)), some (.inl x1), some (.inl x2), some (.inr (some 5)), some (.inl x4), some (.inl xs0), none, none] (r.1.toList ++ []) r.2) := fun k => rfl
  have h := h gX1_addChoice
  rw [mgs_gX1_addChoice] at h
  exact h
set_option maxRecDepth 100000 in
theorem eX1_addChoice_14 (M : MM) (x1 : Int32) (x2 : Int32) (x4 : Int32) (x5 : Int32) (rs0 : Option Nat) : gX1_addChoice 14 [some (.inr (some 1)), some (.inl x1), some (.inl x2), some (.inr (some 5)), some (.inl x4), some (.inl x5), none, none] [.inr rs0] M = (match rs0 with | some _q1 => gX1_addChoice 24 [some (.inr (some 1)), some (.inl x1), some (.inl x2), some (.inr (some 5)), some (.inl x4), some (.inl x5), some (.inr rs0), some (.inl (0 : Int32))] [] M | none => some ((some (.inl x5)), M)) := by
  have h : ∀ k : KT, mgs (zlook tX1_addChoice) nX1_addChoice k 5 14 [some (.inr (some 1)), some (.inl x1), some (.inl x2), some (.inr (some 5)), some (.inl x4), some (.inl x5), none, none] [.inr rs0] M = (match rs0 with | some _q1 => k 24 [some (.inr (some 1)), some (.inl x1), some (.inl x2), some (.inr (some 5)), some (.inl x4), some (.inl x5), some (.inr rs0), some (.inl (0 : Int32))] [] M | none => some ((some (.inl x5)), M)) := by intro k; cases rs0 <;> rfl
  have h := h gX1_addChoice
  rw [mgs_gX1_addChoice] at h
  exact h
set_option maxRecDepth 100000 in
theorem eX1_addChoice_24 (M : MM) (x1 : Int32) (x2 : Int32) (x4 : Int32) (x5 : Int32) (r6 : Option Nat) (x7 : Int32) : gX1_addChoice 24 [some (.inr (some 1)), some (.inl x1), some (.inl x2), some (.inr (some 5)), some (.inl x4), some (.inl x5), some (.inr r6), some (.inl x7)] [] M = (if x4 ≤ x7 then (match r6 with | some q1 => (if zkd q1 = 5 then some ((some (.inl x5)), (st2 M q1 5 x4)) else none) | none => none) else (if (6 : Int32) ≤ x7 then (match r6 with | some q2 => (if zkd q2 = 5 then some ((some (.inl x5)), (st2 M q2 5 x4)) else none) | none => none) else (match r6 with | some q3 => (if zkd q3 = 5 then (if 10 ≤ zkd (q3 + 12) ∧ zkd (q3 + 12) ≤ 12 then (if (Int32.ofNat (zln (q3 + 12))) ≤ x7 then (match r6 with | some q4 => (if zkd q4 = 5 then some ((some (.inl x5)), (st2 M q4 5 x4)) else none) | none => none) else (match r6 with | some q5 => (if zkd q5 = 5 then (if x7 < 0 ∨ 6 ≤ x7.toNatClampNeg then none else (if zkd (q5 + 12) = 10 then (if x7 < 0 ∨ zln (q5 + 12) ≤ x7.toNatClampNeg then none else gX1_addChoice 24 [some (.inr (some 1)), some (.inl x1), some (.inl x2), some (.inr (some 5)), some (.inl x4), some (.inl x5), some (.inr r6), some (.inl (x7 + (1 : Int32)))] [] (st2 M (q5 + 12) x7.toNatClampNeg (M 5 x7.toNatClampNeg))) else none)) else none) | none => none)) else none) else none) | none => none))) := by
  have h : ∀ k : KT, mgs (zlook tX1_addChoice) nX1_addChoice k 21 24 [some (.inr (some 1)), some (.inl x1), some (.inl x2), some (.inr (some 5)), some (.inl x4), some (.inl x5), some (.inr r6), some (.inl x7)] [] M = (if x4 ≤ x7 then (match r6 with | some q1 => (if zkd q1 = 5 then some ((some (.inl x5)), (st2 M q1 5 x4)) else none) | none => none) else (if (6 : Int32) ≤ x7 then (match r6 with | some q2 => (if zkd q2 = 5 then some ((some (.inl x5)), (st2 M q2 5 x4)) else none) | none => none) else (match r6 with | some q3 => (if zkd q3 = 5 then (if 10 ≤ zkd (q3 + 12) ∧ zkd (q3 + 12) ≤ 12 then (if (Int32.ofNat (zln (q3 + 12))) ≤ x7 then (match r6 with | some q4 => (if zkd q4 = 5 then some ((some (.inl x5)), (st2 M q4 5 x4)) else none) | none => none) else (match r6 with | some q5 => (if zkd q5 = 5 then (if x7 < 0 ∨ 6 ≤ x7.toNatClampNeg then none else (if zkd (q5 + 12) = 10 then (if x7 < 0 ∨ zln (q5 + 12) ≤ x7.toNatClampNeg then none else k 24 [some (.inr (some 1)), some (.inl x1), some (.inl x2), some (.inr (some 5)), some (.inl x4), some (.inl x5), some (.inr r6), some (.inl (x7 + (1 : Int32)))] [] (st2 M (q5 + 12) x7.toNatClampNeg (M 5 x7.toNatClampNeg))) else none)) else none) | none => none)) else none) else none) | none => none))) := by intro k; cases r6 <;> rfl
  have h := h gX1_addChoice
  rw [mgs_gX1_addChoice] at h
  exact h
theorem iX1_addChoice (M : MM) (x1 : Int32) (x2 : Int32) (x4 : Int32) : mX1_addChoice [.inr (some 1), .inl x1, .inl x2, .inr (some 5), .inl x4] M = gX1_addChoice 0 [some (.inr (some 1)), some (.inl x1), some (.inl x2), some (.inr (some 5)), some (.inl x4), none, none, none] [] M := rfl
noncomputable def gX1_addNeed : KT := mev (zlook tX1_addNeed)
theorem ctX1_addNeed : ∀ q ∈ tX1_addNeed, Cont q.2 := by
  refine ccons (cont_aload _ _) ?_
  refine ccons (cont_iload _ _) ?_
  refine ccons (cont_callV _ _ _ _) ?_
  refine ccons (cont_astore _ _) ?_
  refine ccons (cont_aload _ _) ?_
  refine ccons (cont_iload _ _) ?_
  refine ccons (cont_callV _ _ _ _) ?_
  refine ccons (cont_astore _ _) ?_
  refine ccons (cont_aload _ _) ?_
  refine ccons (cont_null _ _) ?_
  refine ccons (cont_aload _ _) ?_
  refine ccons (cont_null _ _) ?_
  refine ccons (cont_iload _ _) ?_
  refine ccons (cont_iload _ _) ?_
  refine ccons (cont_c_ge _ _) ?_
  refine ccons (cont_iload _ _) ?_
  refine ccons (cont_if_lt _ _) ?_
  refine ccons (cont_iload _ _) ?_
  refine ccons (cont_aload _ _) ?_
  refine ccons (cont_getI _ _ _) ?_
  refine ccons (cont_c_lt _ _) ?_
  refine ccons (cont_push _ _) ?_
  refine ccons (cont_zret) ?_
  refine ccons (cont_aload _ _) ?_
  refine ccons (cont_iload _ _) ?_
  refine ccons (cont_put _ _ _) ?_
  refine ccons (cont_aload _ _) ?_
  refine ccons (cont_iload _ _) ?_
  refine ccons (cont_put _ _ _) ?_
  refine ccons (cont_aload _ _) ?_
  refine ccons (cont_callV _ _ _ _) ?_
  refine ccons (cont_pop _) ?_
  refine ccons (cont_push _ _) ?_
  refine ccons (cont_zret) ?_
  exact cnil
theorem mgs_gX1_addNeed (cut : List Nat) (n : Nat) : mgs (zlook tX1_addNeed) cut gX1_addNeed n = gX1_addNeed := mgs_mev (ctab ctX1_addNeed) cut n
def nX1_addNeed : List Nat := [0, 5, 12, 60]
set_option maxRecDepth 100000 in
theorem eX1_addNeed_0 (M : MM) (x1 : Int32) (x2 : Int32) (x3 : Int32) : gX1_addNeed 0 [some (.inr (some 1)), some (.inl x1), some (.inl x2), some (.inl x3), none, none] [] M = (mX1_slotAt [.inr (some 1), .inl x1] M).bind (fun r => gX1_addNeed 5 [some (.inr (some 1)), some (.inl x1), some (.inl x2), some (.inl x3), none, none] (r.1.toList ++ []) r.2) := by
  have h : ∀ k : KT, mgs (zlook tX1_addNeed) nX1_addNeed k 3 0 [some (.inr (some 1)), some (.inl x1), some (.inl x2), some (.inl x3), none, none] [] M = (mX1_slotAt [.inr (some 1), .inl x1] M).bind (fun r => k 5 [some (.inr (some 1)), some (.inl x1), some (.inl x2), some (.inl x3), none, none] (r.1.toList ++ []) r.2) := fun k => rfl
  have h := h gX1_addNeed
  rw [mgs_gX1_addNeed] at h
  exact h
set_option maxRecDepth 100000 in
theorem eX1_addNeed_5 (M : MM) (x1 : Int32) (x2 : Int32) (x3 : Int32) (rs0 : Option Nat) : gX1_addNeed 5 [some (.inr (some 1)), some (.inl x1), some (.inl x2), some (.inl x3), none, none] [.inr rs0] M = (mX1_slotAt [.inr (some 1), .inl x2] M).bind (fun r => gX1_addNeed 12 [some (.inr (some 1)), some (.inl x1), some (.inl x2), some (.inl x3), some (.inr rs0), none] (r.1.toList ++ []) r.2) := by
  have h : ∀ k : KT, mgs (zlook tX1_addNeed) nX1_addNeed k 4 5 [some (.inr (some 1)), some (.inl x1), some (.inl x2), some (.inl x3), none, none] [.inr rs0] M = (mX1_slotAt [.inr (some 1), .inl x2] M).bind (fun r => k 12 [some (.inr (some 1)), some (.inl x1), some (.inl x2), some (.inl x3), some (.inr rs0), none] (r.1.toList ++ []) r.2) := fun k => rfl
  have h := h gX1_addNeed
  rw [mgs_gX1_addNeed] at h
  exact h
set_option maxRecDepth 100000 in
theorem eX1_addNeed_12 (M : MM) (x1 : Int32) (x2 : Int32) (x3 : Int32) (r4 : Option Nat) (rs0 : Option Nat) : gX1_addNeed 12 [some (.inr (some 1)), some (.inl x1), some (.inl x2), some (.inl x3), some (.inr r4), none] [.inr rs0] M = (match r4 with | some _q1 => (match rs0 with | some _q2 => (if x1 ≤ x2 then some ((some (.inl (0 : Int32))), M) else (if x3 < 0 then some ((some (.inl (0 : Int32))), M) else (match rs0 with | some q3 => (if zkd q3 = 5 then (if x3 < (M q3 5) then (match r4 with | some q4 => (if zkd q4 = 5 then (match r4 with | some q5 => (if zkd q5 = 5 then (mX1_reckonNeeds [.inr (some 1)] (st2 (st2 M q4 6 x2) q5 7 x3)).bind (fun r => gX1_addNeed 60 [some (.inr (some 1)), some (.inl x1), some (.inl x2), some (.inl x3), some (.inr r4), some (.inr rs0)] (r.1.toList ++ []) r.2) else none) | none => none) else none) | none => none) else some ((some (.inl (0 : Int32))), M)) else none) | none => none))) | none => some ((some (.inl (0 : Int32))), M)) | none => some ((some (.inl (0 : Int32))), M)) := by
  have h : ∀ k : KT, mgs (zlook tX1_addNeed) nX1_addNeed k 22 12 [some (.inr (some 1)), some (.inl x1), some (.inl x2), some (.inl x3), some (.inr r4), none] [.inr rs0] M = (match r4 with | some _q1 => (match rs0 with | some _q2 => (if x1 ≤ x2 then some ((some (.inl (0 : Int32))), M) else (if x3 < 0 then some ((some (.inl (0 : Int32))), M) else (match rs0 with | some q3 => (if zkd q3 = 5 then (if x3 < (M q3 5) then (match r4 with | some q4 => (if zkd q4 = 5 then (match r4 with | some q5 => (if zkd q5 = 5 then (mX1_reckonNeeds [.inr (some 1)] (st2 (st2 M q4 6 x2) q5 7 x3)).bind (fun r => k 60 [some (.inr (some 1)), some (.inl x1), some (.inl x2), some (.inl x3), some (.inr r4), some (.inr rs0)] (r.1.toList ++ []) r.2) else none) | none => none) else none) | none => none) else some ((some (.inl (0 : Int32))), M)) else none) | none => none))) | none => some ((some (.inl (0 : Int32))), M)) | none => some ((some (.inl (0 : Int32))), M)) := by intro k; cases r4 <;> cases rs0 <;> rfl
  have h := h gX1_addNeed
  rw [mgs_gX1_addNeed] at h
  exact h
set_option maxRecDepth 100000 in
theorem eX1_addNeed_60 (M : MM) (x1 : Int32) (x2 : Int32) (x3 : Int32) (r4 : Option Nat) (r5 : Option Nat) (xs0 : Int32) : gX1_addNeed 60 [some (.inr (some 1)), some (.inl x1), some (.inl x2), some (.inl x3), some (.inr r4), some (.inr r5)] [.inl xs0] M = some ((some (.inl (1 : Int32))), M) := by
  have h : ∀ k : KT, mgs (zlook tX1_addNeed) nX1_addNeed k 3 60 [some (.inr (some 1)), some (.inl x1), some (.inl x2), some (.inl x3), some (.inr r4), some (.inr r5)] [.inl xs0] M = some ((some (.inl (1 : Int32))), M) := fun k => rfl
  have h := h gX1_addNeed
  rw [mgs_gX1_addNeed] at h
  exact h
theorem iX1_addNeed (M : MM) (x1 : Int32) (x2 : Int32) (x3 : Int32) : mX1_addNeed [.inr (some 1), .inl x1, .inl x2, .inl x3] M = gX1_addNeed 0 [some (.inr (some 1)), some (.inl x1), some (.inl x2), some (.inl x3), none, none] [] M := rfl
noncomputable def gX5_isOpen : KT := mev (zlook tX5_isOpen)
theorem ctX5_isOpen : ∀ q ∈ tX5_isOpen, Cont q.2 := by
  refine ccons (cont_aload _ _) ?_
  refine ccons (cont_getI _ _ _) ?_
  refine ccons (cont_if_eq _ _) ?_
  refine ccons (cont_aload _ _) ?_
  refine ccons (cont_getI _ _ _) ?_
  refine ccons (cont_if_ne _ _) ?_
  refine ccons (cont_push _ _) ?_
  refine ccons (cont_goto _) ?_
  refine ccons (cont_push _ _) ?_
  refine ccons (cont_zret) ?_
  exact cnil
theorem mgs_gX5_isOpen (cut : List Nat) (n : Nat) : mgs (zlook tX5_isOpen) cut gX5_isOpen n = gX5_isOpen := mgs_mev (ctab ctX5_isOpen) cut n
def nX5_isOpen : List Nat := [0]
set_option maxRecDepth 100000 in
theorem eX5_isOpen_0 (M : MM) (c : Nat) : gX5_isOpen 0 [some (.inr (some c))] [] M = (if zkd c = 5 then (if (M c 8) = 0 then some ((some (.inl (0 : Int32))), M) else (if zkd c = 5 then (if (M c 9) = 0 then some ((some (.inl (1 : Int32))), M) else some ((some (.inl (0 : Int32))), M)) else none)) else none) := by
  have h : ∀ k : KT, mgs (zlook tX5_isOpen) nX5_isOpen k 9 0 [some (.inr (some c))] [] M = (if zkd c = 5 then (if (M c 8) = 0 then some ((some (.inl (0 : Int32))), M) else (if zkd c = 5 then (if (M c 9) = 0 then some ((some (.inl (1 : Int32))), M) else some ((some (.inl (0 : Int32))), M)) else none)) else none) := fun k => rfl
  have h := h gX5_isOpen
  rw [mgs_gX5_isOpen] at h
  exact h
theorem iX5_isOpen (M : MM) (c : Nat) : mX5_isOpen [.inr (some c)] M = gX5_isOpen 0 [some (.inr (some c))] [] M := rfl
noncomputable def gX9_oneIf : KT := mev (zlook tX9_oneIf)
theorem ctX9_oneIf : ∀ q ∈ tX9_oneIf, Cont q.2 := by
  refine ccons (cont_iload _ _) ?_
  refine ccons (cont_if_eq _ _) ?_
  refine ccons (cont_push _ _) ?_
  refine ccons (cont_goto _) ?_
  refine ccons (cont_push _ _) ?_
  refine ccons (cont_iret) ?_
  exact cnil
theorem mgs_gX9_oneIf (cut : List Nat) (n : Nat) : mgs (zlook tX9_oneIf) cut gX9_oneIf n = gX9_oneIf := mgs_mev (ctab ctX9_oneIf) cut n
def nX9_oneIf : List Nat := [0]
set_option maxRecDepth 100000 in
theorem eX9_oneIf_0 (M : MM) (x0 : Int32) : gX9_oneIf 0 [some (.inl x0)] [] M = (if x0 = 0 then some ((some (.inl (0 : Int32))), M) else some ((some (.inl (1 : Int32))), M)) := by
  have h : ∀ k : KT, mgs (zlook tX9_oneIf) nX9_oneIf k 5 0 [some (.inl x0)] [] M = (if x0 = 0 then some ((some (.inl (0 : Int32))), M) else some ((some (.inl (1 : Int32))), M)) := fun k => rfl
  have h := h gX9_oneIf
  rw [mgs_gX9_oneIf] at h
  exact h
theorem iX9_oneIf (M : MM) (x0 : Int32) : mX9_oneIf [.inl x0] M = gX9_oneIf 0 [some (.inl x0)] [] M := rfl
noncomputable def gX1_countOpen : KT := mev (zlook tX1_countOpen)
theorem ctX1_countOpen : ∀ q ∈ tX1_countOpen, Cont q.2 := by
  refine ccons (cont_push _ _) ?_
  refine ccons (cont_istore _ _) ?_
  refine ccons (cont_push _ _) ?_
  refine ccons (cont_istore _ _) ?_
  refine ccons (cont_iload _ _) ?_
  refine ccons (cont_aload _ _) ?_
  refine ccons (cont_getI _ _ _) ?_
  refine ccons (cont_c_ge _ _) ?_
  refine ccons (cont_iload _ _) ?_
  refine ccons (cont_aload _ _) ?_
  refine ccons (cont_getR _ _ _) ?_
  refine ccons (cont_len _) ?_
  refine ccons (cont_c_ge _ _) ?_
  refine ccons (cont_iload _ _) ?_
  refine ccons (cont_aload _ _) ?_
  refine ccons (cont_getR _ _ _) ?_
  refine ccons (cont_iload _ _) ?_
  refine ccons (cont_aald _) ?_
  refine ccons (cont_callV _ _ _ _) ?_
  refine ccons (cont_callS _ _ _) ?_
  refine ccons (cont_bin _ _) ?_
  refine ccons (cont_istore _ _) ?_
  refine ccons (cont_iinc _ _ _) ?_
  refine ccons (cont_goto _) ?_
  refine ccons (cont_iload _ _) ?_
  refine ccons (cont_iret) ?_
  exact cnil
theorem mgs_gX1_countOpen (cut : List Nat) (n : Nat) : mgs (zlook tX1_countOpen) cut gX1_countOpen n = gX1_countOpen := mgs_mev (ctab ctX1_countOpen) cut n
def nX1_countOpen : List Nat := [0, 4, 31, 34]
set_option maxRecDepth 100000 in
theorem eX1_countOpen_0 (M : MM) : gX1_countOpen 0 [some (.inr (some 1)), none, none] [] M = gX1_countOpen 4 [some (.inr (some 1)), some (.inl (0 : Int32)), some (.inl (0 : Int32))] [] M := by
  have h : ∀ k : KT, mgs (zlook tX1_countOpen) nX1_countOpen k 4 0 [some (.inr (some 1)), none, none] [] M = k 4 [some (.inr (some 1)), some (.inl (0 : Int32)), some (.inl (0 : Int32))] [] M := fun k => rfl
  have h := h gX1_countOpen
  rw [mgs_gX1_countOpen] at h
  exact h
set_option maxRecDepth 100000 in
theorem eX1_countOpen_4 (M : MM) (x1 : Int32) (x2 : Int32) : gX1_countOpen 4 [some (.inr (some 1)), some (.inl x1), some (.inl x2)] [] M = (if (M 1 1) ≤ x2 then some ((some (.inl x1)), M) else (if (12 : Int32) ≤ x2 then some ((some (.inl x1)), M) else (if x2 < 0 ∨ 12 ≤ x2.toNatClampNeg then none else (if zkd (x2.toNatClampNeg + 44) = 5 then (mX5_isOpen [.inr (some (x2.toNatClampNeg + 44))] M).bind (fun r => gX1_countOpen 31 [some (.inr (some 1)), some (.inl x1), some (.inl x2)] (r.1.toList ++ [.inl x1]) r.2) else none)))) := by
  have h : ∀ k : KT, mgs (zlook tX1_countOpen) nX1_countOpen k 15 4 [some (.inr (some 1)), some (.inl x1), some (.inl x2)] [] M = (if (M 1 1) ≤ x2 then some ((some (.inl x1)), M) else (if (12 : Int32) ≤ x2 then some ((some (.inl x1)), M) else (if x2 < 0 ∨ 12 ≤ x2.toNatClampNeg then none else (if zkd (x2.toNatClampNeg + 44) = 5 then (mX5_isOpen [.inr (some (x2.toNatClampNeg + 44))] M).bind (fun r => k 31 [some (.inr (some 1)), some (.inl x1), some (.inl x2)] (r.1.toList ++ [.inl x1]) r.2) else none)))) := fun k => rfl
  have h := h gX1_countOpen
  rw [mgs_gX1_countOpen] at h
  exact h
set_option maxRecDepth 100000 in
theorem eX1_countOpen_31 (M : MM) (x1 : Int32) (x2 : Int32) (xs0 : Int32) (xs1 : Int32) : gX1_countOpen 31 [some (.inr (some 1)), some (.inl x1), some (.inl x2)] [.inl xs0, .inl xs1] M = (mX9_oneIf [.inl xs0] M).bind (fun r => gX1_countOpen 34 [some (.inr (some 1)), some (.inl x1), some (.inl x2)] (r.1.toList ++ [.inl xs1]) r.2) := by
  have h : ∀ k : KT, mgs (zlook tX1_countOpen) nX1_countOpen k 1 31 [some (.inr (some 1)), some (.inl x1), some (.inl x2)] [.inl xs0, .inl xs1] M = (mX9_oneIf [.inl xs0] M).bind (fun r => k 34 [some (.inr (some 1)), some (.inl x1), some (.inl x2)] (r.1.toList ++ [.inl xs1]) r.2) := fun k => rfl
  have h := h gX1_countOpen
  rw [mgs_gX1_countOpen] at h
  exact h
set_option maxRecDepth 100000 in
theorem eX1_countOpen_34 (M : MM) (x1 : Int32) (x2 : Int32) (xs0 : Int32) (xs1 : Int32) : gX1_countOpen 34 [some (.inr (some 1)), some (.inl x1), some (.inl x2)] [.inl xs0, .inl xs1] M = gX1_countOpen 4 [some (.inr (some 1)), some (.inl (xs1 + xs0)), some (.inl (x2 + (1 : Int32)))] [] M := by
  have h : ∀ k : KT, mgs (zlook tX1_countOpen) nX1_countOpen k 4 34 [some (.inr (some 1)), some (.inl x1), some (.inl x2)] [.inl xs0, .inl xs1] M = k 4 [some (.inr (some 1)), some (.inl (xs1 + xs0)), some (.inl (x2 + (1 : Int32)))] [] M := fun k => rfl
  have h := h gX1_countOpen
  rw [mgs_gX1_countOpen] at h
  exact h
theorem iX1_countOpen (M : MM) : mX1_countOpen [.inr (some 1)] M = gX1_countOpen 0 [some (.inr (some 1)), none, none] [] M := rfl
noncomputable def gX5_isUnheard : KT := mev (zlook tX5_isUnheard)
theorem ctX5_isUnheard : ∀ q ∈ tX5_isUnheard, Cont q.2 := by
  refine ccons (cont_aload _ _) ?_
  refine ccons (cont_getI _ _ _) ?_
  refine ccons (cont_if_eq _ _) ?_
  refine ccons (cont_aload _ _) ?_
  refine ccons (cont_getI _ _ _) ?_
  refine ccons (cont_if_eq _ _) ?_
  refine ccons (cont_aload _ _) ?_
  refine ccons (cont_getI _ _ _) ?_
  refine ccons (cont_if_ne _ _) ?_
  refine ccons (cont_push _ _) ?_
  refine ccons (cont_goto _) ?_
  refine ccons (cont_push _ _) ?_
  refine ccons (cont_zret) ?_
  exact cnil
theorem mgs_gX5_isUnheard (cut : List Nat) (n : Nat) : mgs (zlook tX5_isUnheard) cut gX5_isUnheard n = gX5_isUnheard := mgs_mev (ctab ctX5_isUnheard) cut n
def nX5_isUnheard : List Nat := [0]
set_option maxRecDepth 100000 in
theorem eX5_isUnheard_0 (M : MM) (c : Nat) : gX5_isUnheard 0 [some (.inr (some c))] [] M = (if zkd c = 5 then (if (M c 8) = 0 then some ((some (.inl (0 : Int32))), M) else (if zkd c = 5 then (if (M c 9) = 0 then some ((some (.inl (0 : Int32))), M) else (if zkd c = 5 then (if (M c 11) = 0 then some ((some (.inl (1 : Int32))), M) else some ((some (.inl (0 : Int32))), M)) else none)) else none)) else none) := by
  have h : ∀ k : KT, mgs (zlook tX5_isUnheard) nX5_isUnheard k 12 0 [some (.inr (some c))] [] M = (if zkd c = 5 then (if (M c 8) = 0 then some ((some (.inl (0 : Int32))), M) else (if zkd c = 5 then (if (M c 9) = 0 then some ((some (.inl (0 : Int32))), M) else (if zkd c = 5 then (if (M c 11) = 0 then some ((some (.inl (1 : Int32))), M) else some ((some (.inl (0 : Int32))), M)) else none)) else none)) else none) := fun k => rfl
  have h := h gX5_isUnheard
  rw [mgs_gX5_isUnheard] at h
  exact h
theorem iX5_isUnheard (M : MM) (c : Nat) : mX5_isUnheard [.inr (some c)] M = gX5_isUnheard 0 [some (.inr (some c))] [] M := rfl
noncomputable def gX1_countUnheard : KT := mev (zlook tX1_countUnheard)
theorem ctX1_countUnheard : ∀ q ∈ tX1_countUnheard, Cont q.2 := by
  refine ccons (cont_push _ _) ?_
  refine ccons (cont_istore _ _) ?_
  refine ccons (cont_push _ _) ?_
  refine ccons (cont_istore _ _) ?_
  refine ccons (cont_iload _ _) ?_
  refine ccons (cont_aload _ _) ?_
  refine ccons (cont_getI _ _ _) ?_
  refine ccons (cont_c_ge _ _) ?_
  refine ccons (cont_iload _ _) ?_
  refine ccons (cont_aload _ _) ?_
  refine ccons (cont_getR _ _ _) ?_
  refine ccons (cont_len _) ?_
  refine ccons (cont_c_ge _ _) ?_
  refine ccons (cont_iload _ _) ?_
  refine ccons (cont_aload _ _) ?_
  refine ccons (cont_getR _ _ _) ?_
  refine ccons (cont_iload _ _) ?_
  refine ccons (cont_aald _) ?_
  refine ccons (cont_callV _ _ _ _) ?_
  refine ccons (cont_callS _ _ _) ?_
  refine ccons (cont_bin _ _) ?_
  refine ccons (cont_istore _ _) ?_
  refine ccons (cont_iinc _ _ _) ?_
  refine ccons (cont_goto _) ?_
  refine ccons (cont_iload _ _) ?_
  refine ccons (cont_iret) ?_
  exact cnil
theorem mgs_gX1_countUnheard (cut : List Nat) (n : Nat) : mgs (zlook tX1_countUnheard) cut gX1_countUnheard n = gX1_countUnheard := mgs_mev (ctab ctX1_countUnheard) cut n
def nX1_countUnheard : List Nat := [0, 4, 31, 34]
set_option maxRecDepth 100000 in
theorem eX1_countUnheard_0 (M : MM) : gX1_countUnheard 0 [some (.inr (some 1)), none, none] [] M = gX1_countUnheard 4 [some (.inr (some 1)), some (.inl (0 : Int32)), some (.inl (0 : Int32))] [] M := by
  have h : ∀ k : KT, mgs (zlook tX1_countUnheard) nX1_countUnheard k 4 0 [some (.inr (some 1)), none, none] [] M = k 4 [some (.inr (some 1)), some (.inl (0 : Int32)), some (.inl (0 : Int32))] [] M := fun k => rfl
  have h := h gX1_countUnheard
  rw [mgs_gX1_countUnheard] at h
  exact h
set_option maxRecDepth 100000 in
theorem eX1_countUnheard_4 (M : MM) (x1 : Int32) (x2 : Int32) : gX1_countUnheard 4 [some (.inr (some 1)), some (.inl x1), some (.inl x2)] [] M = (if (M 1 1) ≤ x2 then some ((some (.inl x1)), M) else (if (12 : Int32) ≤ x2 then some ((some (.inl x1)), M) else (if x2 < 0 ∨ 12 ≤ x2.toNatClampNeg then none else (if zkd (x2.toNatClampNeg + 44) = 5 then (mX5_isUnheard [.inr (some (x2.toNatClampNeg + 44))] M).bind (fun r => gX1_countUnheard 31 [some (.inr (some 1)), some (.inl x1), some (.inl x2)] (r.1.toList ++ [.inl x1]) r.2) else none)))) := by
  have h : ∀ k : KT, mgs (zlook tX1_countUnheard) nX1_countUnheard k 15 4 [some (.inr (some 1)), some (.inl x1), some (.inl x2)] [] M = (if (M 1 1) ≤ x2 then some ((some (.inl x1)), M) else (if (12 : Int32) ≤ x2 then some ((some (.inl x1)), M) else (if x2 < 0 ∨ 12 ≤ x2.toNatClampNeg then none else (if zkd (x2.toNatClampNeg + 44) = 5 then (mX5_isUnheard [.inr (some (x2.toNatClampNeg + 44))] M).bind (fun r => k 31 [some (.inr (some 1)), some (.inl x1), some (.inl x2)] (r.1.toList ++ [.inl x1]) r.2) else none)))) := fun k => rfl
  have h := h gX1_countUnheard
  rw [mgs_gX1_countUnheard] at h
  exact h
set_option maxRecDepth 100000 in
theorem eX1_countUnheard_31 (M : MM) (x1 : Int32) (x2 : Int32) (xs0 : Int32) (xs1 : Int32) : gX1_countUnheard 31 [some (.inr (some 1)), some (.inl x1), some (.inl x2)] [.inl xs0, .inl xs1] M = (mX9_oneIf [.inl xs0] M).bind (fun r => gX1_countUnheard 34 [some (.inr (some 1)), some (.inl x1), some (.inl x2)] (r.1.toList ++ [.inl xs1]) r.2) := by
  have h : ∀ k : KT, mgs (zlook tX1_countUnheard) nX1_countUnheard k 1 31 [some (.inr (some 1)), some (.inl x1), some (.inl x2)] [.inl xs0, .inl xs1] M = (mX9_oneIf [.inl xs0] M).bind (fun r => k 34 [some (.inr (some 1)), some (.inl x1), some (.inl x2)] (r.1.toList ++ [.inl xs1]) r.2) := fun k => rfl
  have h := h gX1_countUnheard
  rw [mgs_gX1_countUnheard] at h
  exact h
set_option maxRecDepth 100000 in
theorem eX1_countUnheard_34 (M : MM) (x1 : Int32) (x2 : Int32) (xs0 : Int32) (xs1 : Int32) : gX1_countUnheard 34 [some (.inr (some 1)), some (.inl x1), some (.inl x2)] [.inl xs0, .inl xs1] M = gX1_countUnheard 4 [some (.inr (some 1)), some (.inl (xs1 + xs0)), some (.inl (x2 + (1 : Int32)))] [] M := by
  have h : ∀ k : KT, mgs (zlook tX1_countUnheard) nX1_countUnheard k 4 34 [some (.inr (some 1)), some (.inl x1), some (.inl x2)] [.inl xs0, .inl xs1] M = k 4 [some (.inr (some 1)), some (.inl (xs1 + xs0)), some (.inl (x2 + (1 : Int32)))] [] M := fun k => rfl
  have h := h gX1_countUnheard
  rw [mgs_gX1_countUnheard] at h
  exact h
theorem iX1_countUnheard (M : MM) : mX1_countUnheard [.inr (some 1)] M = gX1_countUnheard 0 [some (.inr (some 1)), none, none] [] M := rfl
noncomputable def gX1_hearAllBack : KT := mev (zlook tX1_hearAllBack)
theorem ctX1_hearAllBack : ∀ q ∈ tX1_hearAllBack, Cont q.2 := by
  refine ccons (cont_aload _ _) ?_
  refine ccons (cont_callV _ _ _ _) ?_
  refine ccons (cont_istore _ _) ?_
  refine ccons (cont_push _ _) ?_
  refine ccons (cont_istore _ _) ?_
  refine ccons (cont_iload _ _) ?_
  refine ccons (cont_aload _ _) ?_
  refine ccons (cont_getI _ _ _) ?_
  refine ccons (cont_c_ge _ _) ?_
  refine ccons (cont_iload _ _) ?_
  refine ccons (cont_aload _ _) ?_
  refine ccons (cont_getR _ _ _) ?_
  refine ccons (cont_len _) ?_
  refine ccons (cont_c_ge _ _) ?_
  refine ccons (cont_aload _ _) ?_
  refine ccons (cont_getR _ _ _) ?_
  refine ccons (cont_iload _ _) ?_
  refine ccons (cont_aald _) ?_
  refine ccons (cont_aload _ _) ?_
  refine ccons (cont_getR _ _ _) ?_
  refine ccons (cont_iload _ _) ?_
  refine ccons (cont_aald _) ?_
  refine ccons (cont_getI _ _ _) ?_
  refine ccons (cont_putZ _ _ _) ?_
  refine ccons (cont_iinc _ _ _) ?_
  refine ccons (cont_goto _) ?_
  refine ccons (cont_iload _ _) ?_
  refine ccons (cont_iret) ?_
  exact cnil
theorem mgs_gX1_hearAllBack (cut : List Nat) (n : Nat) : mgs (zlook tX1_hearAllBack) cut gX1_hearAllBack n = gX1_hearAllBack := mgs_mev (ctab ctX1_hearAllBack) cut n
def nX1_hearAllBack : List Nat := [0, 4, 7]
set_option maxRecDepth 100000 in
theorem eX1_hearAllBack_0 (M : MM) : gX1_hearAllBack 0 [some (.inr (some 1)), none, none] [] M = (mX1_countUnheard [.inr (some 1)] M).bind (fun r => gX1_hearAllBack 4 [some (.inr (some 1)), none, none] (r.1.toList ++ []) r.2) := by
  have h : ∀ k : KT, mgs (zlook tX1_hearAllBack) nX1_hearAllBack k 2 0 [some (.inr (some 1)), none, none] [] M = (mX1_countUnheard [.inr (some 1)] M).bind (fun r => k 4 [some (.inr (some 1)), none, none] (r.1.toList ++ []) r.2) := fun k => rfl
  have h := h gX1_hearAllBack
  rw [mgs_gX1_hearAllBack] at h
  exact h
set_option maxRecDepth 100000 in
theorem eX1_hearAllBack_4 (M : MM) (xs0 : Int32) : gX1_hearAllBack 4 [some (.inr (some 1)), none, none] [.inl xs0] M = gX1_hearAllBack 7 [some (.inr (some 1)), some (.inl xs0), some (.inl (0 : Int32))] [] M := by
  have h : ∀ k : KT, mgs (zlook tX1_hearAllBack) nX1_hearAllBack k 3 4 [some (.inr (some 1)), none, none] [.inl xs0] M = k 7 [some (.inr (some 1)), some (.inl xs0), some (.inl (0 : Int32))] [] M := fun k => rfl
  have h := h gX1_hearAllBack
  rw [mgs_gX1_hearAllBack] at h
  exact h
set_option maxRecDepth 100000 in
theorem eX1_hearAllBack_7 (M : MM) (x1 : Int32) (x2 : Int32) : gX1_hearAllBack 7 [some (.inr (some 1)), some (.inl x1), some (.inl x2)] [] M = (if (M 1 1) ≤ x2 then some ((some (.inl x1)), M) else (if (12 : Int32) ≤ x2 then some ((some (.inl x1)), M) else (if x2 < 0 ∨ 12 ≤ x2.toNatClampNeg then none else (if x2 < 0 ∨ 12 ≤ x2.toNatClampNeg then none else (if zkd (x2.toNatClampNeg + 44) = 5 then (if zkd (x2.toNatClampNeg + 44) = 5 then (if (M (x2.toNatClampNeg + 44) 9) = 0 ∨ (M (x2.toNatClampNeg + 44) 9) = 1 then gX1_hearAllBack 7 [some (.inr (some 1)), some (.inl x1), some (.inl (x2 + (1 : Int32)))] [] (st2 M (x2.toNatClampNeg + 44) 11 (M (x2.toNatClampNeg + 44) 9)) else none) else none) else none))))) := by
  have h : ∀ k : KT, mgs (zlook tX1_hearAllBack) nX1_hearAllBack k 21 7 [some (.inr (some 1)), some (.inl x1), some (.inl x2)] [] M = (if (M 1 1) ≤ x2 then some ((some (.inl x1)), M) else (if (12 : Int32) ≤ x2 then some ((some (.inl x1)), M) else (if x2 < 0 ∨ 12 ≤ x2.toNatClampNeg then none else (if x2 < 0 ∨ 12 ≤ x2.toNatClampNeg then none else (if zkd (x2.toNatClampNeg + 44) = 5 then (if zkd (x2.toNatClampNeg + 44) = 5 then (if (M (x2.toNatClampNeg + 44) 9) = 0 ∨ (M (x2.toNatClampNeg + 44) 9) = 1 then k 7 [some (.inr (some 1)), some (.inl x1), some (.inl (x2 + (1 : Int32)))] [] (st2 M (x2.toNatClampNeg + 44) 11 (M (x2.toNatClampNeg + 44) 9)) else none) else none) else none))))) := fun k => rfl
  have h := h gX1_hearAllBack
  rw [mgs_gX1_hearAllBack] at h
  exact h
theorem iX1_hearAllBack (M : MM) : mX1_hearAllBack [.inr (some 1)] M = gX1_hearAllBack 0 [some (.inr (some 1)), none, none] [] M := rfl
noncomputable def gX1_firstToCome : KT := mev (zlook tX1_firstToCome)
theorem ctX1_firstToCome : ∀ q ∈ tX1_firstToCome, Cont q.2 := by
  refine ccons (cont_iload _ _) ?_
  refine ccons (cont_push _ _) ?_
  refine ccons (cont_max _) ?_
  refine ccons (cont_istore _ _) ?_
  refine ccons (cont_iload _ _) ?_
  refine ccons (cont_aload _ _) ?_
  refine ccons (cont_getI _ _ _) ?_
  refine ccons (cont_c_ge _ _) ?_
  refine ccons (cont_iload _ _) ?_
  refine ccons (cont_aload _ _) ?_
  refine ccons (cont_getR _ _ _) ?_
  refine ccons (cont_len _) ?_
  refine ccons (cont_c_ge _ _) ?_
  refine ccons (cont_aload _ _) ?_
  refine ccons (cont_getR _ _ _) ?_
  refine ccons (cont_iload _ _) ?_
  refine ccons (cont_aald _) ?_
  refine ccons (cont_callV _ _ _ _) ?_
  refine ccons (cont_if_eq _ _) ?_
  refine ccons (cont_aload _ _) ?_
  refine ccons (cont_getR _ _ _) ?_
  refine ccons (cont_iload _ _) ?_
  refine ccons (cont_aald _) ?_
  refine ccons (cont_getI _ _ _) ?_
  refine ccons (cont_if_ne _ _) ?_
  refine ccons (cont_iload _ _) ?_
  refine ccons (cont_iret) ?_
  refine ccons (cont_iinc _ _ _) ?_
  refine ccons (cont_goto _) ?_
  refine ccons (cont_push _ _) ?_
  refine ccons (cont_iret) ?_
  exact cnil
theorem mgs_gX1_firstToCome (cut : List Nat) (n : Nat) : mgs (zlook tX1_firstToCome) cut gX1_firstToCome n = gX1_firstToCome := mgs_mev (ctab ctX1_firstToCome) cut n
def nX1_firstToCome : List Nat := [0, 6, 32]
set_option maxRecDepth 100000 in
theorem eX1_firstToCome_0 (M : MM) (x1 : Int32) : gX1_firstToCome 0 [some (.inr (some 1)), some (.inl x1), none] [] M = gX1_firstToCome 6 [some (.inr (some 1)), some (.inl x1), some (.inl (if x1 < (0 : Int32) then (0 : Int32) else x1))] [] M := by
  have h : ∀ k : KT, mgs (zlook tX1_firstToCome) nX1_firstToCome k 4 0 [some (.inr (some 1)), some (.inl x1), none] [] M = k 6 [some (.inr (some 1)), some (.inl x1), some (.inl (if x1 < (0 : Int32) then (0 : Int32) else x1))] [] M := fun k => rfl
  have h := h gX1_firstToCome
  rw [mgs_gX1_firstToCome] at h
  exact h
set_option maxRecDepth 100000 in
theorem eX1_firstToCome_6 (M : MM) (x1 : Int32) (x2 : Int32) : gX1_firstToCome 6 [some (.inr (some 1)), some (.inl x1), some (.inl x2)] [] M = (if (M 1 1) ≤ x2 then some ((some (.inl (-1 : Int32))), M) else (if (12 : Int32) ≤ x2 then some ((some (.inl (-1 : Int32))), M) else (if x2 < 0 ∨ 12 ≤ x2.toNatClampNeg then none else (if zkd (x2.toNatClampNeg + 44) = 5 then (mX5_isOpen [.inr (some (x2.toNatClampNeg + 44))] M).bind (fun r => gX1_firstToCome 32 [some (.inr (some 1)), some (.inl x1), some (.inl x2)] (r.1.toList ++ []) r.2) else none)))) := by
  have h : ∀ k : KT, mgs (zlook tX1_firstToCome) nX1_firstToCome k 14 6 [some (.inr (some 1)), some (.inl x1), some (.inl x2)] [] M = (if (M 1 1) ≤ x2 then some ((some (.inl (-1 : Int32))), M) else (if (12 : Int32) ≤ x2 then some ((some (.inl (-1 : Int32))), M) else (if x2 < 0 ∨ 12 ≤ x2.toNatClampNeg then none else (if zkd (x2.toNatClampNeg + 44) = 5 then (mX5_isOpen [.inr (some (x2.toNatClampNeg + 44))] M).bind (fun r => k 32 [some (.inr (some 1)), some (.inl x1), some (.inl x2)] (r.1.toList ++ []) r.2) else none)))) := fun k => rfl
  have h := h gX1_firstToCome
  rw [mgs_gX1_firstToCome] at h
  exact h
set_option maxRecDepth 100000 in
theorem eX1_firstToCome_32 (M : MM) (x1 : Int32) (x2 : Int32) (xs0 : Int32) : gX1_firstToCome 32 [some (.inr (some 1)), some (.inl x1), some (.inl x2)] [.inl xs0] M = (if xs0 = 0 then gX1_firstToCome 6 [some (.inr (some 1)), some (.inl x1), some (.inl (x2 + (1 : Int32)))] [] M else (if x2 < 0 ∨ 12 ≤ x2.toNatClampNeg then none else (if zkd (x2.toNatClampNeg + 44) = 5 then (if (M (x2.toNatClampNeg + 44) 12) = 0 then some ((some (.inl x2)), M) else gX1_firstToCome 6 [some (.inr (some 1)), some (.inl x1), some (.inl (x2 + (1 : Int32)))] [] M) else none))) := by
  have h : ∀ k : KT, mgs (zlook tX1_firstToCome) nX1_firstToCome k 9 32 [some (.inr (some 1)), some (.inl x1), some (.inl x2)] [.inl xs0] M = (if xs0 = 0 then k 6 [some (.inr (some 1)), some (.inl x1), some (.inl (x2 + (1 : Int32)))] [] M else (if x2 < 0 ∨ 12 ≤ x2.toNatClampNeg then none else (if zkd (x2.toNatClampNeg + 44) = 5 then (if (M (x2.toNatClampNeg + 44) 12) = 0 then some ((some (.inl x2)), M) else k 6 [some (.inr (some 1)), some (.inl x1), some (.inl (x2 + (1 : Int32)))] [] M) else none))) := fun k => rfl
  have h := h gX1_firstToCome
  rw [mgs_gX1_firstToCome] at h
  exact h
theorem iX1_firstToCome (M : MM) (x1 : Int32) : mX1_firstToCome [.inr (some 1), .inl x1] M = gX1_firstToCome 0 [some (.inr (some 1)), some (.inl x1), none] [] M := rfl
noncomputable def gX1_nextBehind : KT := mev (zlook tX1_nextBehind)
theorem ctX1_nextBehind : ∀ q ∈ tX1_nextBehind, Cont q.2 := by
  refine ccons (cont_aload _ _) ?_
  refine ccons (cont_iload _ _) ?_
  refine ccons (cont_push _ _) ?_
  refine ccons (cont_bin _ _) ?_
  refine ccons (cont_callV _ _ _ _) ?_
  refine ccons (cont_istore _ _) ?_
  refine ccons (cont_iload _ _) ?_
  refine ccons (cont_push _ _) ?_
  refine ccons (cont_c_ne _ _) ?_
  refine ccons (cont_aload _ _) ?_
  refine ccons (cont_push _ _) ?_
  refine ccons (cont_callV _ _ _ _) ?_
  refine ccons (cont_goto _) ?_
  refine ccons (cont_iload _ _) ?_
  refine ccons (cont_iret) ?_
  exact cnil
theorem mgs_gX1_nextBehind (cut : List Nat) (n : Nat) : mgs (zlook tX1_nextBehind) cut gX1_nextBehind n = gX1_nextBehind := mgs_mev (ctab ctX1_nextBehind) cut n
def nX1_nextBehind : List Nat := [0, 7, 18]
set_option maxRecDepth 100000 in
theorem eX1_nextBehind_0 (M : MM) (x1 : Int32) : gX1_nextBehind 0 [some (.inr (some 1)), some (.inl x1), none] [] M = (mX1_firstToCome [.inr (some 1), .inl (x1 + (1 : Int32))] M).bind (fun r => gX1_nextBehind 7 [some (.inr (some 1)), some (.inl x1), none] (r.1.toList ++ []) r.2) := by
  have h : ∀ k : KT, mgs (zlook tX1_nextBehind) nX1_nextBehind k 5 0 [some (.inr (some 1)), some (.inl x1), none] [] M = (mX1_firstToCome [.inr (some 1), .inl (x1 + (1 : Int32))] M).bind (fun r => k 7 [some (.inr (some 1)), some (.inl x1), none] (r.1.toList ++ []) r.2) := fun k => rfl
  have h := h gX1_nextBehind
  rw [mgs_gX1_nextBehind] at h
  exact h
set_option maxRecDepth 100000 in
theorem eX1_nextBehind_7 (M : MM) (x1 : Int32) (xs0 : Int32) : gX1_nextBehind 7 [some (.inr (some 1)), some (.inl x1), none] [.inl xs0] M = (if xs0 = (-1 : Int32) then (mX1_firstToCome [.inr (some 1), .inl (0 : Int32)] M).bind (fun r => gX1_nextBehind 18 [some (.inr (some 1)), some (.inl x1), some (.inl xs0)] (r.1.toList ++ []) r.2) else some ((some (.inl xs0)), M)) := by
  have h : ∀ k : KT, mgs (zlook tX1_nextBehind) nX1_nextBehind k 7 7 [some (.inr (some 1)), some (.inl x1), none] [.inl xs0] M = (if xs0 = (-1 : Int32) then (mX1_firstToCome [.inr (some 1), .inl (0 : Int32)] M).bind (fun r => k 18 [some (.inr (some 1)), some (.inl x1), some (.inl xs0)] (r.1.toList ++ []) r.2) else some ((some (.inl xs0)), M)) := fun k => rfl
  have h := h gX1_nextBehind
  rw [mgs_gX1_nextBehind] at h
  exact h
set_option maxRecDepth 100000 in
theorem eX1_nextBehind_18 (M : MM) (x1 : Int32) (x2 : Int32) (xs0 : Int32) : gX1_nextBehind 18 [some (.inr (some 1)), some (.inl x1), some (.inl x2)] [.inl xs0] M = some ((some (.inl xs0)), M) := by
  have h : ∀ k : KT, mgs (zlook tX1_nextBehind) nX1_nextBehind k 2 18 [some (.inr (some 1)), some (.inl x1), some (.inl x2)] [.inl xs0] M = some ((some (.inl xs0)), M) := fun k => rfl
  have h := h gX1_nextBehind
  rw [mgs_gX1_nextBehind] at h
  exact h
theorem iX1_nextBehind (M : MM) (x1 : Int32) : mX1_nextBehind [.inr (some 1), .inl x1] M = gX1_nextBehind 0 [some (.inr (some 1)), some (.inl x1), none] [] M := rfl
noncomputable def gX1_keepValue : KT := mev (zlook tX1_keepValue)
theorem ctX1_keepValue : ∀ q ∈ tX1_keepValue, Cont q.2 := by
  refine ccons (cont_aload _ _) ?_
  refine ccons (cont_iload _ _) ?_
  refine ccons (cont_callV _ _ _ _) ?_
  refine ccons (cont_astore _ _) ?_
  refine ccons (cont_aload _ _) ?_
  refine ccons (cont_nonnull _ _) ?_
  refine ccons (cont_push _ _) ?_
  refine ccons (cont_iret) ?_
  refine ccons (cont_aload _ _) ?_
  refine ccons (cont_push _ _) ?_
  refine ccons (cont_putZ _ _ _) ?_
  refine ccons (cont_aload _ _) ?_
  refine ccons (cont_iload _ _) ?_
  refine ccons (cont_put _ _ _) ?_
  refine ccons (cont_aload _ _) ?_
  refine ccons (cont_iload _ _) ?_
  refine ccons (cont_putZ _ _ _) ?_
  refine ccons (cont_aload _ _) ?_
  refine ccons (cont_callV _ _ _ _) ?_
  refine ccons (cont_iret) ?_
  exact cnil
theorem mgs_gX1_keepValue (cut : List Nat) (n : Nat) : mgs (zlook tX1_keepValue) cut gX1_keepValue n = gX1_keepValue := mgs_mev (ctab ctX1_keepValue) cut n
def nX1_keepValue : List Nat := [0, 5, 36]
set_option maxRecDepth 100000 in
theorem eX1_keepValue_0 (M : MM) (x1 : Int32) (x2 : Int32) (x3 : Int32) : gX1_keepValue 0 [some (.inr (some 1)), some (.inl x1), some (.inl x2), some (.inl x3), none] [] M = (mX1_slotAt [.inr (some 1), .inl x1] M).bind (fun r => gX1_keepValue 5 [some (.inr (some 1)), some (.inl x1), some (.inl x2), some (.inl x3), none] (r.1.toList ++ []) r.2) := by
  have h : ∀ k : KT, mgs (zlook tX1_keepValue) nX1_keepValue k 3 0 [some (.inr (some 1)), some (.inl x1), some (.inl x2), some (.inl x3), none] [] M = (mX1_slotAt [.inr (some 1), .inl x1] M).bind (fun r => k 5 [some (.inr (some 1)), some (.inl x1), some (.inl x2), some (.inl x3), none] (r.1.toList ++ []) r.2) := fun k => rfl
  have h := h gX1_keepValue
  rw [mgs_gX1_keepValue] at h
  exact h
set_option maxRecDepth 100000 in
theorem eX1_keepValue_5 (M : MM) (x1 : Int32) (x2 : Int32) (x3 : Int32) (rs0 : Option Nat) : gX1_keepValue 5 [some (.inr (some 1)), some (.inl x1), some (.inl x2), some (.inl x3), none] [.inr rs0] M = (match rs0 with | some _q1 => (match rs0 with | some q2 => (if zkd q2 = 5 then (match rs0 with | some q3 => (if zkd q3 = 5 then (match rs0 with | some q4 => (if zkd q4 = 5 then (if x3 = 0 ∨ x3 = 1 then (mX1_reckonNeeds [.inr (some 1)] (st2 (st2 (st2 M q2 9 (1 : Int32)) q3 10 x2) q4 11 x3)).bind (fun r => gX1_keepValue 36 [some (.inr (some 1)), some (.inl x1), some (.inl x2), some (.inl x3), some (.inr rs0)] (r.1.toList ++ []) r.2) else none) else none) | none => none) else none) | none => none) else none) | none => none) | none => some ((some (.inl (0 : Int32))), M)) := by
  have h : ∀ k : KT, mgs (zlook tX1_keepValue) nX1_keepValue k 14 5 [some (.inr (some 1)), some (.inl x1), some (.inl x2), some (.inl x3), none] [.inr rs0] M = (match rs0 with | some _q1 => (match rs0 with | some q2 => (if zkd q2 = 5 then (match rs0 with | some q3 => (if zkd q3 = 5 then (match rs0 with | some q4 => (if zkd q4 = 5 then (if x3 = 0 ∨ x3 = 1 then (mX1_reckonNeeds [.inr (some 1)] (st2 (st2 (st2 M q2 9 (1 : Int32)) q3 10 x2) q4 11 x3)).bind (fun r => k 36 [some (.inr (some 1)), some (.inl x1), some (.inl x2), some (.inl x3), some (.inr rs0)] (r.1.toList ++ []) r.2) else none) else none) | none => none) else none) | none => none) else none) | none => none) | none => some ((some (.inl (0 : Int32))), M)) := by intro k; cases rs0 <;> rfl
  have h := h gX1_keepValue
  rw [mgs_gX1_keepValue] at h
  exact h
set_option maxRecDepth 100000 in
theorem eX1_keepValue_36 (M : MM) (x1 : Int32) (x2 : Int32) (x3 : Int32) (r4 : Option Nat) (xs0 : Int32) : gX1_keepValue 36 [some (.inr (some 1)), some (.inl x1), some (.inl x2), some (.inl x3), some (.inr r4)] [.inl xs0] M = some ((some (.inl xs0)), M) := by
  have h : ∀ k : KT, mgs (zlook tX1_keepValue) nX1_keepValue k 1 36 [some (.inr (some 1)), some (.inl x1), some (.inl x2), some (.inl x3), some (.inr r4)] [.inl xs0] M = some ((some (.inl xs0)), M) := fun k => rfl
  have h := h gX1_keepValue
  rw [mgs_gX1_keepValue] at h
  exact h
theorem iX1_keepValue (M : MM) (x1 : Int32) (x2 : Int32) (x3 : Int32) : mX1_keepValue [.inr (some 1), .inl x1, .inl x2, .inl x3] M = gX1_keepValue 0 [some (.inr (some 1)), some (.inl x1), some (.inl x2), some (.inl x3), none] [] M := rfl
noncomputable def gX2_clear : KT := mev (zlook tX2_clear)
theorem ctX2_clear : ∀ q ∈ tX2_clear, Cont q.2 := by
  refine ccons (cont_aload _ _) ?_
  refine ccons (cont_push _ _) ?_
  refine ccons (cont_put _ _ _) ?_
  refine ccons (cont_vret) ?_
  exact cnil
theorem mgs_gX2_clear (cut : List Nat) (n : Nat) : mgs (zlook tX2_clear) cut gX2_clear n = gX2_clear := mgs_mev (ctab ctX2_clear) cut n
def nX2_clear : List Nat := [0]
set_option maxRecDepth 100000 in
theorem eX2_clear_0 (M : MM) : gX2_clear 0 [some (.inr (some 2))] [] M = some (none, (st2 M 2 3 (0 : Int32))) := by
  have h : ∀ k : KT, mgs (zlook tX2_clear) nX2_clear k 4 0 [some (.inr (some 2))] [] M = some (none, (st2 M 2 3 (0 : Int32))) := fun k => rfl
  have h := h gX2_clear
  rw [mgs_gX2_clear] at h
  exact h
theorem iX2_clear (M : MM) : mX2_clear [.inr (some 2)] M = gX2_clear 0 [some (.inr (some 2))] [] M := rfl
noncomputable def gX2_addPlace : KT := mev (zlook tX2_addPlace)
theorem ctX2_addPlace : ∀ q ∈ tX2_addPlace, Cont q.2 := by
  refine ccons (cont_aload _ _) ?_
  refine ccons (cont_getI _ _ _) ?_
  refine ccons (cont_aload _ _) ?_
  refine ccons (cont_getR _ _ _) ?_
  refine ccons (cont_len _) ?_
  refine ccons (cont_c_lt _ _) ?_
  refine ccons (cont_push _ _) ?_
  refine ccons (cont_iret) ?_
  refine ccons (cont_aload _ _) ?_
  refine ccons (cont_getR _ _ _) ?_
  refine ccons (cont_aload _ _) ?_
  refine ccons (cont_getI _ _ _) ?_
  refine ccons (cont_push _ _) ?_
  refine ccons (cont_ast _) ?_
  refine ccons (cont_aload _ _) ?_
  refine ccons (cont_dup _) ?_
  refine ccons (cont_getI _ _ _) ?_
  refine ccons (cont_push _ _) ?_
  refine ccons (cont_bin _ _) ?_
  refine ccons (cont_put _ _ _) ?_
  refine ccons (cont_aload _ _) ?_
  refine ccons (cont_getI _ _ _) ?_
  refine ccons (cont_iret) ?_
  exact cnil
theorem mgs_gX2_addPlace (cut : List Nat) (n : Nat) : mgs (zlook tX2_addPlace) cut gX2_addPlace n = gX2_addPlace := mgs_mev (ctab ctX2_addPlace) cut n
def nX2_addPlace : List Nat := [0]
set_option maxRecDepth 100000 in
theorem eX2_addPlace_0 (M : MM) : gX2_addPlace 0 [some (.inr (some 2))] [] M = (if (M 2 3) < (8 : Int32) then (if (M 2 3) < 0 ∨ 8 ≤ (M 2 3).toNatClampNeg then none else some ((some (.inl ((st2 (st2 M 9 (M 2 3).toNatClampNeg (0 : Int32)) 2 3 (((st2 M 9 (M 2 3).toNatClampNeg (0 : Int32)) 2 3) + (1 : Int32))) 2 3))), (st2 (st2 M 9 (M 2 3).toNatClampNeg (0 : Int32)) 2 3 (((st2 M 9 (M 2 3).toNatClampNeg (0 : Int32)) 2 3) + (1 : Int32))))) else some ((some (.inl (-1 : Int32))), M)) := by
  have h : ∀ k : KT, mgs (zlook tX2_addPlace) nX2_addPlace k 21 0 [some (.inr (some 2))] [] M = (if (M 2 3) < (8 : Int32) then (if (M 2 3) < 0 ∨ 8 ≤ (M 2 3).toNatClampNeg then none else some ((some (.inl ((st2 (st2 M 9 (M 2 3).toNatClampNeg (0 : Int32)) 2 3 (((st2 M 9 (M 2 3).toNatClampNeg (0 : Int32)) 2 3) + (1 : Int32))) 2 3))), (st2 (st2 M 9 (M 2 3).toNatClampNeg (0 : Int32)) 2 3 (((st2 M 9 (M 2 3).toNatClampNeg (0 : Int32)) 2 3) + (1 : Int32))))) else some ((some (.inl (-1 : Int32))), M)) := fun k => rfl
  have h := h gX2_addPlace
  rw [mgs_gX2_addPlace] at h
  exact h
theorem iX2_addPlace (M : MM) : mX2_addPlace [.inr (some 2)] M = gX2_addPlace 0 [some (.inr (some 2))] [] M := rfl
noncomputable def gX2_costOf : KT := mev (zlook tX2_costOf)
theorem ctX2_costOf : ∀ q ∈ tX2_costOf, Cont q.2 := by
  refine ccons (cont_push _ _) ?_
  refine ccons (cont_istore _ _) ?_
  refine ccons (cont_iload _ _) ?_
  refine ccons (cont_aload _ _) ?_
  refine ccons (cont_iload _ _) ?_
  refine ccons (cont_callV _ _ _ _) ?_
  refine ccons (cont_c_ge _ _) ?_
  refine ccons (cont_aload _ _) ?_
  refine ccons (cont_iload _ _) ?_
  refine ccons (cont_iload _ _) ?_
  refine ccons (cont_callV _ _ _ _) ?_
  refine ccons (cont_iload _ _) ?_
  refine ccons (cont_c_ne _ _) ?_
  refine ccons (cont_aload _ _) ?_
  refine ccons (cont_iload _ _) ?_
  refine ccons (cont_iload _ _) ?_
  refine ccons (cont_callV _ _ _ _) ?_
  refine ccons (cont_iret) ?_
  refine ccons (cont_iinc _ _ _) ?_
  refine ccons (cont_goto _) ?_
  refine ccons (cont_push _ _) ?_
  refine ccons (cont_iret) ?_
  exact cnil
theorem mgs_gX2_costOf (cut : List Nat) (n : Nat) : mgs (zlook tX2_costOf) cut gX2_costOf n = gX2_costOf := mgs_mev (ctab ctX2_costOf) cut n
def nX2_costOf : List Nat := [0, 2, 8, 17, 27]
set_option maxRecDepth 100000 in
theorem eX2_costOf_0 (M : MM) (x1 : Int32) (x2 : Int32) : gX2_costOf 0 [some (.inr (some 2)), some (.inl x1), some (.inl x2), none] [] M = gX2_costOf 2 [some (.inr (some 2)), some (.inl x1), some (.inl x2), some (.inl (0 : Int32))] [] M := by
  have h : ∀ k : KT, mgs (zlook tX2_costOf) nX2_costOf k 2 0 [some (.inr (some 2)), some (.inl x1), some (.inl x2), none] [] M = k 2 [some (.inr (some 2)), some (.inl x1), some (.inl x2), some (.inl (0 : Int32))] [] M := fun k => rfl
  have h := h gX2_costOf
  rw [mgs_gX2_costOf] at h
  exact h
set_option maxRecDepth 100000 in
theorem eX2_costOf_2 (M : MM) (x1 : Int32) (x2 : Int32) (x3 : Int32) : gX2_costOf 2 [some (.inr (some 2)), some (.inl x1), some (.inl x2), some (.inl x3)] [] M = (mX2_wordsIn [.inr (some 2), .inl x1] M).bind (fun r => gX2_costOf 8 [some (.inr (some 2)), some (.inl x1), some (.inl x2), some (.inl x3)] (r.1.toList ++ [.inl x3]) r.2) := by
  have h : ∀ k : KT, mgs (zlook tX2_costOf) nX2_costOf k 4 2 [some (.inr (some 2)), some (.inl x1), some (.inl x2), some (.inl x3)] [] M = (mX2_wordsIn [.inr (some 2), .inl x1] M).bind (fun r => k 8 [some (.inr (some 2)), some (.inl x1), some (.inl x2), some (.inl x3)] (r.1.toList ++ [.inl x3]) r.2) := fun k => rfl
  have h := h gX2_costOf
  rw [mgs_gX2_costOf] at h
  exact h
set_option maxRecDepth 100000 in
theorem eX2_costOf_8 (M : MM) (x1 : Int32) (x2 : Int32) (x3 : Int32) (xs0 : Int32) (xs1 : Int32) : gX2_costOf 8 [some (.inr (some 2)), some (.inl x1), some (.inl x2), some (.inl x3)] [.inl xs0, .inl xs1] M = (if xs0 ≤ xs1 then some ((some (.inl (-1 : Int32))), M) else (mX2_wordAt [.inr (some 2), .inl x1, .inl x3] M).bind (fun r => gX2_costOf 17 [some (.inr (some 2)), some (.inl x1), some (.inl x2), some (.inl x3)] (r.1.toList ++ []) r.2)) := by
  have h : ∀ k : KT, mgs (zlook tX2_costOf) nX2_costOf k 5 8 [some (.inr (some 2)), some (.inl x1), some (.inl x2), some (.inl x3)] [.inl xs0, .inl xs1] M = (if xs0 ≤ xs1 then some ((some (.inl (-1 : Int32))), M) else (mX2_wordAt [.inr (some 2), .inl x1, .inl x3] M).bind (fun r => k 17 [some (.inr (some 2)), some (.inl x1), some (.inl x2), some (.inl x3)] (r.1.toList ++ []) r.2)) := fun k => rfl
  have h := h gX2_costOf
  rw [mgs_gX2_costOf] at h
  exact h
set_option maxRecDepth 100000 in
theorem eX2_costOf_17 (M : MM) (x1 : Int32) (x2 : Int32) (x3 : Int32) (xs0 : Int32) : gX2_costOf 17 [some (.inr (some 2)), some (.inl x1), some (.inl x2), some (.inl x3)] [.inl xs0] M = (if xs0 = x2 then (mX2_costAt [.inr (some 2), .inl x1, .inl x3] M).bind (fun r => gX2_costOf 27 [some (.inr (some 2)), some (.inl x1), some (.inl x2), some (.inl x3)] (r.1.toList ++ []) r.2) else gX2_costOf 2 [some (.inr (some 2)), some (.inl x1), some (.inl x2), some (.inl (x3 + (1 : Int32)))] [] M) := by
  have h : ∀ k : KT, mgs (zlook tX2_costOf) nX2_costOf k 6 17 [some (.inr (some 2)), some (.inl x1), some (.inl x2), some (.inl x3)] [.inl xs0] M = (if xs0 = x2 then (mX2_costAt [.inr (some 2), .inl x1, .inl x3] M).bind (fun r => k 27 [some (.inr (some 2)), some (.inl x1), some (.inl x2), some (.inl x3)] (r.1.toList ++ []) r.2) else k 2 [some (.inr (some 2)), some (.inl x1), some (.inl x2), some (.inl (x3 + (1 : Int32)))] [] M) := fun k => rfl
  have h := h gX2_costOf
  rw [mgs_gX2_costOf] at h
  exact h
set_option maxRecDepth 100000 in
theorem eX2_costOf_27 (M : MM) (x1 : Int32) (x2 : Int32) (x3 : Int32) (xs0 : Int32) : gX2_costOf 27 [some (.inr (some 2)), some (.inl x1), some (.inl x2), some (.inl x3)] [.inl xs0] M = some ((some (.inl xs0)), M) := by
  have h : ∀ k : KT, mgs (zlook tX2_costOf) nX2_costOf k 1 27 [some (.inr (some 2)), some (.inl x1), some (.inl x2), some (.inl x3)] [.inl xs0] M = some ((some (.inl xs0)), M) := fun k => rfl
  have h := h gX2_costOf
  rw [mgs_gX2_costOf] at h
  exact h
theorem iX2_costOf (M : MM) (x1 : Int32) (x2 : Int32) : mX2_costOf [.inr (some 2), .inl x1, .inl x2] M = gX2_costOf 0 [some (.inr (some 2)), some (.inl x1), some (.inl x2), none] [] M := rfl
noncomputable def gX2_addWord : KT := mev (zlook tX2_addWord)
theorem ctX2_addWord : ∀ q ∈ tX2_addWord, Cont q.2 := by
  refine ccons (cont_aload _ _) ?_
  refine ccons (cont_getI _ _ _) ?_
  refine ccons (cont_push _ _) ?_
  refine ccons (cont_bin _ _) ?_
  refine ccons (cont_istore _ _) ?_
  refine ccons (cont_iload _ _) ?_
  refine ccons (cont_if_lt _ _) ?_
  refine ccons (cont_iload _ _) ?_
  refine ccons (cont_aload _ _) ?_
  refine ccons (cont_getR _ _ _) ?_
  refine ccons (cont_len _) ?_
  refine ccons (cont_c_ge _ _) ?_
  refine ccons (cont_aload _ _) ?_
  refine ccons (cont_getR _ _ _) ?_
  refine ccons (cont_iload _ _) ?_
  refine ccons (cont_ald _ _) ?_
  refine ccons (cont_push _ _) ?_
  refine ccons (cont_c_ge _ _) ?_
  refine ccons (cont_aload _ _) ?_
  refine ccons (cont_iload _ _) ?_
  refine ccons (cont_iload _ _) ?_
  refine ccons (cont_callV _ _ _ _) ?_
  refine ccons (cont_push _ _) ?_
  refine ccons (cont_c_eq _ _) ?_
  refine ccons (cont_push _ _) ?_
  refine ccons (cont_iret) ?_
  refine ccons (cont_iload _ _) ?_
  refine ccons (cont_push _ _) ?_
  refine ccons (cont_bin _ _) ?_
  refine ccons (cont_aload _ _) ?_
  refine ccons (cont_getR _ _ _) ?_
  refine ccons (cont_iload _ _) ?_
  refine ccons (cont_ald _ _) ?_
  refine ccons (cont_bin _ _) ?_
  refine ccons (cont_istore _ _) ?_
  refine ccons (cont_iload _ _) ?_
  refine ccons (cont_if_lt _ _) ?_
  refine ccons (cont_iload _ _) ?_
  refine ccons (cont_aload _ _) ?_
  refine ccons (cont_getR _ _ _) ?_
  refine ccons (cont_len _) ?_
  refine ccons (cont_c_ge _ _) ?_
  refine ccons (cont_iload _ _) ?_
  refine ccons (cont_aload _ _) ?_
  refine ccons (cont_getR _ _ _) ?_
  refine ccons (cont_len _) ?_
  refine ccons (cont_c_lt _ _) ?_
  refine ccons (cont_push _ _) ?_
  refine ccons (cont_iret) ?_
  refine ccons (cont_aload _ _) ?_
  refine ccons (cont_getR _ _ _) ?_
  refine ccons (cont_iload _ _) ?_
  refine ccons (cont_iload _ _) ?_
  refine ccons (cont_ast _) ?_
  refine ccons (cont_aload _ _) ?_
  refine ccons (cont_getR _ _ _) ?_
  refine ccons (cont_iload _ _) ?_
  refine ccons (cont_iload _ _) ?_
  refine ccons (cont_ast _) ?_
  refine ccons (cont_aload _ _) ?_
  refine ccons (cont_getR _ _ _) ?_
  refine ccons (cont_iload _ _) ?_
  refine ccons (cont_dup2 _) ?_
  refine ccons (cont_ald _ _) ?_
  refine ccons (cont_push _ _) ?_
  refine ccons (cont_bin _ _) ?_
  refine ccons (cont_ast _) ?_
  refine ccons (cont_aload _ _) ?_
  refine ccons (cont_getR _ _ _) ?_
  refine ccons (cont_iload _ _) ?_
  refine ccons (cont_ald _ _) ?_
  refine ccons (cont_iret) ?_
  exact cnil
theorem mgs_gX2_addWord (cut : List Nat) (n : Nat) : mgs (zlook tX2_addWord) cut gX2_addWord n = gX2_addWord := mgs_mev (ctab ctX2_addWord) cut n
def nX2_addWord : List Nat := [0, 36]
set_option maxRecDepth 100000 in
theorem eX2_addWord_0 (M : MM) (x1 : Int32) (x2 : Int32) : gX2_addWord 0 [some (.inr (some 2)), some (.inl x1), some (.inl x2), none, none] [] M = (if ((M 2 3) - (1 : Int32)) < 0 then some ((some (.inl (-1 : Int32))), M) else (if (8 : Int32) ≤ ((M 2 3) - (1 : Int32)) then some ((some (.inl (-1 : Int32))), M) else (if ((M 2 3) - (1 : Int32)) < 0 ∨ 8 ≤ ((M 2 3) - (1 : Int32)).toNatClampNeg then none else (if (4 : Int32) ≤ (M 9 ((M 2 3) - (1 : Int32)).toNatClampNeg) then some ((some (.inl (-1 : Int32))), M) else (mX2_costOf [.inr (some 2), .inl ((M 2 3) - (1 : Int32)), .inl x1] M).bind (fun r => gX2_addWord 36 [some (.inr (some 2)), some (.inl x1), some (.inl x2), some (.inl ((M 2 3) - (1 : Int32))), none] (r.1.toList ++ []) r.2))))) := by
  have h : ∀ k : KT, mgs (zlook tX2_addWord) nX2_addWord k 22 0 [some (.inr (some 2)), some (.inl x1), some (.inl x2), none, none] [] M = (if ((M 2 3) - (1 : Int32)) < 0 then some ((some (.inl (-1 : Int32))), M) else (if (8 : Int32) ≤ ((M 2 3) - (1 : Int32)) then some ((some (.inl (-1 : Int32))), M) else (if ((M 2 3) - (1 : Int32)) < 0 ∨ 8 ≤ ((M 2 3) - (1 : Int32)).toNatClampNeg then none else (if (4 : Int32) ≤ (M 9 ((M 2 3) - (1 : Int32)).toNatClampNeg) then some ((some (.inl (-1 : Int32))), M) else (mX2_costOf [.inr (some 2), .inl ((M 2 3) - (1 : Int32)), .inl x1] M).bind (fun r => k 36 [some (.inr (some 2)), some (.inl x1), some (.inl x2), some (.inl ((M 2 3) - (1 : Int32))), none] (r.1.toList ++ []) r.2))))) := fun k => rfl
  have h := h gX2_addWord
  rw [mgs_gX2_addWord] at h
  exact h
set_option maxRecDepth 100000 in
theorem eX2_addWord_36 (M : MM) (x1 : Int32) (x2 : Int32) (x3 : Int32) (xs0 : Int32) : gX2_addWord 36 [some (.inr (some 2)), some (.inl x1), some (.inl x2), some (.inl x3), none] [.inl xs0] M = (if xs0 = (-1 : Int32) then (if x3 < 0 ∨ 8 ≤ x3.toNatClampNeg then none else (if ((x3 * (4 : Int32)) + (M 9 x3.toNatClampNeg)) < 0 then some ((some (.inl (-1 : Int32))), M) else (if (32 : Int32) ≤ ((x3 * (4 : Int32)) + (M 9 x3.toNatClampNeg)) then some ((some (.inl (-1 : Int32))), M) else (if ((x3 * (4 : Int32)) + (M 9 x3.toNatClampNeg)) < (32 : Int32) then (if ((x3 * (4 : Int32)) + (M 9 x3.toNatClampNeg)) < 0 ∨ 32 ≤ ((x3 * (4 : Int32)) + (M 9 x3.toNatClampNeg)).toNatClampNeg then none else (if ((x3 * (4 : Int32)) + (M 9 x3.toNatClampNeg)) < 0 ∨ 32 ≤ ((x3 * (4 : Int32)) + (M 9 x3.toNatClampNeg)).toNatClampNeg then none else (if x3 < 0 ∨ 8 ≤ x3.toNatClampNeg then none else (if x3 < 0 ∨ 8 ≤ x3.toNatClampNeg then none else (if x3 < 0 ∨ 8 ≤ x3.toNatClampNeg then none else some ((some (.inl ((st2 (st2 (st2 M 7 ((x3 * (4 : Int32)) + (M 9 x3.toNatClampNeg)).toNatClampNeg x1) 8 ((x3 * (4 : Int32)) + (M 9 x3.toNatClampNeg)).toNatClampNeg x2) 9 x3.toNatClampNeg (((st2 (st2 M 7 ((x3 * (4 : Int32)) + (M 9 x3.toNatClampNeg)).toNatClampNeg x1) 8 ((x3 * (4 : Int32)) + (M 9 x3.toNatClampNeg)).toNatClampNeg x2) 9 x3.toNatClampNeg) + (1 : Int32))) 9 x3.toNatClampNeg))), (st2 (st2 (st2 M 7 ((x3 * (4 : Int32)) + (M 9 x3.toNatClampNeg)).toNatClampNeg x1) 8 ((x3 * (4 : Int32)) + (M 9 x3.toNatClampNeg)).toNatClampNeg x2) 9 x3.toNatClampNeg (((st2 (st2 M 7 ((x3 * (4 : Int32)) + (M 9 x3.toNatClampNeg)).toNatClampNeg x1) 8 ((x3 * (4 : Int32)) + (M 9 x3.toNatClampNeg)).toNatClampNeg x2) 9 x3.toNatClampNeg) + (1 : Int32))))))))) else some ((some (.inl (-1 : Int32))), M))))) else some ((some (.inl (-1 : Int32))), M)) := by
  have h : ∀ k : KT, mgs (zlook tX2_addWord) nX2_addWord k 46 36 [some (.inr (some 2)), some (.inl x1), some (.inl x2), some (.inl x3), none] [.inl xs0] M = (if xs0 = (-1 : Int32) then (if x3 < 0 ∨ 8 ≤ x3.toNatClampNeg then none else (if ((x3 * (4 : Int32)) + (M 9 x3.toNatClampNeg)) < 0 then some ((some (.inl (-1 : Int32))), M) else (if (32 : Int32) ≤ ((x3 * (4 : Int32)) + (M 9 x3.toNatClampNeg)) then some ((some (.inl (-1 : Int32))), M) else (if ((x3 * (4 : Int32)) + (M 9 x3.toNatClampNeg)) < (32 : Int32) then (if ((x3 * (4 : Int32)) + (M 9 x3.toNatClampNeg)) < 0 ∨ 32 ≤ ((x3 * (4 : Int32)) + (M 9 x3.toNatClampNeg)).toNatClampNeg then none else (if ((x3 * (4 : Int32)) + (M 9 x3.toNatClampNeg)) < 0 ∨ 32 ≤ ((x3 * (4 : Int32)) + (M 9 x3.toNatClampNeg)).toNatClampNeg then none else (if x3 < 0 ∨ 8 ≤ x3.toNatClampNeg then none else (if x3 < 0 ∨ 8 ≤ x3.toNatClampNeg then none else (if x3 < 0 ∨ 8 ≤ x3.toNatClampNeg then none else some ((some (.inl ((st2 (st2 (st2 M 7 ((x3 * (4 : Int32)) + (M 9 x3.toNatClampNeg)).toNatClampNeg x1) 8 ((x3 * (4 : Int32)) + (M 9 x3.toNatClampNeg)).toNatClampNeg x2) 9 x3.toNatClampNeg (((st2 (st2 M 7 ((x3 * (4 : Int32)) + (M 9 x3.toNatClampNeg)).toNatClampNeg x1) 8 ((x3 * (4 : Int32)) + (M 9 x3.toNatClampNeg)).toNatClampNeg x2) 9 x3.toNatClampNeg) + (1 : Int32))) 9 x3.toNatClampNeg))), (st2 (st2 (st2 M 7 ((x3 * (4 : Int32)) + (M 9 x3.toNatClampNeg)).toNatClampNeg x1) 8 ((x3 * (4 : Int32)) + (M 9 x3.toNatClampNeg)).toNatClampNeg x2) 9 x3.toNatClampNeg (((st2 (st2 M 7 ((x3 * (4 : Int32)) + (M 9 x3.toNatClampNeg)).toNatClampNeg x1) 8 ((x3 * (4 : Int32)) + (M 9 x3.toNatClampNeg)).toNatClampNeg x2) 9 x3.toNatClampNeg) + (1 : Int32))))))))) else some ((some (.inl (-1 : Int32))), M))))) else some ((some (.inl (-1 : Int32))), M)) := fun k => rfl
  have h := h gX2_addWord
  rw [mgs_gX2_addWord] at h
  exact h
theorem iX2_addWord (M : MM) (x1 : Int32) (x2 : Int32) : mX2_addWord [.inr (some 2), .inl x1, .inl x2] M = gX2_addWord 0 [some (.inr (some 2)), some (.inl x1), some (.inl x2), none, none] [] M := rfl
noncomputable def gX3_push : KT := mev (zlook tX3_push)
theorem ctX3_push : ∀ q ∈ tX3_push, Cont q.2 := by
  refine ccons (cont_aload _ _) ?_
  refine ccons (cont_getI _ _ _) ?_
  refine ccons (cont_aload _ _) ?_
  refine ccons (cont_getR _ _ _) ?_
  refine ccons (cont_len _) ?_
  refine ccons (cont_c_lt _ _) ?_
  refine ccons (cont_push _ _) ?_
  refine ccons (cont_istore _ _) ?_
  refine ccons (cont_iload _ _) ?_
  refine ccons (cont_aload _ _) ?_
  refine ccons (cont_getR _ _ _) ?_
  refine ccons (cont_len _) ?_
  refine ccons (cont_c_ge _ _) ?_
  refine ccons (cont_aload _ _) ?_
  refine ccons (cont_getR _ _ _) ?_
  refine ccons (cont_iload _ _) ?_
  refine ccons (cont_push _ _) ?_
  refine ccons (cont_bin _ _) ?_
  refine ccons (cont_aload _ _) ?_
  refine ccons (cont_getR _ _ _) ?_
  refine ccons (cont_iload _ _) ?_
  refine ccons (cont_ald _ _) ?_
  refine ccons (cont_ast _) ?_
  refine ccons (cont_iinc _ _ _) ?_
  refine ccons (cont_goto _) ?_
  refine ccons (cont_aload _ _) ?_
  refine ccons (cont_aload _ _) ?_
  refine ccons (cont_getR _ _ _) ?_
  refine ccons (cont_len _) ?_
  refine ccons (cont_push _ _) ?_
  refine ccons (cont_bin _ _) ?_
  refine ccons (cont_put _ _ _) ?_
  refine ccons (cont_aload _ _) ?_
  refine ccons (cont_getI _ _ _) ?_
  refine ccons (cont_if_lt _ _) ?_
  refine ccons (cont_aload _ _) ?_
  refine ccons (cont_getI _ _ _) ?_
  refine ccons (cont_aload _ _) ?_
  refine ccons (cont_getR _ _ _) ?_
  refine ccons (cont_len _) ?_
  refine ccons (cont_c_ge _ _) ?_
  refine ccons (cont_aload _ _) ?_
  refine ccons (cont_getR _ _ _) ?_
  refine ccons (cont_aload _ _) ?_
  refine ccons (cont_getI _ _ _) ?_
  refine ccons (cont_iload _ _) ?_
  refine ccons (cont_ast _) ?_
  refine ccons (cont_aload _ _) ?_
  refine ccons (cont_dup _) ?_
  refine ccons (cont_getI _ _ _) ?_
  refine ccons (cont_push _ _) ?_
  refine ccons (cont_bin _ _) ?_
  refine ccons (cont_put _ _ _) ?_
  refine ccons (cont_vret) ?_
  exact cnil
theorem mgs_gX3_push (cut : List Nat) (n : Nat) : mgs (zlook tX3_push) cut gX3_push n = gX3_push := mgs_mev (ctab ctX3_push) cut n
def nX3_push : List Nat := [0, 14, 54]
set_option maxRecDepth 100000 in
theorem eX3_push_0 (M : MM) (x1 : Int32) : gX3_push 0 [some (.inr (some 14)), some (.inl x1), none] [] M = (if (M 14 1) < (20 : Int32) then gX3_push 54 [some (.inr (some 14)), some (.inl x1), none] [] M else gX3_push 14 [some (.inr (some 14)), some (.inl x1), some (.inl (1 : Int32))] [] M) := by
  have h : ∀ k : KT, mgs (zlook tX3_push) nX3_push k 8 0 [some (.inr (some 14)), some (.inl x1), none] [] M = (if (M 14 1) < (20 : Int32) then k 54 [some (.inr (some 14)), some (.inl x1), none] [] M else k 14 [some (.inr (some 14)), some (.inl x1), some (.inl (1 : Int32))] [] M) := fun k => rfl
  have h := h gX3_push
  rw [mgs_gX3_push] at h
  exact h
set_option maxRecDepth 100000 in
theorem eX3_push_14 (M : MM) (x1 : Int32) (x2 : Int32) : gX3_push 14 [some (.inr (some 14)), some (.inl x1), some (.inl x2)] [] M = (if (20 : Int32) ≤ x2 then gX3_push 54 [some (.inr (some 14)), some (.inl x1), some (.inl x2)] [] (st2 M 14 1 ((20 : Int32) - (1 : Int32))) else (if x2 < 0 ∨ 20 ≤ x2.toNatClampNeg then none else (if (x2 - (1 : Int32)) < 0 ∨ 20 ≤ (x2 - (1 : Int32)).toNatClampNeg then none else gX3_push 14 [some (.inr (some 14)), some (.inl x1), some (.inl (x2 + (1 : Int32)))] [] (st2 M 18 (x2 - (1 : Int32)).toNatClampNeg (M 18 x2.toNatClampNeg))))) := by
  have h : ∀ k : KT, mgs (zlook tX3_push) nX3_push k 17 14 [some (.inr (some 14)), some (.inl x1), some (.inl x2)] [] M = (if (20 : Int32) ≤ x2 then k 54 [some (.inr (some 14)), some (.inl x1), some (.inl x2)] [] (st2 M 14 1 ((20 : Int32) - (1 : Int32))) else (if x2 < 0 ∨ 20 ≤ x2.toNatClampNeg then none else (if (x2 - (1 : Int32)) < 0 ∨ 20 ≤ (x2 - (1 : Int32)).toNatClampNeg then none else k 14 [some (.inr (some 14)), some (.inl x1), some (.inl (x2 + (1 : Int32)))] [] (st2 M 18 (x2 - (1 : Int32)).toNatClampNeg (M 18 x2.toNatClampNeg))))) := fun k => rfl
  have h := h gX3_push
  rw [mgs_gX3_push] at h
  exact h
set_option maxRecDepth 100000 in
theorem eX3_push_54 (M : MM) (x1 : Int32) (d2 : Option AV) : gX3_push 54 [some (.inr (some 14)), some (.inl x1), d2] [] M = (if (M 14 1) < 0 then some (none, M) else (if (20 : Int32) ≤ (M 14 1) then some (none, M) else (if (M 14 1) < 0 ∨ 20 ≤ (M 14 1).toNatClampNeg then none else some (none, (st2 (st2 M 18 (M 14 1).toNatClampNeg x1) 14 1 (((st2 M 18 (M 14 1).toNatClampNeg x1) 14 1) + (1 : Int32))))))) := by
  have h : ∀ k : KT, mgs (zlook tX3_push) nX3_push k 22 54 [some (.inr (some 14)), some (.inl x1), d2] [] M = (if (M 14 1) < 0 then some (none, M) else (if (20 : Int32) ≤ (M 14 1) then some (none, M) else (if (M 14 1) < 0 ∨ 20 ≤ (M 14 1).toNatClampNeg then none else some (none, (st2 (st2 M 18 (M 14 1).toNatClampNeg x1) 14 1 (((st2 M 18 (M 14 1).toNatClampNeg x1) 14 1) + (1 : Int32))))))) := fun k => rfl
  have h := h gX3_push
  rw [mgs_gX3_push] at h
  exact h
theorem iX3_push (M : MM) (x1 : Int32) : mX3_push [.inr (some 14), .inl x1] M = gX3_push 0 [some (.inr (some 14)), some (.inl x1), none] [] M := rfl
noncomputable def gX3_pop : KT := mev (zlook tX3_pop)
theorem ctX3_pop : ∀ q ∈ tX3_pop, Cont q.2 := by
  refine ccons (cont_aload _ _) ?_
  refine ccons (cont_getI _ _ _) ?_
  refine ccons (cont_if_le _ _) ?_
  refine ccons (cont_aload _ _) ?_
  refine ccons (cont_getI _ _ _) ?_
  refine ccons (cont_aload _ _) ?_
  refine ccons (cont_getR _ _ _) ?_
  refine ccons (cont_len _) ?_
  refine ccons (cont_c_le _ _) ?_
  refine ccons (cont_push _ _) ?_
  refine ccons (cont_iret) ?_
  refine ccons (cont_aload _ _) ?_
  refine ccons (cont_dup _) ?_
  refine ccons (cont_getI _ _ _) ?_
  refine ccons (cont_push _ _) ?_
  refine ccons (cont_bin _ _) ?_
  refine ccons (cont_put _ _ _) ?_
  refine ccons (cont_aload _ _) ?_
  refine ccons (cont_getR _ _ _) ?_
  refine ccons (cont_aload _ _) ?_
  refine ccons (cont_getI _ _ _) ?_
  refine ccons (cont_ald _ _) ?_
  refine ccons (cont_iret) ?_
  exact cnil
theorem mgs_gX3_pop (cut : List Nat) (n : Nat) : mgs (zlook tX3_pop) cut gX3_pop n = gX3_pop := mgs_mev (ctab ctX3_pop) cut n
def nX3_pop : List Nat := [0]
set_option maxRecDepth 100000 in
theorem eX3_pop_0 (M : MM) : gX3_pop 0 [some (.inr (some 14))] [] M = (if (M 14 1) ≤ 0 then some ((some (.inl (-1 : Int32))), M) else (if (M 14 1) ≤ (20 : Int32) then (if ((st2 M 14 1 ((M 14 1) - (1 : Int32))) 14 1) < 0 ∨ 20 ≤ ((st2 M 14 1 ((M 14 1) - (1 : Int32))) 14 1).toNatClampNeg then none else some ((some (.inl ((st2 M 14 1 ((M 14 1) - (1 : Int32))) 18 ((st2 M 14 1 ((M 14 1) - (1 : Int32))) 14 1).toNatClampNeg))), (st2 M 14 1 ((M 14 1) - (1 : Int32))))) else some ((some (.inl (-1 : Int32))), M))) := by
  have h : ∀ k : KT, mgs (zlook tX3_pop) nX3_pop k 21 0 [some (.inr (some 14))] [] M = (if (M 14 1) ≤ 0 then some ((some (.inl (-1 : Int32))), M) else (if (M 14 1) ≤ (20 : Int32) then (if ((st2 M 14 1 ((M 14 1) - (1 : Int32))) 14 1) < 0 ∨ 20 ≤ ((st2 M 14 1 ((M 14 1) - (1 : Int32))) 14 1).toNatClampNeg then none else some ((some (.inl ((st2 M 14 1 ((M 14 1) - (1 : Int32))) 18 ((st2 M 14 1 ((M 14 1) - (1 : Int32))) 14 1).toNatClampNeg))), (st2 M 14 1 ((M 14 1) - (1 : Int32))))) else some ((some (.inl (-1 : Int32))), M))) := fun k => rfl
  have h := h gX3_pop
  rw [mgs_gX3_pop] at h
  exact h
theorem iX3_pop (M : MM) : mX3_pop [.inr (some 14)] M = gX3_pop 0 [some (.inr (some 14))] [] M := rfl
noncomputable def gX4_forget : KT := mev (zlook tX4_forget)
theorem ctX4_forget : ∀ q ∈ tX4_forget, Cont q.2 := by
  refine ccons (cont_aload _ _) ?_
  refine ccons (cont_getR _ _ _) ?_
  refine ccons (cont_callV _ _ _ _) ?_
  refine ccons (cont_vret) ?_
  exact cnil
theorem mgs_gX4_forget (cut : List Nat) (n : Nat) : mgs (zlook tX4_forget) cut gX4_forget n = gX4_forget := mgs_mev (ctab ctX4_forget) cut n
def nX4_forget : List Nat := [0, 7]
set_option maxRecDepth 100000 in
theorem eX4_forget_0 (M : MM) : gX4_forget 0 [some (.inr (some 3))] [] M = (mX7_clear [.inr (some 10)] M).bind (fun r => gX4_forget 7 [some (.inr (some 3))] (r.1.toList ++ []) r.2) := by
  have h : ∀ k : KT, mgs (zlook tX4_forget) nX4_forget k 3 0 [some (.inr (some 3))] [] M = (mX7_clear [.inr (some 10)] M).bind (fun r => k 7 [some (.inr (some 3))] (r.1.toList ++ []) r.2) := fun k => rfl
  have h := h gX4_forget
  rw [mgs_gX4_forget] at h
  exact h
set_option maxRecDepth 100000 in
theorem eX4_forget_7 (M : MM) : gX4_forget 7 [some (.inr (some 3))] [] M = some (none, M) := by
  have h : ∀ k : KT, mgs (zlook tX4_forget) nX4_forget k 1 7 [some (.inr (some 3))] [] M = some (none, M) := fun k => rfl
  have h := h gX4_forget
  rw [mgs_gX4_forget] at h
  exact h
theorem iX4_forget (M : MM) : mX4_forget [.inr (some 3)] M = gX4_forget 0 [some (.inr (some 3))] [] M := rfl
noncomputable def gX4_leadAtFirst : KT := mev (zlook tX4_leadAtFirst)
theorem ctX4_leadAtFirst : ∀ q ∈ tX4_leadAtFirst, Cont q.2 := by
  refine ccons (cont_iload _ _) ?_
  refine ccons (cont_if_ne _ _) ?_
  refine ccons (cont_push _ _) ?_
  refine ccons (cont_goto _) ?_
  refine ccons (cont_push _ _) ?_
  refine ccons (cont_iret) ?_
  exact cnil
theorem mgs_gX4_leadAtFirst (cut : List Nat) (n : Nat) : mgs (zlook tX4_leadAtFirst) cut gX4_leadAtFirst n = gX4_leadAtFirst := mgs_mev (ctab ctX4_leadAtFirst) cut n
def nX4_leadAtFirst : List Nat := [0]
set_option maxRecDepth 100000 in
theorem eX4_leadAtFirst_0 (M : MM) (x0 : Int32) : gX4_leadAtFirst 0 [some (.inl x0)] [] M = (if x0 = 0 then some ((some (.inl (0 : Int32))), M) else some ((some (.inl (1000000 : Int32))), M)) := by
  have h : ∀ k : KT, mgs (zlook tX4_leadAtFirst) nX4_leadAtFirst k 5 0 [some (.inl x0)] [] M = (if x0 = 0 then some ((some (.inl (0 : Int32))), M) else some ((some (.inl (1000000 : Int32))), M)) := fun k => rfl
  have h := h gX4_leadAtFirst
  rw [mgs_gX4_leadAtFirst] at h
  exact h
theorem iX4_leadAtFirst (M : MM) (x0 : Int32) : mX4_leadAtFirst [.inl x0] M = gX4_leadAtFirst 0 [some (.inl x0)] [] M := rfl
noncomputable def gX4_leadIn : KT := mev (zlook tX4_leadIn)
theorem ctX4_leadIn : ∀ q ∈ tX4_leadIn, Cont q.2 := by
  refine ccons (cont_iload _ _) ?_
  refine ccons (cont_if_ne _ _) ?_
  refine ccons (cont_push _ _) ?_
  refine ccons (cont_iret) ?_
  refine ccons (cont_aload _ _) ?_
  refine ccons (cont_getR _ _ _) ?_
  refine ccons (cont_iload _ _) ?_
  refine ccons (cont_iload _ _) ?_
  refine ccons (cont_push _ _) ?_
  refine ccons (cont_c_ne _ _) ?_
  refine ccons (cont_push _ _) ?_
  refine ccons (cont_goto _) ?_
  refine ccons (cont_push _ _) ?_
  refine ccons (cont_callV _ _ _ _) ?_
  refine ccons (cont_istore _ _) ?_
  refine ccons (cont_iload _ _) ?_
  refine ccons (cont_push _ _) ?_
  refine ccons (cont_c_ne _ _) ?_
  refine ccons (cont_push _ _) ?_
  refine ccons (cont_goto _) ?_
  refine ccons (cont_iload _ _) ?_
  refine ccons (cont_aload _ _) ?_
  refine ccons (cont_getI _ _ _) ?_
  refine ccons (cont_bin _ _) ?_
  refine ccons (cont_iret) ?_
  exact cnil
theorem mgs_gX4_leadIn (cut : List Nat) (n : Nat) : mgs (zlook tX4_leadIn) cut gX4_leadIn n = gX4_leadIn := mgs_mev (ctab ctX4_leadIn) cut n
def nX4_leadIn : List Nat := [0, 25, 28]
set_option maxRecDepth 100000 in
theorem eX4_leadIn_0 (M : MM) (x1 : Int32) (x2 : Int32) : gX4_leadIn 0 [some (.inr (some 3)), some (.inl x1), some (.inl x2), none] [] M = (if x2 = 0 then some ((some (.inl (1000000 : Int32))), M) else (if x2 = (7 : Int32) then gX4_leadIn 25 [some (.inr (some 3)), some (.inl x1), some (.inl x2), none] [.inl (17 : Int32), .inl x1, .inr (some 2)] M else gX4_leadIn 25 [some (.inr (some 3)), some (.inl x1), some (.inl x2), none] [.inl (16 : Int32), .inl x1, .inr (some 2)] M)) := by
  have h : ∀ k : KT, mgs (zlook tX4_leadIn) nX4_leadIn k 10 0 [some (.inr (some 3)), some (.inl x1), some (.inl x2), none] [] M = (if x2 = 0 then some ((some (.inl (1000000 : Int32))), M) else (if x2 = (7 : Int32) then k 25 [some (.inr (some 3)), some (.inl x1), some (.inl x2), none] [.inl (17 : Int32), .inl x1, .inr (some 2)] M else k 25 [some (.inr (some 3)), some (.inl x1), some (.inl x2), none] [.inl (16 : Int32), .inl x1, .inr (some 2)] M)) := fun k => rfl
  have h := h gX4_leadIn
  rw [mgs_gX4_leadIn] at h
  exact h
set_option maxRecDepth 100000 in
theorem eX4_leadIn_25 (M : MM) (x1 : Int32) (x2 : Int32) (xs0 : Int32) (xs1 : Int32) : gX4_leadIn 25 [some (.inr (some 3)), some (.inl x1), some (.inl x2), none] [.inl xs0, .inl xs1, .inr (some 2)] M = (mX2_costOf [.inr (some 2), .inl xs1, .inl xs0] M).bind (fun r => gX4_leadIn 28 [some (.inr (some 3)), some (.inl x1), some (.inl x2), none] (r.1.toList ++ []) r.2) := by
  have h : ∀ k : KT, mgs (zlook tX4_leadIn) nX4_leadIn k 1 25 [some (.inr (some 3)), some (.inl x1), some (.inl x2), none] [.inl xs0, .inl xs1, .inr (some 2)] M = (mX2_costOf [.inr (some 2), .inl xs1, .inl xs0] M).bind (fun r => k 28 [some (.inr (some 3)), some (.inl x1), some (.inl x2), none] (r.1.toList ++ []) r.2) := fun k => rfl
  have h := h gX4_leadIn
  rw [mgs_gX4_leadIn] at h
  exact h
set_option maxRecDepth 100000 in
theorem eX4_leadIn_28 (M : MM) (x1 : Int32) (x2 : Int32) (xs0 : Int32) : gX4_leadIn 28 [some (.inr (some 3)), some (.inl x1), some (.inl x2), none] [.inl xs0] M = (if xs0 = (-1 : Int32) then some ((some (.inl (1000000 : Int32))), M) else some ((some (.inl (xs0 - (M 3 4)))), M)) := by
  have h : ∀ k : KT, mgs (zlook tX4_leadIn) nX4_leadIn k 9 28 [some (.inr (some 3)), some (.inl x1), some (.inl x2), none] [.inl xs0] M = (if xs0 = (-1 : Int32) then some ((some (.inl (1000000 : Int32))), M) else some ((some (.inl (xs0 - (M 3 4)))), M)) := fun k => rfl
  have h := h gX4_leadIn
  rw [mgs_gX4_leadIn] at h
  exact h
theorem iX4_leadIn (M : MM) (x1 : Int32) (x2 : Int32) : mX4_leadIn [.inr (some 3), .inl x1, .inl x2] M = gX4_leadIn 0 [some (.inr (some 3)), some (.inl x1), some (.inl x2), none] [] M := rfl
noncomputable def gX4_offer : KT := mev (zlook tX4_offer)
theorem ctX4_offer : ∀ q ∈ tX4_offer, Cont q.2 := by
  refine ccons (cont_aload _ _) ?_
  refine ccons (cont_getR _ _ _) ?_
  refine ccons (cont_getI _ _ _) ?_
  refine ccons (cont_aload _ _) ?_
  refine ccons (cont_getI _ _ _) ?_
  refine ccons (cont_bin _ _) ?_
  refine ccons (cont_iload _ _) ?_
  refine ccons (cont_bin _ _) ?_
  refine ccons (cont_iload _ _) ?_
  refine ccons (cont_if_ne _ _) ?_
  refine ccons (cont_push _ _) ?_
  refine ccons (cont_goto _) ?_
  refine ccons (cont_aload _ _) ?_
  refine ccons (cont_getI _ _ _) ?_
  refine ccons (cont_bin _ _) ?_
  refine ccons (cont_istore _ _) ?_
  refine ccons (cont_aload _ _) ?_
  refine ccons (cont_getR _ _ _) ?_
  refine ccons (cont_push _ _) ?_
  refine ccons (cont_iload _ _) ?_
  refine ccons (cont_iload _ _) ?_
  refine ccons (cont_push _ _) ?_
  refine ccons (cont_bin _ _) ?_
  refine ccons (cont_iload _ _) ?_
  refine ccons (cont_bin _ _) ?_
  refine ccons (cont_callV _ _ _ _) ?_
  refine ccons (cont_vret) ?_
  exact cnil
theorem mgs_gX4_offer (cut : List Nat) (n : Nat) : mgs (zlook tX4_offer) cut gX4_offer n = gX4_offer := mgs_mev (ctab ctX4_offer) cut n
def nX4_offer : List Nat := [0, 26, 45]
set_option maxRecDepth 100000 in
theorem eX4_offer_0 (M : MM) (x1 : Int32) (x2 : Int32) (x3 : Int32) : gX4_offer 0 [some (.inr (some 3)), some (.inl x1), some (.inl x2), some (.inl x3), none] [] M = (if x1 = 0 then gX4_offer 26 [some (.inr (some 3)), some (.inl x1), some (.inl x2), some (.inl x3), none] [.inl (0 : Int32), .inl (((M 2 3) * (M 3 4)) + x3)] M else gX4_offer 26 [some (.inr (some 3)), some (.inl x1), some (.inl x2), some (.inl x3), none] [.inl (M 3 5), .inl (((M 2 3) * (M 3 4)) + x3)] M) := by
  have h : ∀ k : KT, mgs (zlook tX4_offer) nX4_offer k 12 0 [some (.inr (some 3)), some (.inl x1), some (.inl x2), some (.inl x3), none] [] M = (if x1 = 0 then k 26 [some (.inr (some 3)), some (.inl x1), some (.inl x2), some (.inl x3), none] [.inl (0 : Int32), .inl (((M 2 3) * (M 3 4)) + x3)] M else k 26 [some (.inr (some 3)), some (.inl x1), some (.inl x2), some (.inl x3), none] [.inl (M 3 5), .inl (((M 2 3) * (M 3 4)) + x3)] M) := fun k => rfl
  have h := h gX4_offer
  rw [mgs_gX4_offer] at h
  exact h
set_option maxRecDepth 100000 in
theorem eX4_offer_26 (M : MM) (x1 : Int32) (x2 : Int32) (x3 : Int32) (xs0 : Int32) (xs1 : Int32) : gX4_offer 26 [some (.inr (some 3)), some (.inl x1), some (.inl x2), some (.inl x3), none] [.inl xs0, .inl xs1] M = (mX7_offer [.inr (some 10), .inl (0 : Int32), .inl (xs1 + xs0), .inl ((x1 * (100000000 : Int32)) + x2)] M).bind (fun r => gX4_offer 45 [some (.inr (some 3)), some (.inl x1), some (.inl x2), some (.inl x3), some (.inl (xs1 + xs0))] (r.1.toList ++ []) r.2) := by
  have h : ∀ k : KT, mgs (zlook tX4_offer) nX4_offer k 12 26 [some (.inr (some 3)), some (.inl x1), some (.inl x2), some (.inl x3), none] [.inl xs0, .inl xs1] M = (mX7_offer [.inr (some 10), .inl (0 : Int32), .inl (xs1 + xs0), .inl ((x1 * (100000000 : Int32)) + x2)] M).bind (fun r => k 45 [some (.inr (some 3)), some (.inl x1), some (.inl x2), some (.inl x3), some (.inl (xs1 + xs0))] (r.1.toList ++ []) r.2) := fun k => rfl
  have h := h gX4_offer
  rw [mgs_gX4_offer] at h
  exact h
set_option maxRecDepth 100000 in
theorem eX4_offer_45 (M : MM) (x1 : Int32) (x2 : Int32) (x3 : Int32) (x4 : Int32) : gX4_offer 45 [some (.inr (some 3)), some (.inl x1), some (.inl x2), some (.inl x3), some (.inl x4)] [] M = some (none, M) := by
  have h : ∀ k : KT, mgs (zlook tX4_offer) nX4_offer k 1 45 [some (.inr (some 3)), some (.inl x1), some (.inl x2), some (.inl x3), some (.inl x4)] [] M = some (none, M) := fun k => rfl
  have h := h gX4_offer
  rw [mgs_gX4_offer] at h
  exact h
theorem iX4_offer (M : MM) (x1 : Int32) (x2 : Int32) (x3 : Int32) : mX4_offer [.inr (some 3), .inl x1, .inl x2, .inl x3] M = gX4_offer 0 [some (.inr (some 3)), some (.inl x1), some (.inl x2), some (.inl x3), none] [] M := rfl
noncomputable def gX4_offerDigits : KT := mev (zlook tX4_offerDigits)
theorem ctX4_offerDigits : ∀ q ∈ tX4_offerDigits, Cont q.2 := by
  refine ccons (cont_aload _ _) ?_
  refine ccons (cont_getR _ _ _) ?_
  refine ccons (cont_getI _ _ _) ?_
  refine ccons (cont_aload _ _) ?_
  refine ccons (cont_getI _ _ _) ?_
  refine ccons (cont_c_ge _ _) ?_
  refine ccons (cont_vret) ?_
  refine ccons (cont_aload _ _) ?_
  refine ccons (cont_getR _ _ _) ?_
  refine ccons (cont_aload _ _) ?_
  refine ccons (cont_getI _ _ _) ?_
  refine ccons (cont_aload _ _) ?_
  refine ccons (cont_getI _ _ _) ?_
  refine ccons (cont_callV _ _ _ _) ?_
  refine ccons (cont_iload _ _) ?_
  refine ccons (cont_callS _ _ _) ?_
  refine ccons (cont_istore _ _) ?_
  refine ccons (cont_iload _ _) ?_
  refine ccons (cont_push _ _) ?_
  refine ccons (cont_c_ge _ _) ?_
  refine ccons (cont_aload _ _) ?_
  refine ccons (cont_getR _ _ _) ?_
  refine ccons (cont_iload _ _) ?_
  refine ccons (cont_callV _ _ _ _) ?_
  refine ccons (cont_push _ _) ?_
  refine ccons (cont_istore _ _) ?_
  refine ccons (cont_iload _ _) ?_
  refine ccons (cont_aload _ _) ?_
  refine ccons (cont_getR _ _ _) ?_
  refine ccons (cont_getI _ _ _) ?_
  refine ccons (cont_c_ge _ _) ?_
  refine ccons (cont_aload _ _) ?_
  refine ccons (cont_getR _ _ _) ?_
  refine ccons (cont_aload _ _) ?_
  refine ccons (cont_getR _ _ _) ?_
  refine ccons (cont_iload _ _) ?_
  refine ccons (cont_aload _ _) ?_
  refine ccons (cont_getI _ _ _) ?_
  refine ccons (cont_callV _ _ _ _) ?_
  refine ccons (cont_aload _ _) ?_
  refine ccons (cont_iload _ _) ?_
  refine ccons (cont_iload _ _) ?_
  refine ccons (cont_callV _ _ _ _) ?_
  refine ccons (cont_istore _ _) ?_
  refine ccons (cont_iload _ _) ?_
  refine ccons (cont_push _ _) ?_
  refine ccons (cont_c_ge _ _) ?_
  refine ccons (cont_aload _ _) ?_
  refine ccons (cont_getR _ _ _) ?_
  refine ccons (cont_iload _ _) ?_
  refine ccons (cont_callV _ _ _ _) ?_
  refine ccons (cont_iinc _ _ _) ?_
  refine ccons (cont_goto _) ?_
  refine ccons (cont_push _ _) ?_
  refine ccons (cont_istore _ _) ?_
  refine ccons (cont_iload _ _) ?_
  refine ccons (cont_push _ _) ?_
  refine ccons (cont_c_ge _ _) ?_
  refine ccons (cont_aload _ _) ?_
  refine ccons (cont_getR _ _ _) ?_
  refine ccons (cont_iload _ _) ?_
  refine ccons (cont_callV _ _ _ _) ?_
  refine ccons (cont_push _ _) ?_
  refine ccons (cont_c_ge _ _) ?_
  refine ccons (cont_aload _ _) ?_
  refine ccons (cont_iload _ _) ?_
  refine ccons (cont_aload _ _) ?_
  refine ccons (cont_getR _ _ _) ?_
  refine ccons (cont_iload _ _) ?_
  refine ccons (cont_callV _ _ _ _) ?_
  refine ccons (cont_aload _ _) ?_
  refine ccons (cont_getR _ _ _) ?_
  refine ccons (cont_iload _ _) ?_
  refine ccons (cont_callV _ _ _ _) ?_
  refine ccons (cont_callV _ _ _ _) ?_
  refine ccons (cont_iinc _ _ _) ?_
  refine ccons (cont_goto _) ?_
  refine ccons (cont_vret) ?_
  exact cnil
theorem mgs_gX4_offerDigits (cut : List Nat) (n : Nat) : mgs (zlook tX4_offerDigits) cut gX4_offerDigits n = gX4_offerDigits := mgs_mev (ctab ctX4_offerDigits) cut n
def nX4_offerDigits : List Nat := [0, 30, 34, 49, 52, 81, 88, 103, 112, 127, 143, 152, 155]
set_option maxRecDepth 100000 in
theorem eX4_offerDigits_0 (M : MM) (r1 : Option Nat) (x2 : Int32) : gX4_offerDigits 0 [some (.inr (some 3)), some (.inr r1), some (.inl x2), none, none] [] M = (match r1 with | some q1 => (if zkd q1 = 5 then (if (M q1 1) ≤ (M 2 3) then (match r1 with | some q2 => (if zkd q2 = 5 then (match r1 with | some q3 => (if zkd q3 = 5 then (mX0_clear [.inr (some 13), .inl (M q2 1), .inl (M q3 2)] M).bind (fun r => gX4_offerDigits 30 [some (.inr (some 3)), some (.inr r1), some (.inl x2), none, none] (r.1.toList ++ []) r.2) else none) | none => none) else none) | none => none) else some (none, M)) else none) | none => none) := by
  have h : ∀ k : KT, mgs (zlook tX4_offerDigits) nX4_offerDigits k 13 0 [some (.inr (some 3)), some (.inr r1), some (.inl x2), none, none] [] M = (match r1 with | some q1 => (if zkd q1 = 5 then (if (M q1 1) ≤ (M 2 3) then (match r1 with | some q2 => (if zkd q2 = 5 then (match r1 with | some q3 => (if zkd q3 = 5 then (mX0_clear [.inr (some 13), .inl (M q2 1), .inl (M q3 2)] M).bind (fun r => k 30 [some (.inr (some 3)), some (.inr r1), some (.inl x2), none, none] (r.1.toList ++ []) r.2) else none) | none => none) else none) | none => none) else some (none, M)) else none) | none => none) := by intro k; cases r1 <;> rfl
  have h := h gX4_offerDigits
  rw [mgs_gX4_offerDigits] at h
  exact h
set_option maxRecDepth 100000 in
theorem eX4_offerDigits_30 (M : MM) (r1 : Option Nat) (x2 : Int32) : gX4_offerDigits 30 [some (.inr (some 3)), some (.inr r1), some (.inl x2), none, none] [] M = (mX4_leadAtFirst [.inl x2] M).bind (fun r => gX4_offerDigits 34 [some (.inr (some 3)), some (.inr r1), some (.inl x2), none, none] (r.1.toList ++ []) r.2) := by
  have h : ∀ k : KT, mgs (zlook tX4_offerDigits) nX4_offerDigits k 2 30 [some (.inr (some 3)), some (.inr r1), some (.inl x2), none, none] [] M = (mX4_leadAtFirst [.inl x2] M).bind (fun r => k 34 [some (.inr (some 3)), some (.inr r1), some (.inl x2), none, none] (r.1.toList ++ []) r.2) := fun k => rfl
  have h := h gX4_offerDigits
  rw [mgs_gX4_offerDigits] at h
  exact h
set_option maxRecDepth 100000 in
theorem eX4_offerDigits_34 (M : MM) (r1 : Option Nat) (x2 : Int32) (xs0 : Int32) : gX4_offerDigits 34 [some (.inr (some 3)), some (.inr r1), some (.inl x2), none, none] [.inl xs0] M = (if (1000000 : Int32) ≤ xs0 then gX4_offerDigits 49 [some (.inr (some 3)), some (.inr r1), some (.inl x2), some (.inl xs0), none] [] M else (mX0_begin [.inr (some 13), .inl xs0] M).bind (fun r => gX4_offerDigits 49 [some (.inr (some 3)), some (.inr r1), some (.inl x2), some (.inl xs0), none] (r.1.toList ++ []) r.2)) := by
  have h : ∀ k : KT, mgs (zlook tX4_offerDigits) nX4_offerDigits k 8 34 [some (.inr (some 3)), some (.inr r1), some (.inl x2), none, none] [.inl xs0] M = (if (1000000 : Int32) ≤ xs0 then k 49 [some (.inr (some 3)), some (.inr r1), some (.inl x2), some (.inl xs0), none] [] M else (mX0_begin [.inr (some 13), .inl xs0] M).bind (fun r => k 49 [some (.inr (some 3)), some (.inr r1), some (.inl x2), some (.inl xs0), none] (r.1.toList ++ []) r.2)) := fun k => rfl
  have h := h gX4_offerDigits
  rw [mgs_gX4_offerDigits] at h
  exact h
set_option maxRecDepth 100000 in
theorem eX4_offerDigits_49 (M : MM) (r1 : Option Nat) (x2 : Int32) (x3 : Int32) : gX4_offerDigits 49 [some (.inr (some 3)), some (.inr r1), some (.inl x2), some (.inl x3), none] [] M = gX4_offerDigits 52 [some (.inr (some 3)), some (.inr r1), some (.inl x2), some (.inl x3), some (.inl (0 : Int32))] [] M := by
  have h : ∀ k : KT, mgs (zlook tX4_offerDigits) nX4_offerDigits k 2 49 [some (.inr (some 3)), some (.inr r1), some (.inl x2), some (.inl x3), none] [] M = k 52 [some (.inr (some 3)), some (.inr r1), some (.inl x2), some (.inl x3), some (.inl (0 : Int32))] [] M := fun k => rfl
  have h := h gX4_offerDigits
  rw [mgs_gX4_offerDigits] at h
  exact h
set_option maxRecDepth 100000 in
theorem eX4_offerDigits_52 (M : MM) (r1 : Option Nat) (x2 : Int32) (x3 : Int32) (x4 : Int32) : gX4_offerDigits 52 [some (.inr (some 3)), some (.inr r1), some (.inl x2), some (.inl x3), some (.inl x4)] [] M = (if (M 2 3) ≤ x4 then gX4_offerDigits 112 [some (.inr (some 3)), some (.inr r1), some (.inl x2), some (.inl x3), some (.inl (0 : Int32))] [] M else (mX0_hearPlace [.inr (some 13), .inr (some 2), .inl x4, .inl (M 3 4)] M).bind (fun r => gX4_offerDigits 81 [some (.inr (some 3)), some (.inr r1), some (.inl x2), some (.inl x3), some (.inl x4)] (r.1.toList ++ []) r.2)) := by
  have h : ∀ k : KT, mgs (zlook tX4_offerDigits) nX4_offerDigits k 13 52 [some (.inr (some 3)), some (.inr r1), some (.inl x2), some (.inl x3), some (.inl x4)] [] M = (if (M 2 3) ≤ x4 then k 112 [some (.inr (some 3)), some (.inr r1), some (.inl x2), some (.inl x3), some (.inl (0 : Int32))] [] M else (mX0_hearPlace [.inr (some 13), .inr (some 2), .inl x4, .inl (M 3 4)] M).bind (fun r => k 81 [some (.inr (some 3)), some (.inr r1), some (.inl x2), some (.inl x3), some (.inl x4)] (r.1.toList ++ []) r.2)) := fun k => rfl
  have h := h gX4_offerDigits
  rw [mgs_gX4_offerDigits] at h
  exact h
set_option maxRecDepth 100000 in
theorem eX4_offerDigits_81 (M : MM) (r1 : Option Nat) (x2 : Int32) (x3 : Int32) (x4 : Int32) : gX4_offerDigits 81 [some (.inr (some 3)), some (.inr r1), some (.inl x2), some (.inl x3), some (.inl x4)] [] M = (mX4_leadIn [.inr (some 3), .inl x4, .inl x2] M).bind (fun r => gX4_offerDigits 88 [some (.inr (some 3)), some (.inr r1), some (.inl x2), some (.inl x3), some (.inl x4)] (r.1.toList ++ []) r.2) := by
  have h : ∀ k : KT, mgs (zlook tX4_offerDigits) nX4_offerDigits k 4 81 [some (.inr (some 3)), some (.inr r1), some (.inl x2), some (.inl x3), some (.inl x4)] [] M = (mX4_leadIn [.inr (some 3), .inl x4, .inl x2] M).bind (fun r => k 88 [some (.inr (some 3)), some (.inr r1), some (.inl x2), some (.inl x3), some (.inl x4)] (r.1.toList ++ []) r.2) := fun k => rfl
  have h := h gX4_offerDigits
  rw [mgs_gX4_offerDigits] at h
  exact h
set_option maxRecDepth 100000 in
theorem eX4_offerDigits_88 (M : MM) (r1 : Option Nat) (x2 : Int32) (x3 : Int32) (x4 : Int32) (xs0 : Int32) : gX4_offerDigits 88 [some (.inr (some 3)), some (.inr r1), some (.inl x2), some (.inl x3), some (.inl x4)] [.inl xs0] M = (if (1000000 : Int32) ≤ xs0 then gX4_offerDigits 103 [some (.inr (some 3)), some (.inr r1), some (.inl x2), some (.inl xs0), some (.inl x4)] [] M else (mX0_begin [.inr (some 13), .inl xs0] M).bind (fun r => gX4_offerDigits 103 [some (.inr (some 3)), some (.inr r1), some (.inl x2), some (.inl xs0), some (.inl x4)] (r.1.toList ++ []) r.2)) := by
  have h : ∀ k : KT, mgs (zlook tX4_offerDigits) nX4_offerDigits k 8 88 [some (.inr (some 3)), some (.inr r1), some (.inl x2), some (.inl x3), some (.inl x4)] [.inl xs0] M = (if (1000000 : Int32) ≤ xs0 then k 103 [some (.inr (some 3)), some (.inr r1), some (.inl x2), some (.inl xs0), some (.inl x4)] [] M else (mX0_begin [.inr (some 13), .inl xs0] M).bind (fun r => k 103 [some (.inr (some 3)), some (.inr r1), some (.inl x2), some (.inl xs0), some (.inl x4)] (r.1.toList ++ []) r.2)) := fun k => rfl
  have h := h gX4_offerDigits
  rw [mgs_gX4_offerDigits] at h
  exact h
set_option maxRecDepth 100000 in
theorem eX4_offerDigits_103 (M : MM) (r1 : Option Nat) (x2 : Int32) (x3 : Int32) (x4 : Int32) : gX4_offerDigits 103 [some (.inr (some 3)), some (.inr r1), some (.inl x2), some (.inl x3), some (.inl x4)] [] M = gX4_offerDigits 52 [some (.inr (some 3)), some (.inr r1), some (.inl x2), some (.inl x3), some (.inl (x4 + (1 : Int32)))] [] M := by
  have h : ∀ k : KT, mgs (zlook tX4_offerDigits) nX4_offerDigits k 2 103 [some (.inr (some 3)), some (.inr r1), some (.inl x2), some (.inl x3), some (.inl x4)] [] M = k 52 [some (.inr (some 3)), some (.inr r1), some (.inl x2), some (.inl x3), some (.inl (x4 + (1 : Int32)))] [] M := fun k => rfl
  have h := h gX4_offerDigits
  rw [mgs_gX4_offerDigits] at h
  exact h
set_option maxRecDepth 100000 in
theorem eX4_offerDigits_112 (M : MM) (r1 : Option Nat) (x2 : Int32) (x3 : Int32) (x4 : Int32) : gX4_offerDigits 112 [some (.inr (some 3)), some (.inr r1), some (.inl x2), some (.inl x3), some (.inl x4)] [] M = (if (2 : Int32) ≤ x4 then some (none, M) else (mX0_cost [.inr (some 13), .inl x4] M).bind (fun r => gX4_offerDigits 127 [some (.inr (some 3)), some (.inr r1), some (.inl x2), some (.inl x3), some (.inl x4)] (r.1.toList ++ []) r.2)) := by
  have h : ∀ k : KT, mgs (zlook tX4_offerDigits) nX4_offerDigits k 7 112 [some (.inr (some 3)), some (.inr r1), some (.inl x2), some (.inl x3), some (.inl x4)] [] M = (if (2 : Int32) ≤ x4 then some (none, M) else (mX0_cost [.inr (some 13), .inl x4] M).bind (fun r => k 127 [some (.inr (some 3)), some (.inr r1), some (.inl x2), some (.inl x3), some (.inl x4)] (r.1.toList ++ []) r.2)) := fun k => rfl
  have h := h gX4_offerDigits
  rw [mgs_gX4_offerDigits] at h
  exact h
set_option maxRecDepth 100000 in
theorem eX4_offerDigits_127 (M : MM) (r1 : Option Nat) (x2 : Int32) (x3 : Int32) (x4 : Int32) (xs0 : Int32) : gX4_offerDigits 127 [some (.inr (some 3)), some (.inr r1), some (.inl x2), some (.inl x3), some (.inl x4)] [.inl xs0] M = (if (1000000 : Int32) ≤ xs0 then gX4_offerDigits 155 [some (.inr (some 3)), some (.inr r1), some (.inl x2), some (.inl x3), some (.inl x4)] [] M else (mX0_value [.inr (some 13), .inl x4] M).bind (fun r => gX4_offerDigits 143 [some (.inr (some 3)), some (.inr r1), some (.inl x2), some (.inl x3), some (.inl x4)] (r.1.toList ++ [.inl x2, .inr (some 3)]) r.2)) := by
  have h : ∀ k : KT, mgs (zlook tX4_offerDigits) nX4_offerDigits k 8 127 [some (.inr (some 3)), some (.inr r1), some (.inl x2), some (.inl x3), some (.inl x4)] [.inl xs0] M = (if (1000000 : Int32) ≤ xs0 then k 155 [some (.inr (some 3)), some (.inr r1), some (.inl x2), some (.inl x3), some (.inl x4)] [] M else (mX0_value [.inr (some 13), .inl x4] M).bind (fun r => k 143 [some (.inr (some 3)), some (.inr r1), some (.inl x2), some (.inl x3), some (.inl x4)] (r.1.toList ++ [.inl x2, .inr (some 3)]) r.2)) := fun k => rfl
  have h := h gX4_offerDigits
  rw [mgs_gX4_offerDigits] at h
  exact h
set_option maxRecDepth 100000 in
theorem eX4_offerDigits_143 (M : MM) (r1 : Option Nat) (x2 : Int32) (x3 : Int32) (x4 : Int32) (xs0 : Int32) (xs1 : Int32) : gX4_offerDigits 143 [some (.inr (some 3)), some (.inr r1), some (.inl x2), some (.inl x3), some (.inl x4)] [.inl xs0, .inl xs1, .inr (some 3)] M = (mX0_cost [.inr (some 13), .inl x4] M).bind (fun r => gX4_offerDigits 152 [some (.inr (some 3)), some (.inr r1), some (.inl x2), some (.inl x3), some (.inl x4)] (r.1.toList ++ [.inl xs0, .inl xs1, .inr (some 3)]) r.2) := by
  have h : ∀ k : KT, mgs (zlook tX4_offerDigits) nX4_offerDigits k 4 143 [some (.inr (some 3)), some (.inr r1), some (.inl x2), some (.inl x3), some (.inl x4)] [.inl xs0, .inl xs1, .inr (some 3)] M = (mX0_cost [.inr (some 13), .inl x4] M).bind (fun r => k 152 [some (.inr (some 3)), some (.inr r1), some (.inl x2), some (.inl x3), some (.inl x4)] (r.1.toList ++ [.inl xs0, .inl xs1, .inr (some 3)]) r.2) := fun k => rfl
  have h := h gX4_offerDigits
  rw [mgs_gX4_offerDigits] at h
  exact h
set_option maxRecDepth 100000 in
theorem eX4_offerDigits_152 (M : MM) (r1 : Option Nat) (x2 : Int32) (x3 : Int32) (x4 : Int32) (xs0 : Int32) (xs1 : Int32) (xs2 : Int32) : gX4_offerDigits 152 [some (.inr (some 3)), some (.inr r1), some (.inl x2), some (.inl x3), some (.inl x4)] [.inl xs0, .inl xs1, .inl xs2, .inr (some 3)] M = (mX4_offer [.inr (some 3), .inl xs2, .inl xs1, .inl xs0] M).bind (fun r => gX4_offerDigits 155 [some (.inr (some 3)), some (.inr r1), some (.inl x2), some (.inl x3), some (.inl x4)] (r.1.toList ++ []) r.2) := by
  have h : ∀ k : KT, mgs (zlook tX4_offerDigits) nX4_offerDigits k 1 152 [some (.inr (some 3)), some (.inr r1), some (.inl x2), some (.inl x3), some (.inl x4)] [.inl xs0, .inl xs1, .inl xs2, .inr (some 3)] M = (mX4_offer [.inr (some 3), .inl xs2, .inl xs1, .inl xs0] M).bind (fun r => k 155 [some (.inr (some 3)), some (.inr r1), some (.inl x2), some (.inl x3), some (.inl x4)] (r.1.toList ++ []) r.2) := fun k => rfl
  have h := h gX4_offerDigits
  rw [mgs_gX4_offerDigits] at h
  exact h
set_option maxRecDepth 100000 in
theorem eX4_offerDigits_155 (M : MM) (r1 : Option Nat) (x2 : Int32) (x3 : Int32) (x4 : Int32) : gX4_offerDigits 155 [some (.inr (some 3)), some (.inr r1), some (.inl x2), some (.inl x3), some (.inl x4)] [] M = gX4_offerDigits 112 [some (.inr (some 3)), some (.inr r1), some (.inl x2), some (.inl x3), some (.inl (x4 + (1 : Int32)))] [] M := by
  have h : ∀ k : KT, mgs (zlook tX4_offerDigits) nX4_offerDigits k 2 155 [some (.inr (some 3)), some (.inr r1), some (.inl x2), some (.inl x3), some (.inl x4)] [] M = k 112 [some (.inr (some 3)), some (.inr r1), some (.inl x2), some (.inl x3), some (.inl (x4 + (1 : Int32)))] [] M := fun k => rfl
  have h := h gX4_offerDigits
  rw [mgs_gX4_offerDigits] at h
  exact h
theorem iX4_offerDigits (M : MM) (r1 : Option Nat) (x2 : Int32) : mX4_offerDigits [.inr (some 3), .inr r1, .inl x2] M = gX4_offerDigits 0 [some (.inr (some 3)), some (.inr r1), some (.inl x2), none, none] [] M := rfl
noncomputable def gX5_numberOf : KT := mev (zlook tX5_numberOf)
theorem ctX5_numberOf : ∀ q ∈ tX5_numberOf, Cont q.2 := by
  refine ccons (cont_push _ _) ?_
  refine ccons (cont_istore _ _) ?_
  refine ccons (cont_iload _ _) ?_
  refine ccons (cont_aload _ _) ?_
  refine ccons (cont_getI _ _ _) ?_
  refine ccons (cont_c_ge _ _) ?_
  refine ccons (cont_iload _ _) ?_
  refine ccons (cont_aload _ _) ?_
  refine ccons (cont_getR _ _ _) ?_
  refine ccons (cont_len _) ?_
  refine ccons (cont_c_ge _ _) ?_
  refine ccons (cont_aload _ _) ?_
  refine ccons (cont_getR _ _ _) ?_
  refine ccons (cont_iload _ _) ?_
  refine ccons (cont_ald _ _) ?_
  refine ccons (cont_iload _ _) ?_
  refine ccons (cont_c_ne _ _) ?_
  refine ccons (cont_iload _ _) ?_
  refine ccons (cont_iret) ?_
  refine ccons (cont_iinc _ _ _) ?_
  refine ccons (cont_goto _) ?_
  refine ccons (cont_push _ _) ?_
  refine ccons (cont_iret) ?_
  exact cnil
theorem mgs_gX5_numberOf (cut : List Nat) (n : Nat) : mgs (zlook tX5_numberOf) cut gX5_numberOf n = gX5_numberOf := mgs_mev (ctab ctX5_numberOf) cut n
def nX5_numberOf : List Nat := [0, 2]
set_option maxRecDepth 100000 in
theorem eX5_numberOf_0 (M : MM) (c : Nat) (x1 : Int32) : gX5_numberOf 0 [some (.inr (some c)), some (.inl x1), none] [] M = gX5_numberOf 2 [some (.inr (some c)), some (.inl x1), some (.inl (0 : Int32))] [] M := by
  have h : ∀ k : KT, mgs (zlook tX5_numberOf) nX5_numberOf k 2 0 [some (.inr (some c)), some (.inl x1), none] [] M = k 2 [some (.inr (some c)), some (.inl x1), some (.inl (0 : Int32))] [] M := fun k => rfl
  have h := h gX5_numberOf
  rw [mgs_gX5_numberOf] at h
  exact h
set_option maxRecDepth 100000 in
theorem eX5_numberOf_2 (M : MM) (c : Nat) (x1 : Int32) (x2 : Int32) : gX5_numberOf 2 [some (.inr (some c)), some (.inl x1), some (.inl x2)] [] M = (if zkd c = 5 then (if (M c 5) ≤ x2 then some ((some (.inl (-1 : Int32))), M) else (if zkd c = 5 then (if 10 ≤ zkd (c + 12) ∧ zkd (c + 12) ≤ 12 then (if (Int32.ofNat (zln (c + 12))) ≤ x2 then some ((some (.inl (-1 : Int32))), M) else (if zkd c = 5 then (if zkd (c + 12) = 10 then (if x2 < 0 ∨ zln (c + 12) ≤ x2.toNatClampNeg then none else (if (M (c + 12) x2.toNatClampNeg) = x1 then some ((some (.inl x2)), M) else gX5_numberOf 2 [some (.inr (some c)), some (.inl x1), some (.inl (x2 + (1 : Int32)))] [] M)) else none) else none)) else none) else none)) else none) := by
  have h : ∀ k : KT, mgs (zlook tX5_numberOf) nX5_numberOf k 17 2 [some (.inr (some c)), some (.inl x1), some (.inl x2)] [] M = (if zkd c = 5 then (if (M c 5) ≤ x2 then some ((some (.inl (-1 : Int32))), M) else (if zkd c = 5 then (if 10 ≤ zkd (c + 12) ∧ zkd (c + 12) ≤ 12 then (if (Int32.ofNat (zln (c + 12))) ≤ x2 then some ((some (.inl (-1 : Int32))), M) else (if zkd c = 5 then (if zkd (c + 12) = 10 then (if x2 < 0 ∨ zln (c + 12) ≤ x2.toNatClampNeg then none else (if (M (c + 12) x2.toNatClampNeg) = x1 then some ((some (.inl x2)), M) else k 2 [some (.inr (some c)), some (.inl x1), some (.inl (x2 + (1 : Int32)))] [] M)) else none) else none)) else none) else none)) else none) := fun k => rfl
  have h := h gX5_numberOf
  rw [mgs_gX5_numberOf] at h
  exact h
theorem iX5_numberOf (M : MM) (c : Nat) (x1 : Int32) : mX5_numberOf [.inr (some c), .inl x1] M = gX5_numberOf 0 [some (.inr (some c)), some (.inl x1), none] [] M := rfl
noncomputable def gX4_offerListed : KT := mev (zlook tX4_offerListed)
theorem ctX4_offerListed : ∀ q ∈ tX4_offerListed, Cont q.2 := by
  refine ccons (cont_iload _ _) ?_
  refine ccons (cont_callS _ _ _) ?_
  refine ccons (cont_istore _ _) ?_
  refine ccons (cont_push _ _) ?_
  refine ccons (cont_istore _ _) ?_
  refine ccons (cont_iload _ _) ?_
  refine ccons (cont_aload _ _) ?_
  refine ccons (cont_getR _ _ _) ?_
  refine ccons (cont_getI _ _ _) ?_
  refine ccons (cont_c_ge _ _) ?_
  refine ccons (cont_push _ _) ?_
  refine ccons (cont_istore _ _) ?_
  refine ccons (cont_iload _ _) ?_
  refine ccons (cont_aload _ _) ?_
  refine ccons (cont_getR _ _ _) ?_
  refine ccons (cont_iload _ _) ?_
  refine ccons (cont_callV _ _ _ _) ?_
  refine ccons (cont_c_ge _ _) ?_
  refine ccons (cont_iload _ _) ?_
  refine ccons (cont_push _ _) ?_
  refine ccons (cont_c_ge _ _) ?_
  refine ccons (cont_aload _ _) ?_
  refine ccons (cont_aload _ _) ?_
  refine ccons (cont_getR _ _ _) ?_
  refine ccons (cont_iload _ _) ?_
  refine ccons (cont_iload _ _) ?_
  refine ccons (cont_callV _ _ _ _) ?_
  refine ccons (cont_callF _ _ _ _) ?_
  refine ccons (cont_istore _ _) ?_
  refine ccons (cont_iload _ _) ?_
  refine ccons (cont_push _ _) ?_
  refine ccons (cont_c_eq _ _) ?_
  refine ccons (cont_aload _ _) ?_
  refine ccons (cont_iload _ _) ?_
  refine ccons (cont_iload _ _) ?_
  refine ccons (cont_iload _ _) ?_
  refine ccons (cont_aload _ _) ?_
  refine ccons (cont_getR _ _ _) ?_
  refine ccons (cont_iload _ _) ?_
  refine ccons (cont_iload _ _) ?_
  refine ccons (cont_callV _ _ _ _) ?_
  refine ccons (cont_bin _ _) ?_
  refine ccons (cont_aload _ _) ?_
  refine ccons (cont_getI _ _ _) ?_
  refine ccons (cont_bin _ _) ?_
  refine ccons (cont_callV _ _ _ _) ?_
  refine ccons (cont_iinc _ _ _) ?_
  refine ccons (cont_goto _) ?_
  refine ccons (cont_iload _ _) ?_
  refine ccons (cont_aload _ _) ?_
  refine ccons (cont_iload _ _) ?_
  refine ccons (cont_iload _ _) ?_
  refine ccons (cont_callV _ _ _ _) ?_
  refine ccons (cont_min _) ?_
  refine ccons (cont_istore _ _) ?_
  refine ccons (cont_iinc _ _ _) ?_
  refine ccons (cont_goto _) ?_
  refine ccons (cont_vret) ?_
  exact cnil
theorem mgs_gX4_offerListed (cut : List Nat) (n : Nat) : mgs (zlook tX4_offerListed) cut gX4_offerListed n = gX4_offerListed := mgs_mev (ctab ctX4_offerListed) cut n
def nX4_offerListed : List Nat := [0, 4, 8, 23, 34, 55, 60, 84, 93, 99, 107]
set_option maxRecDepth 100000 in
theorem eX4_offerListed_0 (M : MM) (r1 : Option Nat) (x2 : Int32) : gX4_offerListed 0 [some (.inr (some 3)), some (.inr r1), some (.inl x2), none, none, none, none] [] M = (mX4_leadAtFirst [.inl x2] M).bind (fun r => gX4_offerListed 4 [some (.inr (some 3)), some (.inr r1), some (.inl x2), none, none, none, none] (r.1.toList ++ []) r.2) := by
  have h : ∀ k : KT, mgs (zlook tX4_offerListed) nX4_offerListed k 2 0 [some (.inr (some 3)), some (.inr r1), some (.inl x2), none, none, none, none] [] M = (mX4_leadAtFirst [.inl x2] M).bind (fun r => k 4 [some (.inr (some 3)), some (.inr r1), some (.inl x2), none, none, none, none] (r.1.toList ++ []) r.2) := fun k => rfl
  have h := h gX4_offerListed
  rw [mgs_gX4_offerListed] at h
  exact h
set_option maxRecDepth 100000 in
theorem eX4_offerListed_4 (M : MM) (r1 : Option Nat) (x2 : Int32) (xs0 : Int32) : gX4_offerListed 4 [some (.inr (some 3)), some (.inr r1), some (.inl x2), none, none, none, none] [.inl xs0] M = gX4_offerListed 8 [some (.inr (some 3)), some (.inr r1), some (.inl x2), some (.inl xs0), some (.inl (0 : Int32)), none, none] [] M := by
  have h : ∀ k : KT, mgs (zlook tX4_offerListed) nX4_offerListed k 3 4 [some (.inr (some 3)), some (.inr r1), some (.inl x2), none, none, none, none] [.inl xs0] M = k 8 [some (.inr (some 3)), some (.inr r1), some (.inl x2), some (.inl xs0), some (.inl (0 : Int32)), none, none] [] M := fun k => rfl
  have h := h gX4_offerListed
  rw [mgs_gX4_offerListed] at h
  exact h
set_option maxRecDepth 100000 in
theorem eX4_offerListed_8 (M : MM) (r1 : Option Nat) (x2 : Int32) (x3 : Int32) (x4 : Int32) (d5 : Option AV) (d6 : Option AV) : gX4_offerListed 8 [some (.inr (some 3)), some (.inr r1), some (.inl x2), some (.inl x3), some (.inl x4), d5, d6] [] M = (if (M 2 3) ≤ x4 then some (none, M) else gX4_offerListed 23 [some (.inr (some 3)), some (.inr r1), some (.inl x2), some (.inl x3), some (.inl x4), some (.inl (0 : Int32)), d6] [] M) := by
  have h : ∀ k : KT, mgs (zlook tX4_offerListed) nX4_offerListed k 7 8 [some (.inr (some 3)), some (.inr r1), some (.inl x2), some (.inl x3), some (.inl x4), d5, d6] [] M = (if (M 2 3) ≤ x4 then some (none, M) else k 23 [some (.inr (some 3)), some (.inr r1), some (.inl x2), some (.inl x3), some (.inl x4), some (.inl (0 : Int32)), d6] [] M) := fun k => rfl
  have h := h gX4_offerListed
  rw [mgs_gX4_offerListed] at h
  exact h
set_option maxRecDepth 100000 in
theorem eX4_offerListed_23 (M : MM) (r1 : Option Nat) (x2 : Int32) (x3 : Int32) (x4 : Int32) (x5 : Int32) (d6 : Option AV) : gX4_offerListed 23 [some (.inr (some 3)), some (.inr r1), some (.inl x2), some (.inl x3), some (.inl x4), some (.inl x5), d6] [] M = (mX2_wordsIn [.inr (some 2), .inl x4] M).bind (fun r => gX4_offerListed 34 [some (.inr (some 3)), some (.inr r1), some (.inl x2), some (.inl x3), some (.inl x4), some (.inl x5), d6] (r.1.toList ++ [.inl x5]) r.2) := by
  have h : ∀ k : KT, mgs (zlook tX4_offerListed) nX4_offerListed k 5 23 [some (.inr (some 3)), some (.inr r1), some (.inl x2), some (.inl x3), some (.inl x4), some (.inl x5), d6] [] M = (mX2_wordsIn [.inr (some 2), .inl x4] M).bind (fun r => k 34 [some (.inr (some 3)), some (.inr r1), some (.inl x2), some (.inl x3), some (.inl x4), some (.inl x5), d6] (r.1.toList ++ [.inl x5]) r.2) := fun k => rfl
  have h := h gX4_offerListed
  rw [mgs_gX4_offerListed] at h
  exact h
set_option maxRecDepth 100000 in
theorem eX4_offerListed_34 (M : MM) (r1 : Option Nat) (x2 : Int32) (x3 : Int32) (x4 : Int32) (x5 : Int32) (d6 : Option AV) (xs0 : Int32) (xs1 : Int32) : gX4_offerListed 34 [some (.inr (some 3)), some (.inr r1), some (.inl x2), some (.inl x3), some (.inl x4), some (.inl x5), d6] [.inl xs0, .inl xs1] M = (if xs0 ≤ xs1 then gX4_offerListed 99 [some (.inr (some 3)), some (.inr r1), some (.inl x2), some (.inl x3), some (.inl x4), some (.inl x5), d6] [] M else (if (1000000 : Int32) ≤ x3 then gX4_offerListed 99 [some (.inr (some 3)), some (.inr r1), some (.inl x2), some (.inl x3), some (.inl x4), some (.inl x5), d6] [] M else (mX2_wordAt [.inr (some 2), .inl x4, .inl x5] M).bind (fun r => gX4_offerListed 55 [some (.inr (some 3)), some (.inr r1), some (.inl x2), some (.inl x3), some (.inl x4), some (.inl x5), d6] (r.1.toList ++ [.inr r1]) r.2))) := by
  have h : ∀ k : KT, mgs (zlook tX4_offerListed) nX4_offerListed k 10 34 [some (.inr (some 3)), some (.inr r1), some (.inl x2), some (.inl x3), some (.inl x4), some (.inl x5), d6] [.inl xs0, .inl xs1] M = (if xs0 ≤ xs1 then k 99 [some (.inr (some 3)), some (.inr r1), some (.inl x2), some (.inl x3), some (.inl x4), some (.inl x5), d6] [] M else (if (1000000 : Int32) ≤ x3 then k 99 [some (.inr (some 3)), some (.inr r1), some (.inl x2), some (.inl x3), some (.inl x4), some (.inl x5), d6] [] M else (mX2_wordAt [.inr (some 2), .inl x4, .inl x5] M).bind (fun r => k 55 [some (.inr (some 3)), some (.inr r1), some (.inl x2), some (.inl x3), some (.inl x4), some (.inl x5), d6] (r.1.toList ++ [.inr r1]) r.2))) := fun k => rfl
  have h := h gX4_offerListed
  rw [mgs_gX4_offerListed] at h
  exact h
set_option maxRecDepth 100000 in
theorem eX4_offerListed_55 (M : MM) (r1 : Option Nat) (x2 : Int32) (x3 : Int32) (x4 : Int32) (x5 : Int32) (d6 : Option AV) (xs0 : Int32) (rs1 : Option Nat) : gX4_offerListed 55 [some (.inr (some 3)), some (.inr r1), some (.inl x2), some (.inl x3), some (.inl x4), some (.inl x5), d6] [.inl xs0, .inr rs1] M = (match rs1 with | some q1 => (if zkd q1 = 1 then (mX1_numberOf [.inr (some q1), .inl xs0] M).bind (fun r => gX4_offerListed 60 [some (.inr (some 3)), some (.inr r1), some (.inl x2), some (.inl x3), some (.inl x4), some (.inl x5), d6] (r.1.toList ++ []) r.2) else (if zkd q1 = 5 then (mX5_numberOf [.inr (some q1), .inl xs0] M).bind (fun r => gX4_offerListed 60 [some (.inr (some 3)), some (.inr r1), some (.inl x2), some (.inl x3), some (.inl x4), some (.inl x5), d6] (r.1.toList ++ []) r.2) else none)) | none => none) := by
  have h : ∀ k : KT, mgs (zlook tX4_offerListed) nX4_offerListed k 1 55 [some (.inr (some 3)), some (.inr r1), some (.inl x2), some (.inl x3), some (.inl x4), some (.inl x5), d6] [.inl xs0, .inr rs1] M = (match rs1 with | some q1 => (if zkd q1 = 1 then (mX1_numberOf [.inr (some q1), .inl xs0] M).bind (fun r => k 60 [some (.inr (some 3)), some (.inr r1), some (.inl x2), some (.inl x3), some (.inl x4), some (.inl x5), d6] (r.1.toList ++ []) r.2) else (if zkd q1 = 5 then (mX5_numberOf [.inr (some q1), .inl xs0] M).bind (fun r => k 60 [some (.inr (some 3)), some (.inr r1), some (.inl x2), some (.inl x3), some (.inl x4), some (.inl x5), d6] (r.1.toList ++ []) r.2) else none)) | none => none) := by intro k; cases rs1 <;> rfl
  have h := h gX4_offerListed
  rw [mgs_gX4_offerListed] at h
  exact h
set_option maxRecDepth 100000 in
theorem eX4_offerListed_60 (M : MM) (r1 : Option Nat) (x2 : Int32) (x3 : Int32) (x4 : Int32) (x5 : Int32) (d6 : Option AV) (xs0 : Int32) : gX4_offerListed 60 [some (.inr (some 3)), some (.inr r1), some (.inl x2), some (.inl x3), some (.inl x4), some (.inl x5), d6] [.inl xs0] M = (if xs0 = (-1 : Int32) then gX4_offerListed 93 [some (.inr (some 3)), some (.inr r1), some (.inl x2), some (.inl x3), some (.inl x4), some (.inl x5), some (.inl xs0)] [] M else (mX2_costAt [.inr (some 2), .inl x4, .inl x5] M).bind (fun r => gX4_offerListed 84 [some (.inr (some 3)), some (.inr r1), some (.inl x2), some (.inl x3), some (.inl x4), some (.inl x5), some (.inl xs0)] (r.1.toList ++ [.inl x3, .inl xs0, .inl x2, .inr (some 3)]) r.2)) := by
  have h : ∀ k : KT, mgs (zlook tX4_offerListed) nX4_offerListed k 13 60 [some (.inr (some 3)), some (.inr r1), some (.inl x2), some (.inl x3), some (.inl x4), some (.inl x5), d6] [.inl xs0] M = (if xs0 = (-1 : Int32) then k 93 [some (.inr (some 3)), some (.inr r1), some (.inl x2), some (.inl x3), some (.inl x4), some (.inl x5), some (.inl xs0)] [] M else (mX2_costAt [.inr (some 2), .inl x4, .inl x5] M).bind (fun r => k 84 [some (.inr (some 3)), some (.inr r1), some (.inl x2), some (.inl x3), some (.inl x4), some (.inl x5), some (.inl xs0)] (r.1.toList ++ [.inl x3, .inl xs0, .inl x2, .inr (some 3)]) r.2)) := fun k => rfl
  have h := h gX4_offerListed
  rw [mgs_gX4_offerListed] at h
  exact h
set_option maxRecDepth 100000 in
theorem eX4_offerListed_84 (M : MM) (r1 : Option Nat) (x2 : Int32) (x3 : Int32) (x4 : Int32) (x5 : Int32) (x6 : Int32) (xs0 : Int32) (xs1 : Int32) (xs2 : Int32) (xs3 : Int32) : gX4_offerListed 84 [some (.inr (some 3)), some (.inr r1), some (.inl x2), some (.inl x3), some (.inl x4), some (.inl x5), some (.inl x6)] [.inl xs0, .inl xs1, .inl xs2, .inl xs3, .inr (some 3)] M = (mX4_offer [.inr (some 3), .inl xs3, .inl xs2, .inl ((xs1 + xs0) - (M 3 4))] M).bind (fun r => gX4_offerListed 93 [some (.inr (some 3)), some (.inr r1), some (.inl x2), some (.inl x3), some (.inl x4), some (.inl x5), some (.inl x6)] (r.1.toList ++ []) r.2) := by
  have h : ∀ k : KT, mgs (zlook tX4_offerListed) nX4_offerListed k 5 84 [some (.inr (some 3)), some (.inr r1), some (.inl x2), some (.inl x3), some (.inl x4), some (.inl x5), some (.inl x6)] [.inl xs0, .inl xs1, .inl xs2, .inl xs3, .inr (some 3)] M = (mX4_offer [.inr (some 3), .inl xs3, .inl xs2, .inl ((xs1 + xs0) - (M 3 4))] M).bind (fun r => k 93 [some (.inr (some 3)), some (.inr r1), some (.inl x2), some (.inl x3), some (.inl x4), some (.inl x5), some (.inl x6)] (r.1.toList ++ []) r.2) := fun k => rfl
  have h := h gX4_offerListed
  rw [mgs_gX4_offerListed] at h
  exact h
set_option maxRecDepth 100000 in
theorem eX4_offerListed_93 (M : MM) (r1 : Option Nat) (x2 : Int32) (x3 : Int32) (x4 : Int32) (x5 : Int32) (x6 : Int32) : gX4_offerListed 93 [some (.inr (some 3)), some (.inr r1), some (.inl x2), some (.inl x3), some (.inl x4), some (.inl x5), some (.inl x6)] [] M = gX4_offerListed 23 [some (.inr (some 3)), some (.inr r1), some (.inl x2), some (.inl x3), some (.inl x4), some (.inl (x5 + (1 : Int32))), some (.inl x6)] [] M := by
  have h : ∀ k : KT, mgs (zlook tX4_offerListed) nX4_offerListed k 2 93 [some (.inr (some 3)), some (.inr r1), some (.inl x2), some (.inl x3), some (.inl x4), some (.inl x5), some (.inl x6)] [] M = k 23 [some (.inr (some 3)), some (.inr r1), some (.inl x2), some (.inl x3), some (.inl x4), some (.inl (x5 + (1 : Int32))), some (.inl x6)] [] M := fun k => rfl
  have h := h gX4_offerListed
  rw [mgs_gX4_offerListed] at h
  exact h
set_option maxRecDepth 100000 in
theorem eX4_offerListed_99 (M : MM) (r1 : Option Nat) (x2 : Int32) (x3 : Int32) (x4 : Int32) (x5 : Int32) (d6 : Option AV) : gX4_offerListed 99 [some (.inr (some 3)), some (.inr r1), some (.inl x2), some (.inl x3), some (.inl x4), some (.inl x5), d6] [] M = (mX4_leadIn [.inr (some 3), .inl x4, .inl x2] M).bind (fun r => gX4_offerListed 107 [some (.inr (some 3)), some (.inr r1), some (.inl x2), some (.inl x3), some (.inl x4), some (.inl x5), d6] (r.1.toList ++ [.inl x3]) r.2) := by
  have h : ∀ k : KT, mgs (zlook tX4_offerListed) nX4_offerListed k 5 99 [some (.inr (some 3)), some (.inr r1), some (.inl x2), some (.inl x3), some (.inl x4), some (.inl x5), d6] [] M = (mX4_leadIn [.inr (some 3), .inl x4, .inl x2] M).bind (fun r => k 107 [some (.inr (some 3)), some (.inr r1), some (.inl x2), some (.inl x3), some (.inl x4), some (.inl x5), d6] (r.1.toList ++ [.inl x3]) r.2) := fun k => rfl
  have h := h gX4_offerListed
  rw [mgs_gX4_offerListed] at h
  exact h
set_option maxRecDepth 100000 in
theorem eX4_offerListed_107 (M : MM) (r1 : Option Nat) (x2 : Int32) (x3 : Int32) (x4 : Int32) (x5 : Int32) (d6 : Option AV) (xs0 : Int32) (xs1 : Int32) : gX4_offerListed 107 [some (.inr (some 3)), some (.inr r1), some (.inl x2), some (.inl x3), some (.inl x4), some (.inl x5), d6] [.inl xs0, .inl xs1] M = gX4_offerListed 8 [some (.inr (some 3)), some (.inr r1), some (.inl x2), some (.inl (if xs0 < xs1 then xs0 else xs1)), some (.inl (x4 + (1 : Int32))), some (.inl x5), d6] [] M := by
  have h : ∀ k : KT, mgs (zlook tX4_offerListed) nX4_offerListed k 4 107 [some (.inr (some 3)), some (.inr r1), some (.inl x2), some (.inl x3), some (.inl x4), some (.inl x5), d6] [.inl xs0, .inl xs1] M = k 8 [some (.inr (some 3)), some (.inr r1), some (.inl x2), some (.inl (if xs0 < xs1 then xs0 else xs1)), some (.inl (x4 + (1 : Int32))), some (.inl x5), d6] [] M := fun k => rfl
  have h := h gX4_offerListed
  rw [mgs_gX4_offerListed] at h
  exact h
theorem iX4_offerListed (M : MM) (r1 : Option Nat) (x2 : Int32) : mX4_offerListed [.inr (some 3), .inr r1, .inl x2] M = gX4_offerListed 0 [some (.inr (some 3)), some (.inr r1), some (.inl x2), none, none, none, none] [] M := rfl
