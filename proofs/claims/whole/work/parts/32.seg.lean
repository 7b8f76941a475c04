/-! Segments of runs: what a run from a cut point on comes to (written by wip/whole/seg.py). -/
noncomputable def gX4_offerAnswers : KT := mev (zlook tX4_offerAnswers)
theorem ctX4_offerAnswers : ∀ q ∈ tX4_offerAnswers, Cont q.2 := by
  refine ccons (cont_aload _ _) ?_
  refine ccons (cont_nonnull _ _) ?_
  refine ccons (cont_vret) ?_
  refine ccons (cont_aload _ _) ?_
  refine ccons (cont_getI _ _ _) ?_
  refine ccons (cont_if_le _ _) ?_
  refine ccons (cont_aload _ _) ?_
  refine ccons (cont_aload _ _) ?_
  refine ccons (cont_iload _ _) ?_
  refine ccons (cont_callV _ _ _ _) ?_
  refine ccons (cont_goto _) ?_
  refine ccons (cont_aload _ _) ?_
  refine ccons (cont_aload _ _) ?_
  refine ccons (cont_iload _ _) ?_
  refine ccons (cont_callV _ _ _ _) ?_
  refine ccons (cont_vret) ?_
  exact cnil
theorem mgs_gX4_offerAnswers (cut : List Nat) (n : Nat) : mgs (zlook tX4_offerAnswers) cut gX4_offerAnswers n = gX4_offerAnswers := mgs_mev (ctab ctX4_offerAnswers) cut n
def nX4_offerAnswers : List Nat := [0, 18, 27]
set_option maxRecDepth 100000 in
theorem eX4_offerAnswers_0 (M : MM) (r1 : Option Nat) (x2 : Int32) : gX4_offerAnswers 0 [some (.inr (some 3)), some (.inr r1), some (.inl x2)] [] M = (match r1 with | some _q1 => (match r1 with | some q2 => (if zkd q2 = 5 then (if (M q2 1) ≤ 0 then (mX4_offerListed [.inr (some 3), .inr r1, .inl x2] M).bind (fun r => gX4_offerAnswers 27 [some (.inr (some 3)), some (.inr r1), some (.inl x2)] (r.1.toList ++ []) r.2) else (mX4_offerDigits [.inr (some 3), .inr r1, .inl x2] M).bind (fun r => gX4_offerAnswers 18 [some (.inr (some 3)), some (.inr r1), some (.inl x2)] (r.1.toList ++ []) r.2)) else none) | none => none) | none => some (none, M)) := by
  have h : ∀ k : KT, mgs (zlook tX4_offerAnswers) nX4_offerAnswers k 9 0 [some (.inr (some 3)), some (.inr r1), some (.inl x2)] [] M = (match r1 with | some _q1 => (match r1 with | some q2 => (if zkd q2 = 5 then (if (M q2 1) ≤ 0 then (mX4_offerListed [.inr (some 3), .inr r1, .inl x2] M).bind (fun r => k 27 [some (.inr (some 3)), some (.inr r1), some (.inl x2)] (r.1.toList ++ []) r.2) else (mX4_offerDigits [.inr (some 3), .inr r1, .inl x2] M).bind (fun r => k 18 [some (.inr (some 3)), some (.inr r1), some (.inl x2)] (r.1.toList ++ []) r.2)) else none) | none => none) | none => some (none, M)) := by intro k; cases r1 <;> rfl
  have h := h gX4_offerAnswers
  rw [mgs_gX4_offerAnswers] at h
  exact h
set_option maxRecDepth 100000 in
theorem eX4_offerAnswers_18 (M : MM) (r1 : Option Nat) (x2 : Int32) : gX4_offerAnswers 18 [some (.inr (some 3)), some (.inr r1), some (.inl x2)] [] M = gX4_offerAnswers 27 [some (.inr (some 3)), some (.inr r1), some (.inl x2)] [] M := by
  have h : ∀ k : KT, mgs (zlook tX4_offerAnswers) nX4_offerAnswers k 1 18 [some (.inr (some 3)), some (.inr r1), some (.inl x2)] [] M = k 27 [some (.inr (some 3)), some (.inr r1), some (.inl x2)] [] M := fun k => rfl
  have h := h gX4_offerAnswers
  rw [mgs_gX4_offerAnswers] at h
  exact h
set_option maxRecDepth 100000 in
theorem eX4_offerAnswers_27 (M : MM) (r1 : Option Nat) (x2 : Int32) : gX4_offerAnswers 27 [some (.inr (some 3)), some (.inr r1), some (.inl x2)] [] M = some (none, M) := by
  have h : ∀ k : KT, mgs (zlook tX4_offerAnswers) nX4_offerAnswers k 1 27 [some (.inr (some 3)), some (.inr r1), some (.inl x2)] [] M = some (none, M) := fun k => rfl
  have h := h gX4_offerAnswers
  rw [mgs_gX4_offerAnswers] at h
  exact h
theorem iX4_offerAnswers (M : MM) (r1 : Option Nat) (x2 : Int32) : mX4_offerAnswers [.inr (some 3), .inr r1, .inl x2] M = gX4_offerAnswers 0 [some (.inr (some 3)), some (.inr r1), some (.inl x2)] [] M := rfl
noncomputable def gX4_offerOrders : KT := mev (zlook tX4_offerOrders)
theorem ctX4_offerOrders : ∀ q ∈ tX4_offerOrders, Cont q.2 := by
  refine ccons (cont_push _ _) ?_
  refine ccons (cont_istore _ _) ?_
  refine ccons (cont_iload _ _) ?_
  refine ccons (cont_aload _ _) ?_
  refine ccons (cont_getR _ _ _) ?_
  refine ccons (cont_getI _ _ _) ?_
  refine ccons (cont_c_ge _ _) ?_
  refine ccons (cont_push _ _) ?_
  refine ccons (cont_istore _ _) ?_
  refine ccons (cont_iload _ _) ?_
  refine ccons (cont_aload _ _) ?_
  refine ccons (cont_getR _ _ _) ?_
  refine ccons (cont_iload _ _) ?_
  refine ccons (cont_callV _ _ _ _) ?_
  refine ccons (cont_c_ge _ _) ?_
  refine ccons (cont_aload _ _) ?_
  refine ccons (cont_getR _ _ _) ?_
  refine ccons (cont_iload _ _) ?_
  refine ccons (cont_iload _ _) ?_
  refine ccons (cont_callV _ _ _ _) ?_
  refine ccons (cont_istore _ _) ?_
  refine ccons (cont_iload _ _) ?_
  refine ccons (cont_push _ _) ?_
  refine ccons (cont_c_lt _ _) ?_
  refine ccons (cont_iload _ _) ?_
  refine ccons (cont_push _ _) ?_
  refine ccons (cont_c_gt _ _) ?_
  refine ccons (cont_aload _ _) ?_
  refine ccons (cont_push _ _) ?_
  refine ccons (cont_iload _ _) ?_
  refine ccons (cont_bin _ _) ?_
  refine ccons (cont_push _ _) ?_
  refine ccons (cont_bin _ _) ?_
  refine ccons (cont_push _ _) ?_
  refine ccons (cont_aload _ _) ?_
  refine ccons (cont_getR _ _ _) ?_
  refine ccons (cont_iload _ _) ?_
  refine ccons (cont_iload _ _) ?_
  refine ccons (cont_callV _ _ _ _) ?_
  refine ccons (cont_aload _ _) ?_
  refine ccons (cont_getI _ _ _) ?_
  refine ccons (cont_bin _ _) ?_
  refine ccons (cont_callV _ _ _ _) ?_
  refine ccons (cont_iinc _ _ _) ?_
  refine ccons (cont_goto _) ?_
  refine ccons (cont_iinc _ _ _) ?_
  refine ccons (cont_goto _) ?_
  refine ccons (cont_vret) ?_
  exact cnil
theorem mgs_gX4_offerOrders (cut : List Nat) (n : Nat) : mgs (zlook tX4_offerOrders) cut gX4_offerOrders n = gX4_offerOrders := mgs_mev (ctab ctX4_offerOrders) cut n
def nX4_offerOrders : List Nat := [0, 2, 15, 24, 36, 66, 74]
set_option maxRecDepth 100000 in
theorem eX4_offerOrders_0 (M : MM) : gX4_offerOrders 0 [some (.inr (some 3)), none, none, none] [] M = gX4_offerOrders 2 [some (.inr (some 3)), some (.inl (0 : Int32)), none, none] [] M := by
  have h : ∀ k : KT, mgs (zlook tX4_offerOrders) nX4_offerOrders k 2 0 [some (.inr (some 3)), none, none, none] [] M = k 2 [some (.inr (some 3)), some (.inl (0 : Int32)), none, none] [] M := fun k => rfl
  have h := h gX4_offerOrders
  rw [mgs_gX4_offerOrders] at h
  exact h
set_option maxRecDepth 100000 in
theorem eX4_offerOrders_2 (M : MM) (x1 : Int32) (d2 : Option AV) (d3 : Option AV) : gX4_offerOrders 2 [some (.inr (some 3)), some (.inl x1), d2, d3] [] M = (if (M 2 3) ≤ x1 then some (none, M) else gX4_offerOrders 15 [some (.inr (some 3)), some (.inl x1), some (.inl (0 : Int32)), d3] [] M) := by
  have h : ∀ k : KT, mgs (zlook tX4_offerOrders) nX4_offerOrders k 7 2 [some (.inr (some 3)), some (.inl x1), d2, d3] [] M = (if (M 2 3) ≤ x1 then some (none, M) else k 15 [some (.inr (some 3)), some (.inl x1), some (.inl (0 : Int32)), d3] [] M) := fun k => rfl
  have h := h gX4_offerOrders
  rw [mgs_gX4_offerOrders] at h
  exact h
set_option maxRecDepth 100000 in
theorem eX4_offerOrders_15 (M : MM) (x1 : Int32) (x2 : Int32) (d3 : Option AV) : gX4_offerOrders 15 [some (.inr (some 3)), some (.inl x1), some (.inl x2), d3] [] M = (mX2_wordsIn [.inr (some 2), .inl x1] M).bind (fun r => gX4_offerOrders 24 [some (.inr (some 3)), some (.inl x1), some (.inl x2), d3] (r.1.toList ++ [.inl x2]) r.2) := by
  have h : ∀ k : KT, mgs (zlook tX4_offerOrders) nX4_offerOrders k 5 15 [some (.inr (some 3)), some (.inl x1), some (.inl x2), d3] [] M = (mX2_wordsIn [.inr (some 2), .inl x1] M).bind (fun r => k 24 [some (.inr (some 3)), some (.inl x1), some (.inl x2), d3] (r.1.toList ++ [.inl x2]) r.2) := fun k => rfl
  have h := h gX4_offerOrders
  rw [mgs_gX4_offerOrders] at h
  exact h
set_option maxRecDepth 100000 in
theorem eX4_offerOrders_24 (M : MM) (x1 : Int32) (x2 : Int32) (d3 : Option AV) (xs0 : Int32) (xs1 : Int32) : gX4_offerOrders 24 [some (.inr (some 3)), some (.inl x1), some (.inl x2), d3] [.inl xs0, .inl xs1] M = (if xs0 ≤ xs1 then gX4_offerOrders 2 [some (.inr (some 3)), some (.inl (x1 + (1 : Int32))), some (.inl x2), d3] [] M else (mX2_wordAt [.inr (some 2), .inl x1, .inl x2] M).bind (fun r => gX4_offerOrders 36 [some (.inr (some 3)), some (.inl x1), some (.inl x2), d3] (r.1.toList ++ []) r.2)) := by
  have h : ∀ k : KT, mgs (zlook tX4_offerOrders) nX4_offerOrders k 6 24 [some (.inr (some 3)), some (.inl x1), some (.inl x2), d3] [.inl xs0, .inl xs1] M = (if xs0 ≤ xs1 then k 2 [some (.inr (some 3)), some (.inl (x1 + (1 : Int32))), some (.inl x2), d3] [] M else (mX2_wordAt [.inr (some 2), .inl x1, .inl x2] M).bind (fun r => k 36 [some (.inr (some 3)), some (.inl x1), some (.inl x2), d3] (r.1.toList ++ []) r.2)) := fun k => rfl
  have h := h gX4_offerOrders
  rw [mgs_gX4_offerOrders] at h
  exact h
set_option maxRecDepth 100000 in
theorem eX4_offerOrders_36 (M : MM) (x1 : Int32) (x2 : Int32) (d3 : Option AV) (xs0 : Int32) : gX4_offerOrders 36 [some (.inr (some 3)), some (.inl x1), some (.inl x2), d3] [.inl xs0] M = (if xs0 < (11 : Int32) then gX4_offerOrders 74 [some (.inr (some 3)), some (.inl x1), some (.inl x2), some (.inl xs0)] [] M else (if (16 : Int32) < xs0 then gX4_offerOrders 74 [some (.inr (some 3)), some (.inl x1), some (.inl x2), some (.inl xs0)] [] M else (mX2_costAt [.inr (some 2), .inl x1, .inl x2] M).bind (fun r => gX4_offerOrders 66 [some (.inr (some 3)), some (.inl x1), some (.inl x2), some (.inl xs0)] (r.1.toList ++ [.inl (0 : Int32), .inl (((1 : Int32) + xs0) - (11 : Int32)), .inr (some 3)]) r.2))) := by
  have h : ∀ k : KT, mgs (zlook tX4_offerOrders) nX4_offerOrders k 19 36 [some (.inr (some 3)), some (.inl x1), some (.inl x2), d3] [.inl xs0] M = (if xs0 < (11 : Int32) then k 74 [some (.inr (some 3)), some (.inl x1), some (.inl x2), some (.inl xs0)] [] M else (if (16 : Int32) < xs0 then k 74 [some (.inr (some 3)), some (.inl x1), some (.inl x2), some (.inl xs0)] [] M else (mX2_costAt [.inr (some 2), .inl x1, .inl x2] M).bind (fun r => k 66 [some (.inr (some 3)), some (.inl x1), some (.inl x2), some (.inl xs0)] (r.1.toList ++ [.inl (0 : Int32), .inl (((1 : Int32) + xs0) - (11 : Int32)), .inr (some 3)]) r.2))) := fun k => rfl
  have h := h gX4_offerOrders
  rw [mgs_gX4_offerOrders] at h
  exact h
set_option maxRecDepth 100000 in
theorem eX4_offerOrders_66 (M : MM) (x1 : Int32) (x2 : Int32) (x3 : Int32) (xs0 : Int32) (xs1 : Int32) (xs2 : Int32) : gX4_offerOrders 66 [some (.inr (some 3)), some (.inl x1), some (.inl x2), some (.inl x3)] [.inl xs0, .inl xs1, .inl xs2, .inr (some 3)] M = (mX4_offer [.inr (some 3), .inl xs2, .inl xs1, .inl (xs0 - (M 3 4))] M).bind (fun r => gX4_offerOrders 74 [some (.inr (some 3)), some (.inl x1), some (.inl x2), some (.inl x3)] (r.1.toList ++ []) r.2) := by
  have h : ∀ k : KT, mgs (zlook tX4_offerOrders) nX4_offerOrders k 4 66 [some (.inr (some 3)), some (.inl x1), some (.inl x2), some (.inl x3)] [.inl xs0, .inl xs1, .inl xs2, .inr (some 3)] M = (mX4_offer [.inr (some 3), .inl xs2, .inl xs1, .inl (xs0 - (M 3 4))] M).bind (fun r => k 74 [some (.inr (some 3)), some (.inl x1), some (.inl x2), some (.inl x3)] (r.1.toList ++ []) r.2) := fun k => rfl
  have h := h gX4_offerOrders
  rw [mgs_gX4_offerOrders] at h
  exact h
set_option maxRecDepth 100000 in
theorem eX4_offerOrders_74 (M : MM) (x1 : Int32) (x2 : Int32) (x3 : Int32) : gX4_offerOrders 74 [some (.inr (some 3)), some (.inl x1), some (.inl x2), some (.inl x3)] [] M = gX4_offerOrders 15 [some (.inr (some 3)), some (.inl x1), some (.inl (x2 + (1 : Int32))), some (.inl x3)] [] M := by
  have h : ∀ k : KT, mgs (zlook tX4_offerOrders) nX4_offerOrders k 2 74 [some (.inr (some 3)), some (.inl x1), some (.inl x2), some (.inl x3)] [] M = k 15 [some (.inr (some 3)), some (.inl x1), some (.inl (x2 + (1 : Int32))), some (.inl x3)] [] M := fun k => rfl
  have h := h gX4_offerOrders
  rw [mgs_gX4_offerOrders] at h
  exact h
theorem iX4_offerOrders (M : MM) : mX4_offerOrders [.inr (some 3)] M = gX4_offerOrders 0 [some (.inr (some 3)), none, none, none] [] M := rfl
noncomputable def gX4_read : KT := mev (zlook tX4_read)
theorem ctX4_read : ∀ q ∈ tX4_read, Cont q.2 := by
  refine ccons (cont_aload _ _) ?_
  refine ccons (cont_aload _ _) ?_
  refine ccons (cont_getR _ _ _) ?_
  refine ccons (cont_iload _ _) ?_
  refine ccons (cont_callV _ _ _ _) ?_
  refine ccons (cont_push _ _) ?_
  refine ccons (cont_callV _ _ _ _) ?_
  refine ccons (cont_aload _ _) ?_
  refine ccons (cont_callV _ _ _ _) ?_
  refine ccons (cont_aload _ _) ?_
  refine ccons (cont_aload _ _) ?_
  refine ccons (cont_getR _ _ _) ?_
  refine ccons (cont_push _ _) ?_
  refine ccons (cont_callV _ _ _ _) ?_
  refine ccons (cont_aload _ _) ?_
  refine ccons (cont_aload _ _) ?_
  refine ccons (cont_getR _ _ _) ?_
  refine ccons (cont_iload _ _) ?_
  refine ccons (cont_callV _ _ _ _) ?_
  refine ccons (cont_push _ _) ?_
  refine ccons (cont_callV _ _ _ _) ?_
  refine ccons (cont_vret) ?_
  exact cnil
theorem mgs_gX4_read (cut : List Nat) (n : Nat) : mgs (zlook tX4_read) cut gX4_read n = gX4_read := mgs_mev (ctab ctX4_read) cut n
def nX4_read : List Nat := [0, 9, 13, 17, 27, 36, 41]
set_option maxRecDepth 100000 in
theorem eX4_read_0 (M : MM) (x1 : Int32) (x2 : Int32) : gX4_read 0 [some (.inr (some 3)), some (.inl x1), some (.inl x2)] [] M = (mX1_slotAt [.inr (some 1), .inl x1] M).bind (fun r => gX4_read 9 [some (.inr (some 3)), some (.inl x1), some (.inl x2)] (r.1.toList ++ [.inr (some 3)]) r.2) := by
  have h : ∀ k : KT, mgs (zlook tX4_read) nX4_read k 5 0 [some (.inr (some 3)), some (.inl x1), some (.inl x2)] [] M = (mX1_slotAt [.inr (some 1), .inl x1] M).bind (fun r => k 9 [some (.inr (some 3)), some (.inl x1), some (.inl x2)] (r.1.toList ++ [.inr (some 3)]) r.2) := fun k => rfl
  have h := h gX4_read
  rw [mgs_gX4_read] at h
  exact h
set_option maxRecDepth 100000 in
theorem eX4_read_9 (M : MM) (x1 : Int32) (x2 : Int32) (rs0 : Option Nat) : gX4_read 9 [some (.inr (some 3)), some (.inl x1), some (.inl x2)] [.inr rs0, .inr (some 3)] M = (mX4_offerAnswers [.inr (some 3), .inr rs0, .inl (0 : Int32)] M).bind (fun r => gX4_read 13 [some (.inr (some 3)), some (.inl x1), some (.inl x2)] (r.1.toList ++ []) r.2) := by
  have h : ∀ k : KT, mgs (zlook tX4_read) nX4_read k 2 9 [some (.inr (some 3)), some (.inl x1), some (.inl x2)] [.inr rs0, .inr (some 3)] M = (mX4_offerAnswers [.inr (some 3), .inr rs0, .inl (0 : Int32)] M).bind (fun r => k 13 [some (.inr (some 3)), some (.inl x1), some (.inl x2)] (r.1.toList ++ []) r.2) := fun k => rfl
  have h := h gX4_read
  rw [mgs_gX4_read] at h
  exact h
set_option maxRecDepth 100000 in
theorem eX4_read_13 (M : MM) (x1 : Int32) (x2 : Int32) : gX4_read 13 [some (.inr (some 3)), some (.inl x1), some (.inl x2)] [] M = (mX4_offerOrders [.inr (some 3)] M).bind (fun r => gX4_read 17 [some (.inr (some 3)), some (.inl x1), some (.inl x2)] (r.1.toList ++ []) r.2) := by
  have h : ∀ k : KT, mgs (zlook tX4_read) nX4_read k 2 13 [some (.inr (some 3)), some (.inl x1), some (.inl x2)] [] M = (mX4_offerOrders [.inr (some 3)] M).bind (fun r => k 17 [some (.inr (some 3)), some (.inl x1), some (.inl x2)] (r.1.toList ++ []) r.2) := fun k => rfl
  have h := h gX4_read
  rw [mgs_gX4_read] at h
  exact h
set_option maxRecDepth 100000 in
theorem eX4_read_17 (M : MM) (x1 : Int32) (x2 : Int32) : gX4_read 17 [some (.inr (some 3)), some (.inl x1), some (.inl x2)] [] M = (mX4_offerListed [.inr (some 3), .inr (some 1), .inl (7 : Int32)] M).bind (fun r => gX4_read 27 [some (.inr (some 3)), some (.inl x1), some (.inl x2)] (r.1.toList ++ []) r.2) := by
  have h : ∀ k : KT, mgs (zlook tX4_read) nX4_read k 5 17 [some (.inr (some 3)), some (.inl x1), some (.inl x2)] [] M = (mX4_offerListed [.inr (some 3), .inr (some 1), .inl (7 : Int32)] M).bind (fun r => k 27 [some (.inr (some 3)), some (.inl x1), some (.inl x2)] (r.1.toList ++ []) r.2) := fun k => rfl
  have h := h gX4_read
  rw [mgs_gX4_read] at h
  exact h
set_option maxRecDepth 100000 in
theorem eX4_read_27 (M : MM) (x1 : Int32) (x2 : Int32) : gX4_read 27 [some (.inr (some 3)), some (.inl x1), some (.inl x2)] [] M = (mX1_slotAt [.inr (some 1), .inl x2] M).bind (fun r => gX4_read 36 [some (.inr (some 3)), some (.inl x1), some (.inl x2)] (r.1.toList ++ [.inr (some 3)]) r.2) := by
  have h : ∀ k : KT, mgs (zlook tX4_read) nX4_read k 5 27 [some (.inr (some 3)), some (.inl x1), some (.inl x2)] [] M = (mX1_slotAt [.inr (some 1), .inl x2] M).bind (fun r => k 36 [some (.inr (some 3)), some (.inl x1), some (.inl x2)] (r.1.toList ++ [.inr (some 3)]) r.2) := fun k => rfl
  have h := h gX4_read
  rw [mgs_gX4_read] at h
  exact h
set_option maxRecDepth 100000 in
theorem eX4_read_36 (M : MM) (x1 : Int32) (x2 : Int32) (rs0 : Option Nat) : gX4_read 36 [some (.inr (some 3)), some (.inl x1), some (.inl x2)] [.inr rs0, .inr (some 3)] M = (mX4_offerAnswers [.inr (some 3), .inr rs0, .inl (8 : Int32)] M).bind (fun r => gX4_read 41 [some (.inr (some 3)), some (.inl x1), some (.inl x2)] (r.1.toList ++ []) r.2) := by
  have h : ∀ k : KT, mgs (zlook tX4_read) nX4_read k 2 36 [some (.inr (some 3)), some (.inl x1), some (.inl x2)] [.inr rs0, .inr (some 3)] M = (mX4_offerAnswers [.inr (some 3), .inr rs0, .inl (8 : Int32)] M).bind (fun r => k 41 [some (.inr (some 3)), some (.inl x1), some (.inl x2)] (r.1.toList ++ []) r.2) := fun k => rfl
  have h := h gX4_read
  rw [mgs_gX4_read] at h
  exact h
set_option maxRecDepth 100000 in
theorem eX4_read_41 (M : MM) (x1 : Int32) (x2 : Int32) : gX4_read 41 [some (.inr (some 3)), some (.inl x1), some (.inl x2)] [] M = some (none, M) := by
  have h : ∀ k : KT, mgs (zlook tX4_read) nX4_read k 1 41 [some (.inr (some 3)), some (.inl x1), some (.inl x2)] [] M = some (none, M) := fun k => rfl
  have h := h gX4_read
  rw [mgs_gX4_read] at h
  exact h
theorem iX4_read (M : MM) (x1 : Int32) (x2 : Int32) : mX4_read [.inr (some 3), .inl x1, .inl x2] M = gX4_read 0 [some (.inr (some 3)), some (.inl x1), some (.inl x2)] [] M := rfl
noncomputable def gX4_key : KT := mev (zlook tX4_key)
theorem ctX4_key : ∀ q ∈ tX4_key, Cont q.2 := by
  refine ccons (cont_aload _ _) ?_
  refine ccons (cont_getR _ _ _) ?_
  refine ccons (cont_push _ _) ?_
  refine ccons (cont_iload _ _) ?_
  refine ccons (cont_callV _ _ _ _) ?_
  refine ccons (cont_iret) ?_
  exact cnil
theorem mgs_gX4_key (cut : List Nat) (n : Nat) : mgs (zlook tX4_key) cut gX4_key n = gX4_key := mgs_mev (ctab ctX4_key) cut n
def nX4_key : List Nat := [0, 9]
set_option maxRecDepth 100000 in
theorem eX4_key_0 (M : MM) (x1 : Int32) : gX4_key 0 [some (.inr (some 3)), some (.inl x1)] [] M = (mX7_key [.inr (some 10), .inl (0 : Int32), .inl x1] M).bind (fun r => gX4_key 9 [some (.inr (some 3)), some (.inl x1)] (r.1.toList ++ []) r.2) := by
  have h : ∀ k : KT, mgs (zlook tX4_key) nX4_key k 5 0 [some (.inr (some 3)), some (.inl x1)] [] M = (mX7_key [.inr (some 10), .inl (0 : Int32), .inl x1] M).bind (fun r => k 9 [some (.inr (some 3)), some (.inl x1)] (r.1.toList ++ []) r.2) := fun k => rfl
  have h := h gX4_key
  rw [mgs_gX4_key] at h
  exact h
set_option maxRecDepth 100000 in
theorem eX4_key_9 (M : MM) (x1 : Int32) (xs0 : Int32) : gX4_key 9 [some (.inr (some 3)), some (.inl x1)] [.inl xs0] M = some ((some (.inl xs0)), M) := by
  have h : ∀ k : KT, mgs (zlook tX4_key) nX4_key k 1 9 [some (.inr (some 3)), some (.inl x1)] [.inl xs0] M = some ((some (.inl xs0)), M) := fun k => rfl
  have h := h gX4_key
  rw [mgs_gX4_key] at h
  exact h
theorem iX4_key (M : MM) (x1 : Int32) : mX4_key [.inr (some 3), .inl x1] M = gX4_key 0 [some (.inr (some 3)), some (.inl x1)] [] M := rfl
noncomputable def gX4_found : KT := mev (zlook tX4_found)
theorem ctX4_found : ∀ q ∈ tX4_found, Cont q.2 := by
  refine ccons (cont_aload _ _) ?_
  refine ccons (cont_iload _ _) ?_
  refine ccons (cont_callV _ _ _ _) ?_
  refine ccons (cont_push _ _) ?_
  refine ccons (cont_c_eq _ _) ?_
  refine ccons (cont_push _ _) ?_
  refine ccons (cont_goto _) ?_
  refine ccons (cont_push _ _) ?_
  refine ccons (cont_zret) ?_
  exact cnil
theorem mgs_gX4_found (cut : List Nat) (n : Nat) : mgs (zlook tX4_found) cut gX4_found n = gX4_found := mgs_mev (ctab ctX4_found) cut n
def nX4_found : List Nat := [0, 5]
set_option maxRecDepth 100000 in
theorem eX4_found_0 (M : MM) (x1 : Int32) : gX4_found 0 [some (.inr (some 3)), some (.inl x1)] [] M = (mX4_key [.inr (some 3), .inl x1] M).bind (fun r => gX4_found 5 [some (.inr (some 3)), some (.inl x1)] (r.1.toList ++ []) r.2) := by
  have h : ∀ k : KT, mgs (zlook tX4_found) nX4_found k 3 0 [some (.inr (some 3)), some (.inl x1)] [] M = (mX4_key [.inr (some 3), .inl x1] M).bind (fun r => k 5 [some (.inr (some 3)), some (.inl x1)] (r.1.toList ++ []) r.2) := fun k => rfl
  have h := h gX4_found
  rw [mgs_gX4_found] at h
  exact h
set_option maxRecDepth 100000 in
theorem eX4_found_5 (M : MM) (x1 : Int32) (xs0 : Int32) : gX4_found 5 [some (.inr (some 3)), some (.inl x1)] [.inl xs0] M = (if xs0 = (-1 : Int32) then some ((some (.inl (0 : Int32))), M) else some ((some (.inl (1 : Int32))), M)) := by
  have h : ∀ k : KT, mgs (zlook tX4_found) nX4_found k 5 5 [some (.inr (some 3)), some (.inl x1)] [.inl xs0] M = (if xs0 = (-1 : Int32) then some ((some (.inl (0 : Int32))), M) else some ((some (.inl (1 : Int32))), M)) := fun k => rfl
  have h := h gX4_found
  rw [mgs_gX4_found] at h
  exact h
theorem iX4_found (M : MM) (x1 : Int32) : mX4_found [.inr (some 3), .inl x1] M = gX4_found 0 [some (.inr (some 3)), some (.inl x1)] [] M := rfl
noncomputable def gX4_sortOf : KT := mev (zlook tX4_sortOf)
theorem ctX4_sortOf : ∀ q ∈ tX4_sortOf, Cont q.2 := by
  refine ccons (cont_iload _ _) ?_
  refine ccons (cont_push _ _) ?_
  refine ccons (cont_div _) ?_
  refine ccons (cont_iret) ?_
  exact cnil
theorem mgs_gX4_sortOf (cut : List Nat) (n : Nat) : mgs (zlook tX4_sortOf) cut gX4_sortOf n = gX4_sortOf := mgs_mev (ctab ctX4_sortOf) cut n
def nX4_sortOf : List Nat := [0]
set_option maxRecDepth 100000 in
theorem eX4_sortOf_0 (M : MM) (x0 : Int32) : gX4_sortOf 0 [some (.inl x0)] [] M = some ((some (.inl (x0 / (100000000 : Int32)))), M) := by
  have h : ∀ k : KT, mgs (zlook tX4_sortOf) nX4_sortOf k 4 0 [some (.inl x0)] [] M = some ((some (.inl (x0 / (100000000 : Int32)))), M) := fun k => rfl
  have h := h gX4_sortOf
  rw [mgs_gX4_sortOf] at h
  exact h
theorem iX4_sortOf (M : MM) (x0 : Int32) : mX4_sortOf [.inl x0] M = gX4_sortOf 0 [some (.inl x0)] [] M := rfl
noncomputable def gX4_sort : KT := mev (zlook tX4_sort)
theorem ctX4_sort : ∀ q ∈ tX4_sort, Cont q.2 := by
  refine ccons (cont_aload _ _) ?_
  refine ccons (cont_iload _ _) ?_
  refine ccons (cont_callV _ _ _ _) ?_
  refine ccons (cont_if_eq _ _) ?_
  refine ccons (cont_aload _ _) ?_
  refine ccons (cont_iload _ _) ?_
  refine ccons (cont_callV _ _ _ _) ?_
  refine ccons (cont_callS _ _ _) ?_
  refine ccons (cont_goto _) ?_
  refine ccons (cont_push _ _) ?_
  refine ccons (cont_iret) ?_
  exact cnil
theorem mgs_gX4_sort (cut : List Nat) (n : Nat) : mgs (zlook tX4_sort) cut gX4_sort n = gX4_sort := mgs_mev (ctab ctX4_sort) cut n
def nX4_sort : List Nat := [0, 5, 13, 16]
set_option maxRecDepth 100000 in
theorem eX4_sort_0 (M : MM) (x1 : Int32) : gX4_sort 0 [some (.inr (some 3)), some (.inl x1)] [] M = (mX4_found [.inr (some 3), .inl x1] M).bind (fun r => gX4_sort 5 [some (.inr (some 3)), some (.inl x1)] (r.1.toList ++ []) r.2) := by
  have h : ∀ k : KT, mgs (zlook tX4_sort) nX4_sort k 3 0 [some (.inr (some 3)), some (.inl x1)] [] M = (mX4_found [.inr (some 3), .inl x1] M).bind (fun r => k 5 [some (.inr (some 3)), some (.inl x1)] (r.1.toList ++ []) r.2) := fun k => rfl
  have h := h gX4_sort
  rw [mgs_gX4_sort] at h
  exact h
set_option maxRecDepth 100000 in
theorem eX4_sort_5 (M : MM) (x1 : Int32) (xs0 : Int32) : gX4_sort 5 [some (.inr (some 3)), some (.inl x1)] [.inl xs0] M = (if xs0 = 0 then some ((some (.inl (-1 : Int32))), M) else (mX4_key [.inr (some 3), .inl x1] M).bind (fun r => gX4_sort 13 [some (.inr (some 3)), some (.inl x1)] (r.1.toList ++ []) r.2)) := by
  have h : ∀ k : KT, mgs (zlook tX4_sort) nX4_sort k 4 5 [some (.inr (some 3)), some (.inl x1)] [.inl xs0] M = (if xs0 = 0 then some ((some (.inl (-1 : Int32))), M) else (mX4_key [.inr (some 3), .inl x1] M).bind (fun r => k 13 [some (.inr (some 3)), some (.inl x1)] (r.1.toList ++ []) r.2)) := fun k => rfl
  have h := h gX4_sort
  rw [mgs_gX4_sort] at h
  exact h
set_option maxRecDepth 100000 in
theorem eX4_sort_13 (M : MM) (x1 : Int32) (xs0 : Int32) : gX4_sort 13 [some (.inr (some 3)), some (.inl x1)] [.inl xs0] M = (mX4_sortOf [.inl xs0] M).bind (fun r => gX4_sort 16 [some (.inr (some 3)), some (.inl x1)] (r.1.toList ++ []) r.2) := by
  have h : ∀ k : KT, mgs (zlook tX4_sort) nX4_sort k 1 13 [some (.inr (some 3)), some (.inl x1)] [.inl xs0] M = (mX4_sortOf [.inl xs0] M).bind (fun r => k 16 [some (.inr (some 3)), some (.inl x1)] (r.1.toList ++ []) r.2) := fun k => rfl
  have h := h gX4_sort
  rw [mgs_gX4_sort] at h
  exact h
set_option maxRecDepth 100000 in
theorem eX4_sort_16 (M : MM) (x1 : Int32) (xs0 : Int32) : gX4_sort 16 [some (.inr (some 3)), some (.inl x1)] [.inl xs0] M = some ((some (.inl xs0)), M) := by
  have h : ∀ k : KT, mgs (zlook tX4_sort) nX4_sort k 2 16 [some (.inr (some 3)), some (.inl x1)] [.inl xs0] M = some ((some (.inl xs0)), M) := fun k => rfl
  have h := h gX4_sort
  rw [mgs_gX4_sort] at h
  exact h
theorem iX4_sort (M : MM) (x1 : Int32) : mX4_sort [.inr (some 3), .inl x1] M = gX4_sort 0 [some (.inr (some 3)), some (.inl x1)] [] M := rfl
noncomputable def gX4_valueOf : KT := mev (zlook tX4_valueOf)
theorem ctX4_valueOf : ∀ q ∈ tX4_valueOf, Cont q.2 := by
  refine ccons (cont_iload _ _) ?_
  refine ccons (cont_push _ _) ?_
  refine ccons (cont_rem _) ?_
  refine ccons (cont_iret) ?_
  exact cnil
theorem mgs_gX4_valueOf (cut : List Nat) (n : Nat) : mgs (zlook tX4_valueOf) cut gX4_valueOf n = gX4_valueOf := mgs_mev (ctab ctX4_valueOf) cut n
def nX4_valueOf : List Nat := [0]
set_option maxRecDepth 100000 in
theorem eX4_valueOf_0 (M : MM) (x0 : Int32) : gX4_valueOf 0 [some (.inl x0)] [] M = some ((some (.inl (x0 - x0 / (100000000 : Int32) * (100000000 : Int32)))), M) := by
  have h : ∀ k : KT, mgs (zlook tX4_valueOf) nX4_valueOf k 4 0 [some (.inl x0)] [] M = some ((some (.inl (x0 - x0 / (100000000 : Int32) * (100000000 : Int32)))), M) := fun k => rfl
  have h := h gX4_valueOf
  rw [mgs_gX4_valueOf] at h
  exact h
theorem iX4_valueOf (M : MM) (x0 : Int32) : mX4_valueOf [.inl x0] M = gX4_valueOf 0 [some (.inl x0)] [] M := rfl
noncomputable def gX4_value : KT := mev (zlook tX4_value)
theorem ctX4_value : ∀ q ∈ tX4_value, Cont q.2 := by
  refine ccons (cont_aload _ _) ?_
  refine ccons (cont_iload _ _) ?_
  refine ccons (cont_callV _ _ _ _) ?_
  refine ccons (cont_if_eq _ _) ?_
  refine ccons (cont_aload _ _) ?_
  refine ccons (cont_iload _ _) ?_
  refine ccons (cont_callV _ _ _ _) ?_
  refine ccons (cont_callS _ _ _) ?_
  refine ccons (cont_goto _) ?_
  refine ccons (cont_push _ _) ?_
  refine ccons (cont_iret) ?_
  exact cnil
theorem mgs_gX4_value (cut : List Nat) (n : Nat) : mgs (zlook tX4_value) cut gX4_value n = gX4_value := mgs_mev (ctab ctX4_value) cut n
def nX4_value : List Nat := [0, 5, 13, 16]
set_option maxRecDepth 100000 in
theorem eX4_value_0 (M : MM) (x1 : Int32) : gX4_value 0 [some (.inr (some 3)), some (.inl x1)] [] M = (mX4_found [.inr (some 3), .inl x1] M).bind (fun r => gX4_value 5 [some (.inr (some 3)), some (.inl x1)] (r.1.toList ++ []) r.2) := by
  have h : ∀ k : KT, mgs (zlook tX4_value) nX4_value k 3 0 [some (.inr (some 3)), some (.inl x1)] [] M = (mX4_found [.inr (some 3), .inl x1] M).bind (fun r => k 5 [some (.inr (some 3)), some (.inl x1)] (r.1.toList ++ []) r.2) := fun k => rfl
  have h := h gX4_value
  rw [mgs_gX4_value] at h
  exact h
set_option maxRecDepth 100000 in
theorem eX4_value_5 (M : MM) (x1 : Int32) (xs0 : Int32) : gX4_value 5 [some (.inr (some 3)), some (.inl x1)] [.inl xs0] M = (if xs0 = 0 then some ((some (.inl (-1 : Int32))), M) else (mX4_key [.inr (some 3), .inl x1] M).bind (fun r => gX4_value 13 [some (.inr (some 3)), some (.inl x1)] (r.1.toList ++ []) r.2)) := by
  have h : ∀ k : KT, mgs (zlook tX4_value) nX4_value k 4 5 [some (.inr (some 3)), some (.inl x1)] [.inl xs0] M = (if xs0 = 0 then some ((some (.inl (-1 : Int32))), M) else (mX4_key [.inr (some 3), .inl x1] M).bind (fun r => k 13 [some (.inr (some 3)), some (.inl x1)] (r.1.toList ++ []) r.2)) := fun k => rfl
  have h := h gX4_value
  rw [mgs_gX4_value] at h
  exact h
set_option maxRecDepth 100000 in
theorem eX4_value_13 (M : MM) (x1 : Int32) (xs0 : Int32) : gX4_value 13 [some (.inr (some 3)), some (.inl x1)] [.inl xs0] M = (mX4_valueOf [.inl xs0] M).bind (fun r => gX4_value 16 [some (.inr (some 3)), some (.inl x1)] (r.1.toList ++ []) r.2) := by
  have h : ∀ k : KT, mgs (zlook tX4_value) nX4_value k 1 13 [some (.inr (some 3)), some (.inl x1)] [.inl xs0] M = (mX4_valueOf [.inl xs0] M).bind (fun r => k 16 [some (.inr (some 3)), some (.inl x1)] (r.1.toList ++ []) r.2) := fun k => rfl
  have h := h gX4_value
  rw [mgs_gX4_value] at h
  exact h
set_option maxRecDepth 100000 in
theorem eX4_value_16 (M : MM) (x1 : Int32) (xs0 : Int32) : gX4_value 16 [some (.inr (some 3)), some (.inl x1)] [.inl xs0] M = some ((some (.inl xs0)), M) := by
  have h : ∀ k : KT, mgs (zlook tX4_value) nX4_value k 2 16 [some (.inr (some 3)), some (.inl x1)] [.inl xs0] M = some ((some (.inl xs0)), M) := fun k => rfl
  have h := h gX4_value
  rw [mgs_gX4_value] at h
  exact h
theorem iX4_value (M : MM) (x1 : Int32) : mX4_value [.inr (some 3), .inl x1] M = gX4_value 0 [some (.inr (some 3)), some (.inl x1)] [] M := rfl
noncomputable def gX4_cost : KT := mev (zlook tX4_cost)
theorem ctX4_cost : ∀ q ∈ tX4_cost, Cont q.2 := by
  refine ccons (cont_aload _ _) ?_
  refine ccons (cont_iload _ _) ?_
  refine ccons (cont_callV _ _ _ _) ?_
  refine ccons (cont_if_eq _ _) ?_
  refine ccons (cont_aload _ _) ?_
  refine ccons (cont_getR _ _ _) ?_
  refine ccons (cont_push _ _) ?_
  refine ccons (cont_iload _ _) ?_
  refine ccons (cont_callV _ _ _ _) ?_
  refine ccons (cont_goto _) ?_
  refine ccons (cont_push _ _) ?_
  refine ccons (cont_iret) ?_
  exact cnil
theorem mgs_gX4_cost (cut : List Nat) (n : Nat) : mgs (zlook tX4_cost) cut gX4_cost n = gX4_cost := mgs_mev (ctab ctX4_cost) cut n
def nX4_cost : List Nat := [0, 5, 17]
set_option maxRecDepth 100000 in
theorem eX4_cost_0 (M : MM) (x1 : Int32) : gX4_cost 0 [some (.inr (some 3)), some (.inl x1)] [] M = (mX4_found [.inr (some 3), .inl x1] M).bind (fun r => gX4_cost 5 [some (.inr (some 3)), some (.inl x1)] (r.1.toList ++ []) r.2) := by
  have h : ∀ k : KT, mgs (zlook tX4_cost) nX4_cost k 3 0 [some (.inr (some 3)), some (.inl x1)] [] M = (mX4_found [.inr (some 3), .inl x1] M).bind (fun r => k 5 [some (.inr (some 3)), some (.inl x1)] (r.1.toList ++ []) r.2) := fun k => rfl
  have h := h gX4_cost
  rw [mgs_gX4_cost] at h
  exact h
set_option maxRecDepth 100000 in
theorem eX4_cost_5 (M : MM) (x1 : Int32) (xs0 : Int32) : gX4_cost 5 [some (.inr (some 3)), some (.inl x1)] [.inl xs0] M = (if xs0 = 0 then some ((some (.inl (-1 : Int32))), M) else (mX7_cost [.inr (some 10), .inl (0 : Int32), .inl x1] M).bind (fun r => gX4_cost 17 [some (.inr (some 3)), some (.inl x1)] (r.1.toList ++ []) r.2)) := by
  have h : ∀ k : KT, mgs (zlook tX4_cost) nX4_cost k 6 5 [some (.inr (some 3)), some (.inl x1)] [.inl xs0] M = (if xs0 = 0 then some ((some (.inl (-1 : Int32))), M) else (mX7_cost [.inr (some 10), .inl (0 : Int32), .inl x1] M).bind (fun r => k 17 [some (.inr (some 3)), some (.inl x1)] (r.1.toList ++ []) r.2)) := fun k => rfl
  have h := h gX4_cost
  rw [mgs_gX4_cost] at h
  exact h
set_option maxRecDepth 100000 in
theorem eX4_cost_17 (M : MM) (x1 : Int32) (xs0 : Int32) : gX4_cost 17 [some (.inr (some 3)), some (.inl x1)] [.inl xs0] M = some ((some (.inl xs0)), M) := by
  have h : ∀ k : KT, mgs (zlook tX4_cost) nX4_cost k 2 17 [some (.inr (some 3)), some (.inl x1)] [.inl xs0] M = some ((some (.inl xs0)), M) := fun k => rfl
  have h := h gX4_cost
  rw [mgs_gX4_cost] at h
  exact h
theorem iX4_cost (M : MM) (x1 : Int32) : mX4_cost [.inr (some 3), .inl x1] M = gX4_cost 0 [some (.inr (some 3)), some (.inl x1)] [] M := rfl
noncomputable def gX4_isOtherNear : KT := mev (zlook tX4_isOtherNear)
theorem ctX4_isOtherNear : ∀ q ∈ tX4_isOtherNear, Cont q.2 := by
  refine ccons (cont_aload _ _) ?_
  refine ccons (cont_push _ _) ?_
  refine ccons (cont_callV _ _ _ _) ?_
  refine ccons (cont_if_eq _ _) ?_
  refine ccons (cont_aload _ _) ?_
  refine ccons (cont_push _ _) ?_
  refine ccons (cont_callV _ _ _ _) ?_
  refine ccons (cont_if_eq _ _) ?_
  refine ccons (cont_aload _ _) ?_
  refine ccons (cont_push _ _) ?_
  refine ccons (cont_callV _ _ _ _) ?_
  refine ccons (cont_aload _ _) ?_
  refine ccons (cont_push _ _) ?_
  refine ccons (cont_callV _ _ _ _) ?_
  refine ccons (cont_aload _ _) ?_
  refine ccons (cont_getI _ _ _) ?_
  refine ccons (cont_bin _ _) ?_
  refine ccons (cont_c_ge _ _) ?_
  refine ccons (cont_push _ _) ?_
  refine ccons (cont_goto _) ?_
  refine ccons (cont_push _ _) ?_
  refine ccons (cont_zret) ?_
  exact cnil
theorem mgs_gX4_isOtherNear (cut : List Nat) (n : Nat) : mgs (zlook tX4_isOtherNear) cut gX4_isOtherNear n = gX4_isOtherNear := mgs_mev (ctab ctX4_isOtherNear) cut n
def nX4_isOtherNear : List Nat := [0, 5, 13, 21, 26]
set_option maxRecDepth 100000 in
theorem eX4_isOtherNear_0 (M : MM) : gX4_isOtherNear 0 [some (.inr (some 3))] [] M = (mX4_found [.inr (some 3), .inl (0 : Int32)] M).bind (fun r => gX4_isOtherNear 5 [some (.inr (some 3))] (r.1.toList ++ []) r.2) := by
  have h : ∀ k : KT, mgs (zlook tX4_isOtherNear) nX4_isOtherNear k 3 0 [some (.inr (some 3))] [] M = (mX4_found [.inr (some 3), .inl (0 : Int32)] M).bind (fun r => k 5 [some (.inr (some 3))] (r.1.toList ++ []) r.2) := fun k => rfl
  have h := h gX4_isOtherNear
  rw [mgs_gX4_isOtherNear] at h
  exact h
set_option maxRecDepth 100000 in
theorem eX4_isOtherNear_5 (M : MM) (xs0 : Int32) : gX4_isOtherNear 5 [some (.inr (some 3))] [.inl xs0] M = (if xs0 = 0 then some ((some (.inl (0 : Int32))), M) else (mX4_found [.inr (some 3), .inl (1 : Int32)] M).bind (fun r => gX4_isOtherNear 13 [some (.inr (some 3))] (r.1.toList ++ []) r.2)) := by
  have h : ∀ k : KT, mgs (zlook tX4_isOtherNear) nX4_isOtherNear k 4 5 [some (.inr (some 3))] [.inl xs0] M = (if xs0 = 0 then some ((some (.inl (0 : Int32))), M) else (mX4_found [.inr (some 3), .inl (1 : Int32)] M).bind (fun r => k 13 [some (.inr (some 3))] (r.1.toList ++ []) r.2)) := fun k => rfl
  have h := h gX4_isOtherNear
  rw [mgs_gX4_isOtherNear] at h
  exact h
set_option maxRecDepth 100000 in
theorem eX4_isOtherNear_13 (M : MM) (xs0 : Int32) : gX4_isOtherNear 13 [some (.inr (some 3))] [.inl xs0] M = (if xs0 = 0 then some ((some (.inl (0 : Int32))), M) else (mX4_cost [.inr (some 3), .inl (1 : Int32)] M).bind (fun r => gX4_isOtherNear 21 [some (.inr (some 3))] (r.1.toList ++ []) r.2)) := by
  have h : ∀ k : KT, mgs (zlook tX4_isOtherNear) nX4_isOtherNear k 4 13 [some (.inr (some 3))] [.inl xs0] M = (if xs0 = 0 then some ((some (.inl (0 : Int32))), M) else (mX4_cost [.inr (some 3), .inl (1 : Int32)] M).bind (fun r => k 21 [some (.inr (some 3))] (r.1.toList ++ []) r.2)) := fun k => rfl
  have h := h gX4_isOtherNear
  rw [mgs_gX4_isOtherNear] at h
  exact h
set_option maxRecDepth 100000 in
theorem eX4_isOtherNear_21 (M : MM) (xs0 : Int32) : gX4_isOtherNear 21 [some (.inr (some 3))] [.inl xs0] M = (mX4_cost [.inr (some 3), .inl (0 : Int32)] M).bind (fun r => gX4_isOtherNear 26 [some (.inr (some 3))] (r.1.toList ++ [.inl xs0]) r.2) := by
  have h : ∀ k : KT, mgs (zlook tX4_isOtherNear) nX4_isOtherNear k 3 21 [some (.inr (some 3))] [.inl xs0] M = (mX4_cost [.inr (some 3), .inl (0 : Int32)] M).bind (fun r => k 26 [some (.inr (some 3))] (r.1.toList ++ [.inl xs0]) r.2) := fun k => rfl
  have h := h gX4_isOtherNear
  rw [mgs_gX4_isOtherNear] at h
  exact h
set_option maxRecDepth 100000 in
theorem eX4_isOtherNear_26 (M : MM) (xs0 : Int32) (xs1 : Int32) : gX4_isOtherNear 26 [some (.inr (some 3))] [.inl xs0, .inl xs1] M = (if (xs0 + (M 3 6)) ≤ xs1 then some ((some (.inl (0 : Int32))), M) else some ((some (.inl (1 : Int32))), M)) := by
  have h : ∀ k : KT, mgs (zlook tX4_isOtherNear) nX4_isOtherNear k 7 26 [some (.inr (some 3))] [.inl xs0, .inl xs1] M = (if (xs0 + (M 3 6)) ≤ xs1 then some ((some (.inl (0 : Int32))), M) else some ((some (.inl (1 : Int32))), M)) := fun k => rfl
  have h := h gX4_isOtherNear
  rw [mgs_gX4_isOtherNear] at h
  exact h
theorem iX4_isOtherNear (M : MM) : mX4_isOtherNear [.inr (some 3)] M = gX4_isOtherNear 0 [some (.inr (some 3))] [] M := rfl
noncomputable def gX5_isReadBack : KT := mev (zlook tX5_isReadBack)
theorem ctX5_isReadBack : ∀ q ∈ tX5_isReadBack, Cont q.2 := by
  refine ccons (cont_aload _ _) ?_
  refine ccons (cont_getI _ _ _) ?_
  refine ccons (cont_if_eq _ _) ?_
  refine ccons (cont_aload _ _) ?_
  refine ccons (cont_getI _ _ _) ?_
  refine ccons (cont_if_ne _ _) ?_
  refine ccons (cont_push _ _) ?_
  refine ccons (cont_goto _) ?_
  refine ccons (cont_push _ _) ?_
  refine ccons (cont_zret) ?_
  exact cnil
theorem mgs_gX5_isReadBack (cut : List Nat) (n : Nat) : mgs (zlook tX5_isReadBack) cut gX5_isReadBack n = gX5_isReadBack := mgs_mev (ctab ctX5_isReadBack) cut n
def nX5_isReadBack : List Nat := [0]
set_option maxRecDepth 100000 in
theorem eX5_isReadBack_0 (M : MM) (c : Nat) : gX5_isReadBack 0 [some (.inr (some c))] [] M = (if zkd c = 5 then (if (M c 3) = 0 then some ((some (.inl (0 : Int32))), M) else (if zkd c = 5 then (if (M c 2) = 0 then some ((some (.inl (1 : Int32))), M) else some ((some (.inl (0 : Int32))), M)) else none)) else none) := by
  have h : ∀ k : KT, mgs (zlook tX5_isReadBack) nX5_isReadBack k 9 0 [some (.inr (some c))] [] M = (if zkd c = 5 then (if (M c 3) = 0 then some ((some (.inl (0 : Int32))), M) else (if zkd c = 5 then (if (M c 2) = 0 then some ((some (.inl (1 : Int32))), M) else some ((some (.inl (0 : Int32))), M)) else none)) else none) := fun k => rfl
  have h := h gX5_isReadBack
  rw [mgs_gX5_isReadBack] at h
  exact h
theorem iX5_isReadBack (M : MM) (c : Nat) : mX5_isReadBack [.inr (some c)] M = gX5_isReadBack 0 [some (.inr (some c))] [] M := rfl
noncomputable def gX6_come : KT := mev (zlook tX6_come)
theorem ctX6_come : ∀ q ∈ tX6_come, Cont q.2 := by
  refine ccons (cont_iload _ _) ?_
  refine ccons (cont_aload _ _) ?_
  refine ccons (cont_getI _ _ _) ?_
  refine ccons (cont_c_ne _ _) ?_
  refine ccons (cont_vret) ?_
  refine ccons (cont_aload _ _) ?_
  refine ccons (cont_getI _ _ _) ?_
  refine ccons (cont_push _ _) ?_
  refine ccons (cont_c_eq _ _) ?_
  refine ccons (cont_aload _ _) ?_
  refine ccons (cont_getR _ _ _) ?_
  refine ccons (cont_aload _ _) ?_
  refine ccons (cont_getI _ _ _) ?_
  refine ccons (cont_callV _ _ _ _) ?_
  refine ccons (cont_aload _ _) ?_
  refine ccons (cont_iload _ _) ?_
  refine ccons (cont_put _ _ _) ?_
  refine ccons (cont_vret) ?_
  exact cnil
theorem mgs_gX6_come (cut : List Nat) (n : Nat) : mgs (zlook tX6_come) cut gX6_come n = gX6_come := mgs_mev (ctab ctX6_come) cut n
def nX6_come : List Nat := [0, 28]
set_option maxRecDepth 100000 in
theorem eX6_come_0 (M : MM) (x1 : Int32) : gX6_come 0 [some (.inr (some 4)), some (.inl x1)] [] M = (if x1 = (M 4 3) then some (none, M) else (if (M 4 3) = (-1 : Int32) then gX6_come 28 [some (.inr (some 4)), some (.inl x1)] [] M else (mX3_push [.inr (some 14), .inl (M 4 3)] M).bind (fun r => gX6_come 28 [some (.inr (some 4)), some (.inl x1)] (r.1.toList ++ []) r.2))) := by
  have h : ∀ k : KT, mgs (zlook tX6_come) nX6_come k 13 0 [some (.inr (some 4)), some (.inl x1)] [] M = (if x1 = (M 4 3) then some (none, M) else (if (M 4 3) = (-1 : Int32) then k 28 [some (.inr (some 4)), some (.inl x1)] [] M else (mX3_push [.inr (some 14), .inl (M 4 3)] M).bind (fun r => k 28 [some (.inr (some 4)), some (.inl x1)] (r.1.toList ++ []) r.2))) := fun k => rfl
  have h := h gX6_come
  rw [mgs_gX6_come] at h
  exact h
set_option maxRecDepth 100000 in
theorem eX6_come_28 (M : MM) (x1 : Int32) : gX6_come 28 [some (.inr (some 4)), some (.inl x1)] [] M = some (none, (st2 M 4 3 x1)) := by
  have h : ∀ k : KT, mgs (zlook tX6_come) nX6_come k 4 28 [some (.inr (some 4)), some (.inl x1)] [] M = some (none, (st2 M 4 3 x1)) := fun k => rfl
  have h := h gX6_come
  rw [mgs_gX6_come] at h
  exact h
theorem iX6_come (M : MM) (x1 : Int32) : mX6_come [.inr (some 4), .inl x1] M = gX6_come 0 [some (.inr (some 4)), some (.inl x1)] [] M := rfl
noncomputable def gX6_keep : KT := mev (zlook tX6_keep)
theorem ctX6_keep : ∀ q ∈ tX6_keep, Cont q.2 := by
  refine ccons (cont_aload _ _) ?_
  refine ccons (cont_aload _ _) ?_
  refine ccons (cont_getR _ _ _) ?_
  refine ccons (cont_iload _ _) ?_
  refine ccons (cont_iload _ _) ?_
  refine ccons (cont_iload _ _) ?_
  refine ccons (cont_callV _ _ _ _) ?_
  refine ccons (cont_put _ _ _) ?_
  refine ccons (cont_aload _ _) ?_
  refine ccons (cont_iload _ _) ?_
  refine ccons (cont_put _ _ _) ?_
  refine ccons (cont_aload _ _) ?_
  refine ccons (cont_push _ _) ?_
  refine ccons (cont_putZ _ _ _) ?_
  refine ccons (cont_aload _ _) ?_
  refine ccons (cont_getR _ _ _) ?_
  refine ccons (cont_aload _ _) ?_
  refine ccons (cont_getI _ _ _) ?_
  refine ccons (cont_callV _ _ _ _) ?_
  refine ccons (cont_astore _ _) ?_
  refine ccons (cont_aload _ _) ?_
  refine ccons (cont_null _ _) ?_
  refine ccons (cont_iload _ _) ?_
  refine ccons (cont_aload _ _) ?_
  refine ccons (cont_getI _ _ _) ?_
  refine ccons (cont_c_eq _ _) ?_
  refine ccons (cont_aload _ _) ?_
  refine ccons (cont_getI _ _ _) ?_
  refine ccons (cont_if_ne _ _) ?_
  refine ccons (cont_aload _ _) ?_
  refine ccons (cont_aload _ _) ?_
  refine ccons (cont_getR _ _ _) ?_
  refine ccons (cont_aload _ _) ?_
  refine ccons (cont_getI _ _ _) ?_
  refine ccons (cont_callV _ _ _ _) ?_
  refine ccons (cont_callV _ _ _ _) ?_
  refine ccons (cont_push _ _) ?_
  refine ccons (cont_iret) ?_
  exact cnil
theorem mgs_gX6_keep (cut : List Nat) (n : Nat) : mgs (zlook tX6_keep) cut gX6_keep n = gX6_keep := mgs_mev (ctab ctX6_keep) cut n
def nX6_keep : List Nat := [0, 11, 35, 58, 70, 73]
set_option maxRecDepth 100000 in
theorem eX6_keep_0 (M : MM) (x1 : Int32) (x2 : Int32) (x3 : Int32) : gX6_keep 0 [some (.inr (some 4)), some (.inl x1), some (.inl x2), some (.inl x3), none] [] M = (mX1_keepValue [.inr (some 1), .inl x1, .inl x2, .inl x3] M).bind (fun r => gX6_keep 11 [some (.inr (some 4)), some (.inl x1), some (.inl x2), some (.inl x3), none] (r.1.toList ++ [.inr (some 4)]) r.2) := by
  have h : ∀ k : KT, mgs (zlook tX6_keep) nX6_keep k 7 0 [some (.inr (some 4)), some (.inl x1), some (.inl x2), some (.inl x3), none] [] M = (mX1_keepValue [.inr (some 1), .inl x1, .inl x2, .inl x3] M).bind (fun r => k 11 [some (.inr (some 4)), some (.inl x1), some (.inl x2), some (.inl x3), none] (r.1.toList ++ [.inr (some 4)]) r.2) := fun k => rfl
  have h := h gX6_keep
  rw [mgs_gX6_keep] at h
  exact h
set_option maxRecDepth 100000 in
theorem eX6_keep_11 (M : MM) (x1 : Int32) (x2 : Int32) (x3 : Int32) (xs0 : Int32) : gX6_keep 11 [some (.inr (some 4)), some (.inl x1), some (.inl x2), some (.inl x3), none] [.inl xs0, .inr (some 4)] M = (mX1_slotAt [.inr (some 1), .inl ((st2 (st2 (st2 M 4 7 xs0) 4 4 x1) 4 6 (0 : Int32)) 4 3)] (st2 (st2 (st2 M 4 7 xs0) 4 4 x1) 4 6 (0 : Int32))).bind (fun r => gX6_keep 35 [some (.inr (some 4)), some (.inl x1), some (.inl x2), some (.inl x3), none] (r.1.toList ++ []) r.2) := by
  have h : ∀ k : KT, mgs (zlook tX6_keep) nX6_keep k 12 11 [some (.inr (some 4)), some (.inl x1), some (.inl x2), some (.inl x3), none] [.inl xs0, .inr (some 4)] M = (mX1_slotAt [.inr (some 1), .inl ((st2 (st2 (st2 M 4 7 xs0) 4 4 x1) 4 6 (0 : Int32)) 4 3)] (st2 (st2 (st2 M 4 7 xs0) 4 4 x1) 4 6 (0 : Int32))).bind (fun r => k 35 [some (.inr (some 4)), some (.inl x1), some (.inl x2), some (.inl x3), none] (r.1.toList ++ []) r.2) := fun k => rfl
  have h := h gX6_keep
  rw [mgs_gX6_keep] at h
  exact h
set_option maxRecDepth 100000 in
theorem eX6_keep_35 (M : MM) (x1 : Int32) (x2 : Int32) (x3 : Int32) (rs0 : Option Nat) : gX6_keep 35 [some (.inr (some 4)), some (.inl x1), some (.inl x2), some (.inl x3), none] [.inr rs0] M = (match rs0 with | some _q1 => (if x1 = (M 4 3) then gX6_keep 58 [some (.inr (some 4)), some (.inl x1), some (.inl x2), some (.inl x3), some (.inr rs0)] [] M else (match rs0 with | some q2 => (if zkd q2 = 5 then (if (M q2 8) = 0 then gX6_keep 58 [some (.inr (some 4)), some (.inl x1), some (.inl x2), some (.inl x3), some (.inr rs0)] [] M else gX6_keep 73 [some (.inr (some 4)), some (.inl x1), some (.inl x2), some (.inl x3), some (.inr rs0)] [] M) else none) | none => none)) | none => gX6_keep 73 [some (.inr (some 4)), some (.inl x1), some (.inl x2), some (.inl x3), some (.inr rs0)] [] M) := by
  have h : ∀ k : KT, mgs (zlook tX6_keep) nX6_keep k 10 35 [some (.inr (some 4)), some (.inl x1), some (.inl x2), some (.inl x3), none] [.inr rs0] M = (match rs0 with | some _q1 => (if x1 = (M 4 3) then k 58 [some (.inr (some 4)), some (.inl x1), some (.inl x2), some (.inl x3), some (.inr rs0)] [] M else (match rs0 with | some q2 => (if zkd q2 = 5 then (if (M q2 8) = 0 then k 58 [some (.inr (some 4)), some (.inl x1), some (.inl x2), some (.inl x3), some (.inr rs0)] [] M else k 73 [some (.inr (some 4)), some (.inl x1), some (.inl x2), some (.inl x3), some (.inr rs0)] [] M) else none) | none => none)) | none => k 73 [some (.inr (some 4)), some (.inl x1), some (.inl x2), some (.inl x3), some (.inr rs0)] [] M) := by intro k; cases rs0 <;> rfl
  have h := h gX6_keep
  rw [mgs_gX6_keep] at h
  exact h
set_option maxRecDepth 100000 in
theorem eX6_keep_58 (M : MM) (x1 : Int32) (x2 : Int32) (x3 : Int32) (r4 : Option Nat) : gX6_keep 58 [some (.inr (some 4)), some (.inl x1), some (.inl x2), some (.inl x3), some (.inr r4)] [] M = (mX1_nextBehind [.inr (some 1), .inl (M 4 3)] M).bind (fun r => gX6_keep 70 [some (.inr (some 4)), some (.inl x1), some (.inl x2), some (.inl x3), some (.inr r4)] (r.1.toList ++ [.inr (some 4)]) r.2) := by
  have h : ∀ k : KT, mgs (zlook tX6_keep) nX6_keep k 6 58 [some (.inr (some 4)), some (.inl x1), some (.inl x2), some (.inl x3), some (.inr r4)] [] M = (mX1_nextBehind [.inr (some 1), .inl (M 4 3)] M).bind (fun r => k 70 [some (.inr (some 4)), some (.inl x1), some (.inl x2), some (.inl x3), some (.inr r4)] (r.1.toList ++ [.inr (some 4)]) r.2) := fun k => rfl
  have h := h gX6_keep
  rw [mgs_gX6_keep] at h
  exact h
set_option maxRecDepth 100000 in
theorem eX6_keep_70 (M : MM) (x1 : Int32) (x2 : Int32) (x3 : Int32) (r4 : Option Nat) (xs0 : Int32) : gX6_keep 70 [some (.inr (some 4)), some (.inl x1), some (.inl x2), some (.inl x3), some (.inr r4)] [.inl xs0, .inr (some 4)] M = (mX6_come [.inr (some 4), .inl xs0] M).bind (fun r => gX6_keep 73 [some (.inr (some 4)), some (.inl x1), some (.inl x2), some (.inl x3), some (.inr r4)] (r.1.toList ++ []) r.2) := by
  have h : ∀ k : KT, mgs (zlook tX6_keep) nX6_keep k 1 70 [some (.inr (some 4)), some (.inl x1), some (.inl x2), some (.inl x3), some (.inr r4)] [.inl xs0, .inr (some 4)] M = (mX6_come [.inr (some 4), .inl xs0] M).bind (fun r => k 73 [some (.inr (some 4)), some (.inl x1), some (.inl x2), some (.inl x3), some (.inr r4)] (r.1.toList ++ []) r.2) := fun k => rfl
  have h := h gX6_keep
  rw [mgs_gX6_keep] at h
  exact h
set_option maxRecDepth 100000 in
theorem eX6_keep_73 (M : MM) (x1 : Int32) (x2 : Int32) (x3 : Int32) (r4 : Option Nat) : gX6_keep 73 [some (.inr (some 4)), some (.inl x1), some (.inl x2), some (.inl x3), some (.inr r4)] [] M = some ((some (.inl (4 : Int32))), M) := by
  have h : ∀ k : KT, mgs (zlook tX6_keep) nX6_keep k 2 73 [some (.inr (some 4)), some (.inl x1), some (.inl x2), some (.inl x3), some (.inr r4)] [] M = some ((some (.inl (4 : Int32))), M) := fun k => rfl
  have h := h gX6_keep
  rw [mgs_gX6_keep] at h
  exact h
theorem iX6_keep (M : MM) (x1 : Int32) (x2 : Int32) (x3 : Int32) : mX6_keep [.inr (some 4), .inl x1, .inl x2, .inl x3] M = gX6_keep 0 [some (.inr (some 4)), some (.inl x1), some (.inl x2), some (.inl x3), none] [] M := rfl
noncomputable def gX6_takeAnswer : KT := mev (zlook tX6_takeAnswer)
theorem ctX6_takeAnswer : ∀ q ∈ tX6_takeAnswer, Cont q.2 := by
  refine ccons (cont_aload _ _) ?_
  refine ccons (cont_getR _ _ _) ?_
  refine ccons (cont_iload _ _) ?_
  refine ccons (cont_callV _ _ _ _) ?_
  refine ccons (cont_astore _ _) ?_
  refine ccons (cont_aload _ _) ?_
  refine ccons (cont_null _ _) ?_
  refine ccons (cont_aload _ _) ?_
  refine ccons (cont_callV _ _ _ _) ?_
  refine ccons (cont_if_ne _ _) ?_
  refine ccons (cont_aload _ _) ?_
  refine ccons (cont_iload _ _) ?_
  refine ccons (cont_iload _ _) ?_
  refine ccons (cont_push _ _) ?_
  refine ccons (cont_callV _ _ _ _) ?_
  refine ccons (cont_iret) ?_
  refine ccons (cont_aload _ _) ?_
  refine ccons (cont_push _ _) ?_
  refine ccons (cont_put _ _ _) ?_
  refine ccons (cont_aload _ _) ?_
  refine ccons (cont_iload _ _) ?_
  refine ccons (cont_put _ _ _) ?_
  refine ccons (cont_aload _ _) ?_
  refine ccons (cont_iload _ _) ?_
  refine ccons (cont_put _ _ _) ?_
  refine ccons (cont_push _ _) ?_
  refine ccons (cont_iret) ?_
  exact cnil
theorem mgs_gX6_takeAnswer (cut : List Nat) (n : Nat) : mgs (zlook tX6_takeAnswer) cut gX6_takeAnswer n = gX6_takeAnswer := mgs_mev (ctab ctX6_takeAnswer) cut n
def nX6_takeAnswer : List Nat := [0, 8, 17, 27]
set_option maxRecDepth 100000 in
theorem eX6_takeAnswer_0 (M : MM) (x1 : Int32) (x2 : Int32) : gX6_takeAnswer 0 [some (.inr (some 4)), some (.inl x1), some (.inl x2), none] [] M = (mX1_slotAt [.inr (some 1), .inl x1] M).bind (fun r => gX6_takeAnswer 8 [some (.inr (some 4)), some (.inl x1), some (.inl x2), none] (r.1.toList ++ []) r.2) := by
  have h : ∀ k : KT, mgs (zlook tX6_takeAnswer) nX6_takeAnswer k 4 0 [some (.inr (some 4)), some (.inl x1), some (.inl x2), none] [] M = (mX1_slotAt [.inr (some 1), .inl x1] M).bind (fun r => k 8 [some (.inr (some 4)), some (.inl x1), some (.inl x2), none] (r.1.toList ++ []) r.2) := fun k => rfl
  have h := h gX6_takeAnswer
  rw [mgs_gX6_takeAnswer] at h
  exact h
set_option maxRecDepth 100000 in
theorem eX6_takeAnswer_8 (M : MM) (x1 : Int32) (x2 : Int32) (rs0 : Option Nat) : gX6_takeAnswer 8 [some (.inr (some 4)), some (.inl x1), some (.inl x2), none] [.inr rs0] M = (match rs0 with | some _q1 => (match rs0 with | some q2 => (if zkd q2 = 5 then (mX5_isReadBack [.inr (some q2)] M).bind (fun r => gX6_takeAnswer 17 [some (.inr (some 4)), some (.inl x1), some (.inl x2), some (.inr rs0)] (r.1.toList ++ []) r.2) else none) | none => none) | none => (mX6_keep [.inr (some 4), .inl x1, .inl x2, .inl (0 : Int32)] M).bind (fun r => gX6_takeAnswer 27 [some (.inr (some 4)), some (.inl x1), some (.inl x2), some (.inr rs0)] (r.1.toList ++ []) r.2)) := by
  have h : ∀ k : KT, mgs (zlook tX6_takeAnswer) nX6_takeAnswer k 8 8 [some (.inr (some 4)), some (.inl x1), some (.inl x2), none] [.inr rs0] M = (match rs0 with | some _q1 => (match rs0 with | some q2 => (if zkd q2 = 5 then (mX5_isReadBack [.inr (some q2)] M).bind (fun r => k 17 [some (.inr (some 4)), some (.inl x1), some (.inl x2), some (.inr rs0)] (r.1.toList ++ []) r.2) else none) | none => none) | none => (mX6_keep [.inr (some 4), .inl x1, .inl x2, .inl (0 : Int32)] M).bind (fun r => k 27 [some (.inr (some 4)), some (.inl x1), some (.inl x2), some (.inr rs0)] (r.1.toList ++ []) r.2)) := by intro k; cases rs0 <;> rfl
  have h := h gX6_takeAnswer
  rw [mgs_gX6_takeAnswer] at h
  exact h
set_option maxRecDepth 100000 in
theorem eX6_takeAnswer_17 (M : MM) (x1 : Int32) (x2 : Int32) (r3 : Option Nat) (xs0 : Int32) : gX6_takeAnswer 17 [some (.inr (some 4)), some (.inl x1), some (.inl x2), some (.inr r3)] [.inl xs0] M = (if xs0 = 0 then (mX6_keep [.inr (some 4), .inl x1, .inl x2, .inl (0 : Int32)] M).bind (fun r => gX6_takeAnswer 27 [some (.inr (some 4)), some (.inl x1), some (.inl x2), some (.inr r3)] (r.1.toList ++ []) r.2) else some ((some (.inl (3 : Int32))), (st2 (st2 (st2 M 4 8 (1 : Int32)) 4 9 x1) 4 10 x2))) := by
  have h : ∀ k : KT, mgs (zlook tX6_takeAnswer) nX6_takeAnswer k 12 17 [some (.inr (some 4)), some (.inl x1), some (.inl x2), some (.inr r3)] [.inl xs0] M = (if xs0 = 0 then (mX6_keep [.inr (some 4), .inl x1, .inl x2, .inl (0 : Int32)] M).bind (fun r => k 27 [some (.inr (some 4)), some (.inl x1), some (.inl x2), some (.inr r3)] (r.1.toList ++ []) r.2) else some ((some (.inl (3 : Int32))), (st2 (st2 (st2 M 4 8 (1 : Int32)) 4 9 x1) 4 10 x2))) := fun k => rfl
  have h := h gX6_takeAnswer
  rw [mgs_gX6_takeAnswer] at h
  exact h
set_option maxRecDepth 100000 in
theorem eX6_takeAnswer_27 (M : MM) (x1 : Int32) (x2 : Int32) (r3 : Option Nat) (xs0 : Int32) : gX6_takeAnswer 27 [some (.inr (some 4)), some (.inl x1), some (.inl x2), some (.inr r3)] [.inl xs0] M = some ((some (.inl xs0)), M) := by
  have h : ∀ k : KT, mgs (zlook tX6_takeAnswer) nX6_takeAnswer k 1 27 [some (.inr (some 4)), some (.inl x1), some (.inl x2), some (.inr r3)] [.inl xs0] M = some ((some (.inl xs0)), M) := fun k => rfl
  have h := h gX6_takeAnswer
  rw [mgs_gX6_takeAnswer] at h
  exact h
theorem iX6_takeAnswer (M : MM) (x1 : Int32) (x2 : Int32) : mX6_takeAnswer [.inr (some 4), .inl x1, .inl x2] M = gX6_takeAnswer 0 [some (.inr (some 4)), some (.inl x1), some (.inl x2), none] [] M := rfl
noncomputable def gX6_goBack : KT := mev (zlook tX6_goBack)
theorem ctX6_goBack : ∀ q ∈ tX6_goBack, Cont q.2 := by
  refine ccons (cont_push _ _) ?_
  refine ccons (cont_istore _ _) ?_
  refine ccons (cont_iload _ _) ?_
  refine ccons (cont_push _ _) ?_
  refine ccons (cont_c_ge _ _) ?_
  refine ccons (cont_aload _ _) ?_
  refine ccons (cont_getR _ _ _) ?_
  refine ccons (cont_callV _ _ _ _) ?_
  refine ccons (cont_istore _ _) ?_
  refine ccons (cont_aload _ _) ?_
  refine ccons (cont_getR _ _ _) ?_
  refine ccons (cont_iload _ _) ?_
  refine ccons (cont_callV _ _ _ _) ?_
  refine ccons (cont_astore _ _) ?_
  refine ccons (cont_aload _ _) ?_
  refine ccons (cont_null _ _) ?_
  refine ccons (cont_aload _ _) ?_
  refine ccons (cont_getI _ _ _) ?_
  refine ccons (cont_if_eq _ _) ?_
  refine ccons (cont_aload _ _) ?_
  refine ccons (cont_iload _ _) ?_
  refine ccons (cont_put _ _ _) ?_
  refine ccons (cont_push _ _) ?_
  refine ccons (cont_iret) ?_
  refine ccons (cont_iinc _ _ _) ?_
  refine ccons (cont_goto _) ?_
  refine ccons (cont_push _ _) ?_
  refine ccons (cont_iret) ?_
  exact cnil
theorem mgs_gX6_goBack (cut : List Nat) (n : Nat) : mgs (zlook tX6_goBack) cut gX6_goBack n = gX6_goBack := mgs_mev (ctab ctX6_goBack) cut n
def nX6_goBack : List Nat := [0, 2, 15, 24]
set_option maxRecDepth 100000 in
theorem eX6_goBack_0 (M : MM) : gX6_goBack 0 [some (.inr (some 4)), none, none, none] [] M = gX6_goBack 2 [some (.inr (some 4)), some (.inl (0 : Int32)), none, none] [] M := by
  have h : ∀ k : KT, mgs (zlook tX6_goBack) nX6_goBack k 2 0 [some (.inr (some 4)), none, none, none] [] M = k 2 [some (.inr (some 4)), some (.inl (0 : Int32)), none, none] [] M := fun k => rfl
  have h := h gX6_goBack
  rw [mgs_gX6_goBack] at h
  exact h
set_option maxRecDepth 100000 in
theorem eX6_goBack_2 (M : MM) (x1 : Int32) (d2 : Option AV) (d3 : Option AV) : gX6_goBack 2 [some (.inr (some 4)), some (.inl x1), d2, d3] [] M = (if (20 : Int32) ≤ x1 then some ((some (.inl (6 : Int32))), M) else (mX3_pop [.inr (some 14)] M).bind (fun r => gX6_goBack 15 [some (.inr (some 4)), some (.inl x1), d2, d3] (r.1.toList ++ []) r.2)) := by
  have h : ∀ k : KT, mgs (zlook tX6_goBack) nX6_goBack k 6 2 [some (.inr (some 4)), some (.inl x1), d2, d3] [] M = (if (20 : Int32) ≤ x1 then some ((some (.inl (6 : Int32))), M) else (mX3_pop [.inr (some 14)] M).bind (fun r => k 15 [some (.inr (some 4)), some (.inl x1), d2, d3] (r.1.toList ++ []) r.2)) := fun k => rfl
  have h := h gX6_goBack
  rw [mgs_gX6_goBack] at h
  exact h
set_option maxRecDepth 100000 in
theorem eX6_goBack_15 (M : MM) (x1 : Int32) (d2 : Option AV) (d3 : Option AV) (xs0 : Int32) : gX6_goBack 15 [some (.inr (some 4)), some (.inl x1), d2, d3] [.inl xs0] M = (mX1_slotAt [.inr (some 1), .inl xs0] M).bind (fun r => gX6_goBack 24 [some (.inr (some 4)), some (.inl x1), some (.inl xs0), d3] (r.1.toList ++ []) r.2) := by
  have h : ∀ k : KT, mgs (zlook tX6_goBack) nX6_goBack k 5 15 [some (.inr (some 4)), some (.inl x1), d2, d3] [.inl xs0] M = (mX1_slotAt [.inr (some 1), .inl xs0] M).bind (fun r => k 24 [some (.inr (some 4)), some (.inl x1), some (.inl xs0), d3] (r.1.toList ++ []) r.2) := fun k => rfl
  have h := h gX6_goBack
  rw [mgs_gX6_goBack] at h
  exact h
set_option maxRecDepth 100000 in
theorem eX6_goBack_24 (M : MM) (x1 : Int32) (x2 : Int32) (d3 : Option AV) (rs0 : Option Nat) : gX6_goBack 24 [some (.inr (some 4)), some (.inl x1), some (.inl x2), d3] [.inr rs0] M = (match rs0 with | some _q1 => (match rs0 with | some q2 => (if zkd q2 = 5 then (if (M q2 8) = 0 then gX6_goBack 2 [some (.inr (some 4)), some (.inl (x1 + (1 : Int32))), some (.inl x2), some (.inr rs0)] [] M else some ((some (.inl (5 : Int32))), (st2 M 4 3 x2))) else none) | none => none) | none => gX6_goBack 2 [some (.inr (some 4)), some (.inl (x1 + (1 : Int32))), some (.inl x2), some (.inr rs0)] [] M) := by
  have h : ∀ k : KT, mgs (zlook tX6_goBack) nX6_goBack k 11 24 [some (.inr (some 4)), some (.inl x1), some (.inl x2), d3] [.inr rs0] M = (match rs0 with | some _q1 => (match rs0 with | some q2 => (if zkd q2 = 5 then (if (M q2 8) = 0 then k 2 [some (.inr (some 4)), some (.inl (x1 + (1 : Int32))), some (.inl x2), some (.inr rs0)] [] M else some ((some (.inl (5 : Int32))), (st2 M 4 3 x2))) else none) | none => none) | none => k 2 [some (.inr (some 4)), some (.inl (x1 + (1 : Int32))), some (.inl x2), some (.inr rs0)] [] M) := by intro k; cases rs0 <;> rfl
  have h := h gX6_goBack
  rw [mgs_gX6_goBack] at h
  exact h
theorem iX6_goBack (M : MM) : mX6_goBack [.inr (some 4)] M = gX6_goBack 0 [some (.inr (some 4)), none, none, none] [] M := rfl
noncomputable def gX6_skip : KT := mev (zlook tX6_skip)
theorem ctX6_skip : ∀ q ∈ tX6_skip, Cont q.2 := by
  refine ccons (cont_aload _ _) ?_
  refine ccons (cont_getR _ _ _) ?_
  refine ccons (cont_aload _ _) ?_
  refine ccons (cont_getI _ _ _) ?_
  refine ccons (cont_callV _ _ _ _) ?_
  refine ccons (cont_astore _ _) ?_
  refine ccons (cont_aload _ _) ?_
  refine ccons (cont_nonnull _ _) ?_
  refine ccons (cont_push _ _) ?_
  refine ccons (cont_iret) ?_
  refine ccons (cont_aload _ _) ?_
  refine ccons (cont_push _ _) ?_
  refine ccons (cont_putZ _ _ _) ?_
  refine ccons (cont_aload _ _) ?_
  refine ccons (cont_aload _ _) ?_
  refine ccons (cont_getR _ _ _) ?_
  refine ccons (cont_aload _ _) ?_
  refine ccons (cont_getI _ _ _) ?_
  refine ccons (cont_callV _ _ _ _) ?_
  refine ccons (cont_callV _ _ _ _) ?_
  refine ccons (cont_push _ _) ?_
  refine ccons (cont_iret) ?_
  exact cnil
theorem mgs_gX6_skip (cut : List Nat) (n : Nat) : mgs (zlook tX6_skip) cut gX6_skip n = gX6_skip := mgs_mev (ctab ctX6_skip) cut n
def nX6_skip : List Nat := [0, 11, 36, 39]
set_option maxRecDepth 100000 in
theorem eX6_skip_0 (M : MM) : gX6_skip 0 [some (.inr (some 4)), none] [] M = (mX1_slotAt [.inr (some 1), .inl (M 4 3)] M).bind (fun r => gX6_skip 11 [some (.inr (some 4)), none] (r.1.toList ++ []) r.2) := by
  have h : ∀ k : KT, mgs (zlook tX6_skip) nX6_skip k 5 0 [some (.inr (some 4)), none] [] M = (mX1_slotAt [.inr (some 1), .inl (M 4 3)] M).bind (fun r => k 11 [some (.inr (some 4)), none] (r.1.toList ++ []) r.2) := fun k => rfl
  have h := h gX6_skip
  rw [mgs_gX6_skip] at h
  exact h
set_option maxRecDepth 100000 in
theorem eX6_skip_11 (M : MM) (rs0 : Option Nat) : gX6_skip 11 [some (.inr (some 4)), none] [.inr rs0] M = (match rs0 with | some _q1 => (match rs0 with | some q2 => (if zkd q2 = 5 then (mX1_nextBehind [.inr (some 1), .inl ((st2 M q2 12 (1 : Int32)) 4 3)] (st2 M q2 12 (1 : Int32))).bind (fun r => gX6_skip 36 [some (.inr (some 4)), some (.inr rs0)] (r.1.toList ++ [.inr (some 4)]) r.2) else none) | none => none) | none => some ((some (.inl (6 : Int32))), M)) := by
  have h : ∀ k : KT, mgs (zlook tX6_skip) nX6_skip k 12 11 [some (.inr (some 4)), none] [.inr rs0] M = (match rs0 with | some _q1 => (match rs0 with | some q2 => (if zkd q2 = 5 then (mX1_nextBehind [.inr (some 1), .inl ((st2 M q2 12 (1 : Int32)) 4 3)] (st2 M q2 12 (1 : Int32))).bind (fun r => k 36 [some (.inr (some 4)), some (.inr rs0)] (r.1.toList ++ [.inr (some 4)]) r.2) else none) | none => none) | none => some ((some (.inl (6 : Int32))), M)) := by intro k; cases rs0 <;> rfl
  have h := h gX6_skip
  rw [mgs_gX6_skip] at h
  exact h
set_option maxRecDepth 100000 in
theorem eX6_skip_36 (M : MM) (r1 : Option Nat) (xs0 : Int32) : gX6_skip 36 [some (.inr (some 4)), some (.inr r1)] [.inl xs0, .inr (some 4)] M = (mX6_come [.inr (some 4), .inl xs0] M).bind (fun r => gX6_skip 39 [some (.inr (some 4)), some (.inr r1)] (r.1.toList ++ []) r.2) := by
  have h : ∀ k : KT, mgs (zlook tX6_skip) nX6_skip k 1 36 [some (.inr (some 4)), some (.inr r1)] [.inl xs0, .inr (some 4)] M = (mX6_come [.inr (some 4), .inl xs0] M).bind (fun r => k 39 [some (.inr (some 4)), some (.inr r1)] (r.1.toList ++ []) r.2) := fun k => rfl
  have h := h gX6_skip
  rw [mgs_gX6_skip] at h
  exact h
set_option maxRecDepth 100000 in
theorem eX6_skip_39 (M : MM) (r1 : Option Nat) : gX6_skip 39 [some (.inr (some 4)), some (.inr r1)] [] M = some ((some (.inl (5 : Int32))), M) := by
  have h : ∀ k : KT, mgs (zlook tX6_skip) nX6_skip k 2 39 [some (.inr (some 4)), some (.inr r1)] [] M = some ((some (.inl (5 : Int32))), M) := fun k => rfl
  have h := h gX6_skip
  rw [mgs_gX6_skip] at h
  exact h
theorem iX6_skip (M : MM) : mX6_skip [.inr (some 4)] M = gX6_skip 0 [some (.inr (some 4)), none] [] M := rfl
noncomputable def gX6_goTo : KT := mev (zlook tX6_goTo)
theorem ctX6_goTo : ∀ q ∈ tX6_goTo, Cont q.2 := by
  refine ccons (cont_aload _ _) ?_
  refine ccons (cont_getR _ _ _) ?_
  refine ccons (cont_iload _ _) ?_
  refine ccons (cont_callV _ _ _ _) ?_
  refine ccons (cont_astore _ _) ?_
  refine ccons (cont_aload _ _) ?_
  refine ccons (cont_null _ _) ?_
  refine ccons (cont_aload _ _) ?_
  refine ccons (cont_getI _ _ _) ?_
  refine ccons (cont_if_ne _ _) ?_
  refine ccons (cont_push _ _) ?_
  refine ccons (cont_iret) ?_
  refine ccons (cont_aload _ _) ?_
  refine ccons (cont_push _ _) ?_
  refine ccons (cont_putZ _ _ _) ?_
  refine ccons (cont_aload _ _) ?_
  refine ccons (cont_iload _ _) ?_
  refine ccons (cont_callV _ _ _ _) ?_
  refine ccons (cont_push _ _) ?_
  refine ccons (cont_iret) ?_
  exact cnil
theorem mgs_gX6_goTo (cut : List Nat) (n : Nat) : mgs (zlook tX6_goTo) cut gX6_goTo n = gX6_goTo := mgs_mev (ctab ctX6_goTo) cut n
def nX6_goTo : List Nat := [0, 8, 33]
set_option maxRecDepth 100000 in
theorem eX6_goTo_0 (M : MM) (x1 : Int32) : gX6_goTo 0 [some (.inr (some 4)), some (.inl x1), none] [] M = (mX1_slotAt [.inr (some 1), .inl x1] M).bind (fun r => gX6_goTo 8 [some (.inr (some 4)), some (.inl x1), none] (r.1.toList ++ []) r.2) := by
  have h : ∀ k : KT, mgs (zlook tX6_goTo) nX6_goTo k 4 0 [some (.inr (some 4)), some (.inl x1), none] [] M = (mX1_slotAt [.inr (some 1), .inl x1] M).bind (fun r => k 8 [some (.inr (some 4)), some (.inl x1), none] (r.1.toList ++ []) r.2) := fun k => rfl
  have h := h gX6_goTo
  rw [mgs_gX6_goTo] at h
  exact h
set_option maxRecDepth 100000 in
theorem eX6_goTo_8 (M : MM) (x1 : Int32) (rs0 : Option Nat) : gX6_goTo 8 [some (.inr (some 4)), some (.inl x1), none] [.inr rs0] M = (match rs0 with | some _q1 => (match rs0 with | some q2 => (if zkd q2 = 5 then (if (M q2 8) = 0 then some ((some (.inl (6 : Int32))), M) else (match rs0 with | some q3 => (if zkd q3 = 5 then (mX6_come [.inr (some 4), .inl x1] (st2 M q3 12 (0 : Int32))).bind (fun r => gX6_goTo 33 [some (.inr (some 4)), some (.inl x1), some (.inr rs0)] (r.1.toList ++ []) r.2) else none) | none => none)) else none) | none => none) | none => some ((some (.inl (6 : Int32))), M)) := by
  have h : ∀ k : KT, mgs (zlook tX6_goTo) nX6_goTo k 12 8 [some (.inr (some 4)), some (.inl x1), none] [.inr rs0] M = (match rs0 with | some _q1 => (match rs0 with | some q2 => (if zkd q2 = 5 then (if (M q2 8) = 0 then some ((some (.inl (6 : Int32))), M) else (match rs0 with | some q3 => (if zkd q3 = 5 then (mX6_come [.inr (some 4), .inl x1] (st2 M q3 12 (0 : Int32))).bind (fun r => k 33 [some (.inr (some 4)), some (.inl x1), some (.inr rs0)] (r.1.toList ++ []) r.2) else none) | none => none)) else none) | none => none) | none => some ((some (.inl (6 : Int32))), M)) := by intro k; cases rs0 <;> rfl
  have h := h gX6_goTo
  rw [mgs_gX6_goTo] at h
  exact h
set_option maxRecDepth 100000 in
theorem eX6_goTo_33 (M : MM) (x1 : Int32) (r2 : Option Nat) : gX6_goTo 33 [some (.inr (some 4)), some (.inl x1), some (.inr r2)] [] M = some ((some (.inl (5 : Int32))), M) := by
  have h : ∀ k : KT, mgs (zlook tX6_goTo) nX6_goTo k 2 33 [some (.inr (some 4)), some (.inl x1), some (.inr r2)] [] M = some ((some (.inl (5 : Int32))), M) := fun k => rfl
  have h := h gX6_goTo
  rw [mgs_gX6_goTo] at h
  exact h
theorem iX6_goTo (M : MM) (x1 : Int32) : mX6_goTo [.inr (some 4), .inl x1] M = gX6_goTo 0 [some (.inr (some 4)), some (.inl x1), none] [] M := rfl
noncomputable def gX6_take : KT := mev (zlook tX6_take)
theorem ctX6_take : ∀ q ∈ tX6_take, Cont q.2 := by
  refine ccons (cont_iload _ _) ?_
  refine ccons (cont_callS _ _ _) ?_
  refine ccons (cont_istore _ _) ?_
  refine ccons (cont_iload _ _) ?_
  refine ccons (cont_callS _ _ _) ?_
  refine ccons (cont_switch _ _) ?_
  refine ccons (cont_aload _ _) ?_
  refine ccons (cont_aload _ _) ?_
  refine ccons (cont_getI _ _ _) ?_
  refine ccons (cont_iload _ _) ?_
  refine ccons (cont_callV _ _ _ _) ?_
  refine ccons (cont_iret) ?_
  refine ccons (cont_aload _ _) ?_
  refine ccons (cont_callV _ _ _ _) ?_
  refine ccons (cont_iret) ?_
  refine ccons (cont_aload _ _) ?_
  refine ccons (cont_callV _ _ _ _) ?_
  refine ccons (cont_iret) ?_
  refine ccons (cont_push _ _) ?_
  refine ccons (cont_iret) ?_
  refine ccons (cont_aload _ _) ?_
  refine ccons (cont_push _ _) ?_
  refine ccons (cont_putZ _ _ _) ?_
  refine ccons (cont_push _ _) ?_
  refine ccons (cont_iret) ?_
  refine ccons (cont_aload _ _) ?_
  refine ccons (cont_iload _ _) ?_
  refine ccons (cont_callV _ _ _ _) ?_
  refine ccons (cont_iret) ?_
  refine ccons (cont_aload _ _) ?_
  refine ccons (cont_aload _ _) ?_
  refine ccons (cont_getI _ _ _) ?_
  refine ccons (cont_iload _ _) ?_
  refine ccons (cont_callV _ _ _ _) ?_
  refine ccons (cont_iret) ?_
  refine ccons (cont_push _ _) ?_
  refine ccons (cont_iret) ?_
  exact cnil
theorem mgs_gX6_take (cut : List Nat) (n : Nat) : mgs (zlook tX6_take) cut gX6_take n = gX6_take := mgs_mev (ctab ctX6_take) cut n
def nX6_take : List Nat := [0, 4, 9, 69, 74, 79, 94, 104]
set_option maxRecDepth 100000 in
theorem eX6_take_0 (M : MM) (x1 : Int32) : gX6_take 0 [some (.inr (some 4)), some (.inl x1), none] [] M = (mX4_valueOf [.inl x1] M).bind (fun r => gX6_take 4 [some (.inr (some 4)), some (.inl x1), none] (r.1.toList ++ []) r.2) := by
  have h : ∀ k : KT, mgs (zlook tX6_take) nX6_take k 2 0 [some (.inr (some 4)), some (.inl x1), none] [] M = (mX4_valueOf [.inl x1] M).bind (fun r => k 4 [some (.inr (some 4)), some (.inl x1), none] (r.1.toList ++ []) r.2) := fun k => rfl
  have h := h gX6_take
  rw [mgs_gX6_take] at h
  exact h
set_option maxRecDepth 100000 in
theorem eX6_take_4 (M : MM) (x1 : Int32) (xs0 : Int32) : gX6_take 4 [some (.inr (some 4)), some (.inl x1), none] [.inl xs0] M = (mX4_sortOf [.inl x1] M).bind (fun r => gX6_take 9 [some (.inr (some 4)), some (.inl x1), some (.inl xs0)] (r.1.toList ++ []) r.2) := by
  have h : ∀ k : KT, mgs (zlook tX6_take) nX6_take k 3 4 [some (.inr (some 4)), some (.inl x1), none] [.inl xs0] M = (mX4_sortOf [.inl x1] M).bind (fun r => k 9 [some (.inr (some 4)), some (.inl x1), some (.inl xs0)] (r.1.toList ++ []) r.2) := fun k => rfl
  have h := h gX6_take
  rw [mgs_gX6_take] at h
  exact h
set_option maxRecDepth 100000 in
theorem eX6_take_9 (M : MM) (x1 : Int32) (x2 : Int32) (xs0 : Int32) : gX6_take 9 [some (.inr (some 4)), some (.inl x1), some (.inl x2)] [.inl xs0] M = (if xs0 = (0 : Int32) then (mX6_takeAnswer [.inr (some 4), .inl (M 4 3), .inl x2] M).bind (fun r => gX6_take 69 [some (.inr (some 4)), some (.inl x1), some (.inl x2)] (r.1.toList ++ []) r.2) else (if xs0 = (1 : Int32) then (mX6_goBack [.inr (some 4)] M).bind (fun r => gX6_take 74 [some (.inr (some 4)), some (.inl x1), some (.inl x2)] (r.1.toList ++ []) r.2) else (if xs0 = (2 : Int32) then (mX6_skip [.inr (some 4)] M).bind (fun r => gX6_take 79 [some (.inr (some 4)), some (.inl x1), some (.inl x2)] (r.1.toList ++ []) r.2) else (if xs0 = (3 : Int32) then some ((some (.inl (5 : Int32))), M) else (if xs0 = (4 : Int32) then some ((some (.inl (5 : Int32))), (st2 M 4 5 (1 : Int32))) else (if xs0 = (5 : Int32) then some ((some (.inl (6 : Int32))), M) else (if xs0 = (6 : Int32) then some ((some (.inl (6 : Int32))), M) else (if xs0 = (7 : Int32) then (mX6_goTo [.inr (some 4), .inl x2] M).bind (fun r => gX6_take 94 [some (.inr (some 4)), some (.inl x1), some (.inl x2)] (r.1.toList ++ []) r.2) else (if xs0 = (8 : Int32) then (mX6_takeAnswer [.inr (some 4), .inl (M 4 4), .inl x2] M).bind (fun r => gX6_take 104 [some (.inr (some 4)), some (.inl x1), some (.inl x2)] (r.1.toList ++ []) r.2) else some ((some (.inl (6 : Int32))), M)))))))))) := by
  have h : ∀ k : KT, mgs (zlook tX6_take) nX6_take k 6 9 [some (.inr (some 4)), some (.inl x1), some (.inl x2)] [.inl xs0] M = (if xs0 = (0 : Int32) then (mX6_takeAnswer [.inr (some 4), .inl (M 4 3), .inl x2] M).bind (fun r => k 69 [some (.inr (some 4)), some (.inl x1), some (.inl x2)] (r.1.toList ++ []) r.2) else (if xs0 = (1 : Int32) then (mX6_goBack [.inr (some 4)] M).bind (fun r => k 74 [some (.inr (some 4)), some (.inl x1), some (.inl x2)] (r.1.toList ++ []) r.2) else (if xs0 = (2 : Int32) then (mX6_skip [.inr (some 4)] M).bind (fun r => k 79 [some (.inr (some 4)), some (.inl x1), some (.inl x2)] (r.1.toList ++ []) r.2) else (if xs0 = (3 : Int32) then some ((some (.inl (5 : Int32))), M) else (if xs0 = (4 : Int32) then some ((some (.inl (5 : Int32))), (st2 M 4 5 (1 : Int32))) else (if xs0 = (5 : Int32) then some ((some (.inl (6 : Int32))), M) else (if xs0 = (6 : Int32) then some ((some (.inl (6 : Int32))), M) else (if xs0 = (7 : Int32) then (mX6_goTo [.inr (some 4), .inl x2] M).bind (fun r => k 94 [some (.inr (some 4)), some (.inl x1), some (.inl x2)] (r.1.toList ++ []) r.2) else (if xs0 = (8 : Int32) then (mX6_takeAnswer [.inr (some 4), .inl (M 4 4), .inl x2] M).bind (fun r => k 104 [some (.inr (some 4)), some (.inl x1), some (.inl x2)] (r.1.toList ++ []) r.2) else some ((some (.inl (6 : Int32))), M)))))))))) := fun k => rfl
  have h := h gX6_take
  rw [mgs_gX6_take] at h
  exact h
set_option maxRecDepth 100000 in
theorem eX6_take_69 (M : MM) (x1 : Int32) (x2 : Int32) (xs0 : Int32) : gX6_take 69 [some (.inr (some 4)), some (.inl x1), some (.inl x2)] [.inl xs0] M = some ((some (.inl xs0)), M) := by
  have h : ∀ k : KT, mgs (zlook tX6_take) nX6_take k 1 69 [some (.inr (some 4)), some (.inl x1), some (.inl x2)] [.inl xs0] M = some ((some (.inl xs0)), M) := fun k => rfl
  have h := h gX6_take
  rw [mgs_gX6_take] at h
  exact h
set_option maxRecDepth 100000 in
theorem eX6_take_74 (M : MM) (x1 : Int32) (x2 : Int32) (xs0 : Int32) : gX6_take 74 [some (.inr (some 4)), some (.inl x1), some (.inl x2)] [.inl xs0] M = some ((some (.inl xs0)), M) := by
  have h : ∀ k : KT, mgs (zlook tX6_take) nX6_take k 1 74 [some (.inr (some 4)), some (.inl x1), some (.inl x2)] [.inl xs0] M = some ((some (.inl xs0)), M) := fun k => rfl
  have h := h gX6_take
  rw [mgs_gX6_take] at h
  exact h
set_option maxRecDepth 100000 in
theorem eX6_take_79 (M : MM) (x1 : Int32) (x2 : Int32) (xs0 : Int32) : gX6_take 79 [some (.inr (some 4)), some (.inl x1), some (.inl x2)] [.inl xs0] M = some ((some (.inl xs0)), M) := by
  have h : ∀ k : KT, mgs (zlook tX6_take) nX6_take k 1 79 [some (.inr (some 4)), some (.inl x1), some (.inl x2)] [.inl xs0] M = some ((some (.inl xs0)), M) := fun k => rfl
  have h := h gX6_take
  rw [mgs_gX6_take] at h
  exact h
set_option maxRecDepth 100000 in
theorem eX6_take_94 (M : MM) (x1 : Int32) (x2 : Int32) (xs0 : Int32) : gX6_take 94 [some (.inr (some 4)), some (.inl x1), some (.inl x2)] [.inl xs0] M = some ((some (.inl xs0)), M) := by
  have h : ∀ k : KT, mgs (zlook tX6_take) nX6_take k 1 94 [some (.inr (some 4)), some (.inl x1), some (.inl x2)] [.inl xs0] M = some ((some (.inl xs0)), M) := fun k => rfl
  have h := h gX6_take
  rw [mgs_gX6_take] at h
  exact h
set_option maxRecDepth 100000 in
theorem eX6_take_104 (M : MM) (x1 : Int32) (x2 : Int32) (xs0 : Int32) : gX6_take 104 [some (.inr (some 4)), some (.inl x1), some (.inl x2)] [.inl xs0] M = some ((some (.inl xs0)), M) := by
  have h : ∀ k : KT, mgs (zlook tX6_take) nX6_take k 1 104 [some (.inr (some 4)), some (.inl x1), some (.inl x2)] [.inl xs0] M = some ((some (.inl xs0)), M) := fun k => rfl
  have h := h gX6_take
  rw [mgs_gX6_take] at h
  exact h
theorem iX6_take (M : MM) (x1 : Int32) : mX6_take [.inr (some 4), .inl x1] M = gX6_take 0 [some (.inr (some 4)), some (.inl x1), none] [] M := rfl
noncomputable def gX6_hear : KT := mev (zlook tX6_hear)
theorem ctX6_hear : ∀ q ∈ tX6_hear, Cont q.2 := by
  refine ccons (cont_aload _ _) ?_
  refine ccons (cont_getI _ _ _) ?_
  refine ccons (cont_istore _ _) ?_
  refine ccons (cont_aload _ _) ?_
  refine ccons (cont_push _ _) ?_
  refine ccons (cont_put _ _ _) ?_
  refine ccons (cont_aload _ _) ?_
  refine ccons (cont_getR _ _ _) ?_
  refine ccons (cont_callV _ _ _ _) ?_
  refine ccons (cont_if_eq _ _) ?_
  refine ccons (cont_aload _ _) ?_
  refine ccons (cont_push _ _) ?_
  refine ccons (cont_put _ _ _) ?_
  refine ccons (cont_aload _ _) ?_
  refine ccons (cont_aload _ _) ?_
  refine ccons (cont_getR _ _ _) ?_
  refine ccons (cont_push _ _) ?_
  refine ccons (cont_callV _ _ _ _) ?_
  refine ccons (cont_put _ _ _) ?_
  refine ccons (cont_aload _ _) ?_
  refine ccons (cont_aload _ _) ?_
  refine ccons (cont_getR _ _ _) ?_
  refine ccons (cont_push _ _) ?_
  refine ccons (cont_callV _ _ _ _) ?_
  refine ccons (cont_put _ _ _) ?_
  refine ccons (cont_push _ _) ?_
  refine ccons (cont_iret) ?_
  refine ccons (cont_aload _ _) ?_
  refine ccons (cont_getR _ _ _) ?_
  refine ccons (cont_push _ _) ?_
  refine ccons (cont_callV _ _ _ _) ?_
  refine ccons (cont_istore _ _) ?_
  refine ccons (cont_iload _ _) ?_
  refine ccons (cont_push _ _) ?_
  refine ccons (cont_c_ne _ _) ?_
  refine ccons (cont_push _ _) ?_
  refine ccons (cont_goto _) ?_
  refine ccons (cont_push _ _) ?_
  refine ccons (cont_istore _ _) ?_
  refine ccons (cont_iload _ _) ?_
  refine ccons (cont_if_eq _ _) ?_
  refine ccons (cont_iload _ _) ?_
  refine ccons (cont_if_ne _ _) ?_
  refine ccons (cont_iload _ _) ?_
  refine ccons (cont_push _ _) ?_
  refine ccons (cont_c_eq _ _) ?_
  refine ccons (cont_aload _ _) ?_
  refine ccons (cont_aload _ _) ?_
  refine ccons (cont_getR _ _ _) ?_
  refine ccons (cont_push _ _) ?_
  refine ccons (cont_callV _ _ _ _) ?_
  refine ccons (cont_callV _ _ _ _) ?_
  refine ccons (cont_iret) ?_
  refine ccons (cont_iload _ _) ?_
  refine ccons (cont_push _ _) ?_
  refine ccons (cont_c_ne _ _) ?_
  refine ccons (cont_aload _ _) ?_
  refine ccons (cont_iload _ _) ?_
  refine ccons (cont_if_eq _ _) ?_
  refine ccons (cont_aload _ _) ?_
  refine ccons (cont_getI _ _ _) ?_
  refine ccons (cont_goto _) ?_
  refine ccons (cont_aload _ _) ?_
  refine ccons (cont_getI _ _ _) ?_
  refine ccons (cont_callV _ _ _ _) ?_
  refine ccons (cont_iret) ?_
  refine ccons (cont_iload _ _) ?_
  refine ccons (cont_if_eq _ _) ?_
  refine ccons (cont_aload _ _) ?_
  refine ccons (cont_aload _ _) ?_
  refine ccons (cont_getI _ _ _) ?_
  refine ccons (cont_aload _ _) ?_
  refine ccons (cont_getI _ _ _) ?_
  refine ccons (cont_push _ _) ?_
  refine ccons (cont_callV _ _ _ _) ?_
  refine ccons (cont_goto _) ?_
  refine ccons (cont_push _ _) ?_
  refine ccons (cont_iret) ?_
  exact cnil
theorem mgs_gX6_hear (cut : List Nat) (n : Nat) : mgs (zlook tX6_hear) cut gX6_hear n = gX6_hear := mgs_mev (ctab ctX6_hear) cut n
def nX6_hear : List Nat := [0, 17, 34, 46, 59, 70, 85, 94, 97, 98, 122, 140]
set_option maxRecDepth 100000 in
theorem eX6_hear_0 (M : MM) : gX6_hear 0 [some (.inr (some 4)), none, none, none] [] M = (mX4_isOtherNear [.inr (some 3)] (st2 M 4 8 (0 : Int32))).bind (fun r => gX6_hear 17 [some (.inr (some 4)), some (.inl (M 4 8)), none, none] (r.1.toList ++ []) r.2) := by
  have h : ∀ k : KT, mgs (zlook tX6_hear) nX6_hear k 9 0 [some (.inr (some 4)), none, none, none] [] M = (mX4_isOtherNear [.inr (some 3)] (st2 M 4 8 (0 : Int32))).bind (fun r => k 17 [some (.inr (some 4)), some (.inl (M 4 8)), none, none] (r.1.toList ++ []) r.2) := fun k => rfl
  have h := h gX6_hear
  rw [mgs_gX6_hear] at h
  exact h
set_option maxRecDepth 100000 in
theorem eX6_hear_17 (M : MM) (x1 : Int32) (xs0 : Int32) : gX6_hear 17 [some (.inr (some 4)), some (.inl x1), none, none] [.inl xs0] M = (if xs0 = 0 then (mX4_sort [.inr (some 3), .inl (0 : Int32)] M).bind (fun r => gX6_hear 59 [some (.inr (some 4)), some (.inl x1), none, none] (r.1.toList ++ []) r.2) else (mX4_key [.inr (some 3), .inl (0 : Int32)] (st2 M 4 8 (2 : Int32))).bind (fun r => gX6_hear 34 [some (.inr (some 4)), some (.inl x1), none, none] (r.1.toList ++ [.inr (some 4)]) r.2)) := by
  have h : ∀ k : KT, mgs (zlook tX6_hear) nX6_hear k 9 17 [some (.inr (some 4)), some (.inl x1), none, none] [.inl xs0] M = (if xs0 = 0 then (mX4_sort [.inr (some 3), .inl (0 : Int32)] M).bind (fun r => k 59 [some (.inr (some 4)), some (.inl x1), none, none] (r.1.toList ++ []) r.2) else (mX4_key [.inr (some 3), .inl (0 : Int32)] (st2 M 4 8 (2 : Int32))).bind (fun r => k 34 [some (.inr (some 4)), some (.inl x1), none, none] (r.1.toList ++ [.inr (some 4)]) r.2)) := fun k => rfl
  have h := h gX6_hear
  rw [mgs_gX6_hear] at h
  exact h
set_option maxRecDepth 100000 in
theorem eX6_hear_34 (M : MM) (x1 : Int32) (xs0 : Int32) : gX6_hear 34 [some (.inr (some 4)), some (.inl x1), none, none] [.inl xs0, .inr (some 4)] M = (mX4_key [.inr (some 3), .inl (1 : Int32)] (st2 M 4 11 xs0)).bind (fun r => gX6_hear 46 [some (.inr (some 4)), some (.inl x1), none, none] (r.1.toList ++ [.inr (some 4)]) r.2) := by
  have h : ∀ k : KT, mgs (zlook tX6_hear) nX6_hear k 6 34 [some (.inr (some 4)), some (.inl x1), none, none] [.inl xs0, .inr (some 4)] M = (mX4_key [.inr (some 3), .inl (1 : Int32)] (st2 M 4 11 xs0)).bind (fun r => k 46 [some (.inr (some 4)), some (.inl x1), none, none] (r.1.toList ++ [.inr (some 4)]) r.2) := fun k => rfl
  have h := h gX6_hear
  rw [mgs_gX6_hear] at h
  exact h
set_option maxRecDepth 100000 in
theorem eX6_hear_46 (M : MM) (x1 : Int32) (xs0 : Int32) : gX6_hear 46 [some (.inr (some 4)), some (.inl x1), none, none] [.inl xs0, .inr (some 4)] M = some ((some (.inl (2 : Int32))), (st2 M 4 12 xs0)) := by
  have h : ∀ k : KT, mgs (zlook tX6_hear) nX6_hear k 3 46 [some (.inr (some 4)), some (.inl x1), none, none] [.inl xs0, .inr (some 4)] M = some ((some (.inl (2 : Int32))), (st2 M 4 12 xs0)) := fun k => rfl
  have h := h gX6_hear
  rw [mgs_gX6_hear] at h
  exact h
set_option maxRecDepth 100000 in
theorem eX6_hear_59 (M : MM) (x1 : Int32) (xs0 : Int32) : gX6_hear 59 [some (.inr (some 4)), some (.inl x1), none, none] [.inl xs0] M = (if xs0 = (5 : Int32) then gX6_hear 70 [some (.inr (some 4)), some (.inl x1), some (.inl xs0), none] [.inl (1 : Int32)] M else gX6_hear 70 [some (.inr (some 4)), some (.inl x1), some (.inl xs0), none] [.inl (0 : Int32)] M) := by
  have h : ∀ k : KT, mgs (zlook tX6_hear) nX6_hear k 6 59 [some (.inr (some 4)), some (.inl x1), none, none] [.inl xs0] M = (if xs0 = (5 : Int32) then k 70 [some (.inr (some 4)), some (.inl x1), some (.inl xs0), none] [.inl (1 : Int32)] M else k 70 [some (.inr (some 4)), some (.inl x1), some (.inl xs0), none] [.inl (0 : Int32)] M) := fun k => rfl
  have h := h gX6_hear
  rw [mgs_gX6_hear] at h
  exact h
set_option maxRecDepth 100000 in
theorem eX6_hear_70 (M : MM) (x1 : Int32) (x2 : Int32) (xs0 : Int32) : gX6_hear 70 [some (.inr (some 4)), some (.inl x1), some (.inl x2), none] [.inl xs0] M = (if x1 = 0 then gX6_hear 85 [some (.inr (some 4)), some (.inl x1), some (.inl x2), some (.inl xs0)] [] M else (if xs0 = 0 then (if x2 = (6 : Int32) then gX6_hear 98 [some (.inr (some 4)), some (.inl x1), some (.inl x2), some (.inl xs0)] [] M else gX6_hear 85 [some (.inr (some 4)), some (.inl x1), some (.inl x2), some (.inl xs0)] [] M) else gX6_hear 98 [some (.inr (some 4)), some (.inl x1), some (.inl x2), some (.inl xs0)] [] M)) := by
  have h : ∀ k : KT, mgs (zlook tX6_hear) nX6_hear k 8 70 [some (.inr (some 4)), some (.inl x1), some (.inl x2), none] [.inl xs0] M = (if x1 = 0 then k 85 [some (.inr (some 4)), some (.inl x1), some (.inl x2), some (.inl xs0)] [] M else (if xs0 = 0 then (if x2 = (6 : Int32) then k 98 [some (.inr (some 4)), some (.inl x1), some (.inl x2), some (.inl xs0)] [] M else k 85 [some (.inr (some 4)), some (.inl x1), some (.inl x2), some (.inl xs0)] [] M) else k 98 [some (.inr (some 4)), some (.inl x1), some (.inl x2), some (.inl xs0)] [] M)) := fun k => rfl
  have h := h gX6_hear
  rw [mgs_gX6_hear] at h
  exact h
set_option maxRecDepth 100000 in
theorem eX6_hear_85 (M : MM) (x1 : Int32) (x2 : Int32) (x3 : Int32) : gX6_hear 85 [some (.inr (some 4)), some (.inl x1), some (.inl x2), some (.inl x3)] [] M = (mX4_key [.inr (some 3), .inl (0 : Int32)] M).bind (fun r => gX6_hear 94 [some (.inr (some 4)), some (.inl x1), some (.inl x2), some (.inl x3)] (r.1.toList ++ [.inr (some 4)]) r.2) := by
  have h : ∀ k : KT, mgs (zlook tX6_hear) nX6_hear k 5 85 [some (.inr (some 4)), some (.inl x1), some (.inl x2), some (.inl x3)] [] M = (mX4_key [.inr (some 3), .inl (0 : Int32)] M).bind (fun r => k 94 [some (.inr (some 4)), some (.inl x1), some (.inl x2), some (.inl x3)] (r.1.toList ++ [.inr (some 4)]) r.2) := fun k => rfl
  have h := h gX6_hear
  rw [mgs_gX6_hear] at h
  exact h
set_option maxRecDepth 100000 in
theorem eX6_hear_94 (M : MM) (x1 : Int32) (x2 : Int32) (x3 : Int32) (xs0 : Int32) : gX6_hear 94 [some (.inr (some 4)), some (.inl x1), some (.inl x2), some (.inl x3)] [.inl xs0, .inr (some 4)] M = (mX6_take [.inr (some 4), .inl xs0] M).bind (fun r => gX6_hear 97 [some (.inr (some 4)), some (.inl x1), some (.inl x2), some (.inl x3)] (r.1.toList ++ []) r.2) := by
  have h : ∀ k : KT, mgs (zlook tX6_hear) nX6_hear k 1 94 [some (.inr (some 4)), some (.inl x1), some (.inl x2), some (.inl x3)] [.inl xs0, .inr (some 4)] M = (mX6_take [.inr (some 4), .inl xs0] M).bind (fun r => k 97 [some (.inr (some 4)), some (.inl x1), some (.inl x2), some (.inl x3)] (r.1.toList ++ []) r.2) := fun k => rfl
  have h := h gX6_hear
  rw [mgs_gX6_hear] at h
  exact h
set_option maxRecDepth 100000 in
theorem eX6_hear_97 (M : MM) (x1 : Int32) (x2 : Int32) (x3 : Int32) (xs0 : Int32) : gX6_hear 97 [some (.inr (some 4)), some (.inl x1), some (.inl x2), some (.inl x3)] [.inl xs0] M = some ((some (.inl xs0)), M) := by
  have h : ∀ k : KT, mgs (zlook tX6_hear) nX6_hear k 1 97 [some (.inr (some 4)), some (.inl x1), some (.inl x2), some (.inl x3)] [.inl xs0] M = some ((some (.inl xs0)), M) := fun k => rfl
  have h := h gX6_hear
  rw [mgs_gX6_hear] at h
  exact h
set_option maxRecDepth 100000 in
theorem eX6_hear_98 (M : MM) (x1 : Int32) (x2 : Int32) (x3 : Int32) : gX6_hear 98 [some (.inr (some 4)), some (.inl x1), some (.inl x2), some (.inl x3)] [] M = (if x1 = (2 : Int32) then (if x3 = 0 then (mX6_take [.inr (some 4), .inl (M 4 12)] M).bind (fun r => gX6_hear 122 [some (.inr (some 4)), some (.inl x1), some (.inl x2), some (.inl x3)] (r.1.toList ++ []) r.2) else (mX6_take [.inr (some 4), .inl (M 4 11)] M).bind (fun r => gX6_hear 122 [some (.inr (some 4)), some (.inl x1), some (.inl x2), some (.inl x3)] (r.1.toList ++ []) r.2)) else (if x3 = 0 then some ((some (.inl (5 : Int32))), M) else (mX6_keep [.inr (some 4), .inl (M 4 9), .inl (M 4 10), .inl (1 : Int32)] M).bind (fun r => gX6_hear 140 [some (.inr (some 4)), some (.inl x1), some (.inl x2), some (.inl x3)] (r.1.toList ++ []) r.2))) := by
  have h : ∀ k : KT, mgs (zlook tX6_hear) nX6_hear k 12 98 [some (.inr (some 4)), some (.inl x1), some (.inl x2), some (.inl x3)] [] M = (if x1 = (2 : Int32) then (if x3 = 0 then (mX6_take [.inr (some 4), .inl (M 4 12)] M).bind (fun r => k 122 [some (.inr (some 4)), some (.inl x1), some (.inl x2), some (.inl x3)] (r.1.toList ++ []) r.2) else (mX6_take [.inr (some 4), .inl (M 4 11)] M).bind (fun r => k 122 [some (.inr (some 4)), some (.inl x1), some (.inl x2), some (.inl x3)] (r.1.toList ++ []) r.2)) else (if x3 = 0 then some ((some (.inl (5 : Int32))), M) else (mX6_keep [.inr (some 4), .inl (M 4 9), .inl (M 4 10), .inl (1 : Int32)] M).bind (fun r => k 140 [some (.inr (some 4)), some (.inl x1), some (.inl x2), some (.inl x3)] (r.1.toList ++ []) r.2))) := fun k => rfl
  have h := h gX6_hear
  rw [mgs_gX6_hear] at h
  exact h
set_option maxRecDepth 100000 in
theorem eX6_hear_122 (M : MM) (x1 : Int32) (x2 : Int32) (x3 : Int32) (xs0 : Int32) : gX6_hear 122 [some (.inr (some 4)), some (.inl x1), some (.inl x2), some (.inl x3)] [.inl xs0] M = some ((some (.inl xs0)), M) := by
  have h : ∀ k : KT, mgs (zlook tX6_hear) nX6_hear k 1 122 [some (.inr (some 4)), some (.inl x1), some (.inl x2), some (.inl x3)] [.inl xs0] M = some ((some (.inl xs0)), M) := fun k => rfl
  have h := h gX6_hear
  rw [mgs_gX6_hear] at h
  exact h
set_option maxRecDepth 100000 in
theorem eX6_hear_140 (M : MM) (x1 : Int32) (x2 : Int32) (x3 : Int32) (xs0 : Int32) : gX6_hear 140 [some (.inr (some 4)), some (.inl x1), some (.inl x2), some (.inl x3)] [.inl xs0] M = some ((some (.inl xs0)), M) := by
  have h : ∀ k : KT, mgs (zlook tX6_hear) nX6_hear k 2 140 [some (.inr (some 4)), some (.inl x1), some (.inl x2), some (.inl x3)] [.inl xs0] M = some ((some (.inl xs0)), M) := fun k => rfl
  have h := h gX6_hear
  rw [mgs_gX6_hear] at h
  exact h
theorem iX6_hear (M : MM) : mX6_hear [.inr (some 4)] M = gX6_hear 0 [some (.inr (some 4)), none, none, none] [] M := rfl
noncomputable def gX9_digits : KT := mev (zlook tX9_digits)
theorem ctX9_digits : ∀ q ∈ tX9_digits, Cont q.2 := by
  refine ccons (cont_aload _ _) ?_
  refine ccons (cont_getI _ _ _) ?_
  refine ccons (cont_push _ _) ?_
  refine ccons (cont_c_ne _ _) ?_
  refine ccons (cont_aload _ _) ?_
  refine ccons (cont_getR _ _ _) ?_
  refine ccons (cont_iload _ _) ?_
  refine ccons (cont_callV _ _ _ _) ?_
  refine ccons (cont_if_eq _ _) ?_
  refine ccons (cont_iload _ _) ?_
  refine ccons (cont_push _ _) ?_
  refine ccons (cont_c_lt _ _) ?_
  refine ccons (cont_iload _ _) ?_
  refine ccons (cont_push _ _) ?_
  refine ccons (cont_c_le _ _) ?_
  refine ccons (cont_push _ _) ?_
  refine ccons (cont_iret) ?_
  refine ccons (cont_aload _ _) ?_
  refine ccons (cont_getR _ _ _) ?_
  refine ccons (cont_push _ _) ?_
  refine ccons (cont_put _ _ _) ?_
  refine ccons (cont_aload _ _) ?_
  refine ccons (cont_getR _ _ _) ?_
  refine ccons (cont_iload _ _) ?_
  refine ccons (cont_iload _ _) ?_
  refine ccons (cont_iload _ _) ?_
  refine ccons (cont_iload _ _) ?_
  refine ccons (cont_callV _ _ _ _) ?_
  refine ccons (cont_iret) ?_
  exact cnil
theorem mgs_gX9_digits (cut : List Nat) (n : Nat) : mgs (zlook tX9_digits) cut gX9_digits n = gX9_digits := mgs_mev (ctab ctX9_digits) cut n
def nX9_digits : List Nat := [0, 16, 52]
set_option maxRecDepth 100000 in
theorem eX9_digits_0 (M : MM) (x1 : Int32) (x2 : Int32) (x3 : Int32) (x4 : Int32) : gX9_digits 0 [some (.inr (some 0)), some (.inl x1), some (.inl x2), some (.inl x3), some (.inl x4)] [] M = (if (M 0 5) = (-1 : Int32) then (mX1_canName [.inr (some 1), .inl x1] M).bind (fun r => gX9_digits 16 [some (.inr (some 0)), some (.inl x1), some (.inl x2), some (.inl x3), some (.inl x4)] (r.1.toList ++ []) r.2) else some ((some (.inl (-1 : Int32))), M)) := by
  have h : ∀ k : KT, mgs (zlook tX9_digits) nX9_digits k 8 0 [some (.inr (some 0)), some (.inl x1), some (.inl x2), some (.inl x3), some (.inl x4)] [] M = (if (M 0 5) = (-1 : Int32) then (mX1_canName [.inr (some 1), .inl x1] M).bind (fun r => k 16 [some (.inr (some 0)), some (.inl x1), some (.inl x2), some (.inl x3), some (.inl x4)] (r.1.toList ++ []) r.2) else some ((some (.inl (-1 : Int32))), M)) := fun k => rfl
  have h := h gX9_digits
  rw [mgs_gX9_digits] at h
  exact h
set_option maxRecDepth 100000 in
theorem eX9_digits_16 (M : MM) (x1 : Int32) (x2 : Int32) (x3 : Int32) (x4 : Int32) (xs0 : Int32) : gX9_digits 16 [some (.inr (some 0)), some (.inl x1), some (.inl x2), some (.inl x3), some (.inl x4)] [.inl xs0] M = (if xs0 = 0 then some ((some (.inl (-1 : Int32))), M) else (if x2 < (1 : Int32) then some ((some (.inl (-1 : Int32))), M) else (if x2 ≤ (8 : Int32) then (mX1_addDigits [.inr (some 1), .inl x1, .inl x2, .inl x3, .inl x4] (st2 M 4 3 (0 : Int32))).bind (fun r => gX9_digits 52 [some (.inr (some 0)), some (.inl x1), some (.inl x2), some (.inl x3), some (.inl x4)] (r.1.toList ++ []) r.2) else some ((some (.inl (-1 : Int32))), M)))) := by
  have h : ∀ k : KT, mgs (zlook tX9_digits) nX9_digits k 18 16 [some (.inr (some 0)), some (.inl x1), some (.inl x2), some (.inl x3), some (.inl x4)] [.inl xs0] M = (if xs0 = 0 then some ((some (.inl (-1 : Int32))), M) else (if x2 < (1 : Int32) then some ((some (.inl (-1 : Int32))), M) else (if x2 ≤ (8 : Int32) then (mX1_addDigits [.inr (some 1), .inl x1, .inl x2, .inl x3, .inl x4] (st2 M 4 3 (0 : Int32))).bind (fun r => k 52 [some (.inr (some 0)), some (.inl x1), some (.inl x2), some (.inl x3), some (.inl x4)] (r.1.toList ++ []) r.2) else some ((some (.inl (-1 : Int32))), M)))) := fun k => rfl
  have h := h gX9_digits
  rw [mgs_gX9_digits] at h
  exact h
set_option maxRecDepth 100000 in
theorem eX9_digits_52 (M : MM) (x1 : Int32) (x2 : Int32) (x3 : Int32) (x4 : Int32) (xs0 : Int32) : gX9_digits 52 [some (.inr (some 0)), some (.inl x1), some (.inl x2), some (.inl x3), some (.inl x4)] [.inl xs0] M = some ((some (.inl xs0)), M) := by
  have h : ∀ k : KT, mgs (zlook tX9_digits) nX9_digits k 1 52 [some (.inr (some 0)), some (.inl x1), some (.inl x2), some (.inl x3), some (.inl x4)] [.inl xs0] M = some ((some (.inl xs0)), M) := fun k => rfl
  have h := h gX9_digits
  rw [mgs_gX9_digits] at h
  exact h
theorem iX9_digits (M : MM) (x1 : Int32) (x2 : Int32) (x3 : Int32) (x4 : Int32) : mX9_digits [.inr (some 0), .inl x1, .inl x2, .inl x3, .inl x4] M = gX9_digits 0 [some (.inr (some 0)), some (.inl x1), some (.inl x2), some (.inl x3), some (.inl x4)] [] M := rfl
noncomputable def gX9_countOffered : KT := mev (zlook tX9_countOffered)
theorem ctX9_countOffered : ∀ q ∈ tX9_countOffered, Cont q.2 := by
  refine ccons (cont_push _ _) ?_
  refine ccons (cont_istore _ _) ?_
  refine ccons (cont_iload _ _) ?_
  refine ccons (cont_push _ _) ?_
  refine ccons (cont_c_ge _ _) ?_
  refine ccons (cont_aload _ _) ?_
  refine ccons (cont_getR _ _ _) ?_
  refine ccons (cont_iload _ _) ?_
  refine ccons (cont_ald _ _) ?_
  refine ccons (cont_push _ _) ?_
  refine ccons (cont_c_eq _ _) ?_
  refine ccons (cont_aload _ _) ?_
  refine ccons (cont_getR _ _ _) ?_
  refine ccons (cont_iload _ _) ?_
  refine ccons (cont_ald _ _) ?_
  refine ccons (cont_callS _ _ _) ?_
  refine ccons (cont_if_ne _ _) ?_
  refine ccons (cont_push _ _) ?_
  refine ccons (cont_iret) ?_
  refine ccons (cont_push _ _) ?_
  refine ccons (cont_istore _ _) ?_
  refine ccons (cont_iload _ _) ?_
  refine ccons (cont_iload _ _) ?_
  refine ccons (cont_c_ge _ _) ?_
  refine ccons (cont_aload _ _) ?_
  refine ccons (cont_getR _ _ _) ?_
  refine ccons (cont_iload _ _) ?_
  refine ccons (cont_ald _ _) ?_
  refine ccons (cont_aload _ _) ?_
  refine ccons (cont_getR _ _ _) ?_
  refine ccons (cont_iload _ _) ?_
  refine ccons (cont_ald _ _) ?_
  refine ccons (cont_c_ne _ _) ?_
  refine ccons (cont_push _ _) ?_
  refine ccons (cont_iret) ?_
  refine ccons (cont_iinc _ _ _) ?_
  refine ccons (cont_goto _) ?_
  refine ccons (cont_iinc _ _ _) ?_
  refine ccons (cont_goto _) ?_
  refine ccons (cont_iload _ _) ?_
  refine ccons (cont_iret) ?_
  exact cnil
theorem mgs_gX9_countOffered (cut : List Nat) (n : Nat) : mgs (zlook tX9_countOffered) cut gX9_countOffered n = gX9_countOffered := mgs_mev (ctab ctX9_countOffered) cut n
def nX9_countOffered : List Nat := [0, 2, 27, 34]
set_option maxRecDepth 100000 in
theorem eX9_countOffered_0 (M : MM) : gX9_countOffered 0 [some (.inr (some 0)), none, none] [] M = gX9_countOffered 2 [some (.inr (some 0)), some (.inl (0 : Int32)), none] [] M := by
  have h : ∀ k : KT, mgs (zlook tX9_countOffered) nX9_countOffered k 2 0 [some (.inr (some 0)), none, none] [] M = k 2 [some (.inr (some 0)), some (.inl (0 : Int32)), none] [] M := fun k => rfl
  have h := h gX9_countOffered
  rw [mgs_gX9_countOffered] at h
  exact h
set_option maxRecDepth 100000 in
theorem eX9_countOffered_2 (M : MM) (x1 : Int32) (d2 : Option AV) : gX9_countOffered 2 [some (.inr (some 0)), some (.inl x1), d2] [] M = (if (6 : Int32) ≤ x1 then some ((some (.inl x1)), M) else (if x1 < 0 ∨ 6 ≤ x1.toNatClampNeg then none else (if (M 5 x1.toNatClampNeg) = (-1 : Int32) then some ((some (.inl x1)), M) else (if x1 < 0 ∨ 6 ≤ x1.toNatClampNeg then none else (mX9_isName [.inl (M 5 x1.toNatClampNeg)] M).bind (fun r => gX9_countOffered 27 [some (.inr (some 0)), some (.inl x1), d2] (r.1.toList ++ []) r.2))))) := by
  have h : ∀ k : KT, mgs (zlook tX9_countOffered) nX9_countOffered k 14 2 [some (.inr (some 0)), some (.inl x1), d2] [] M = (if (6 : Int32) ≤ x1 then some ((some (.inl x1)), M) else (if x1 < 0 ∨ 6 ≤ x1.toNatClampNeg then none else (if (M 5 x1.toNatClampNeg) = (-1 : Int32) then some ((some (.inl x1)), M) else (if x1 < 0 ∨ 6 ≤ x1.toNatClampNeg then none else (mX9_isName [.inl (M 5 x1.toNatClampNeg)] M).bind (fun r => k 27 [some (.inr (some 0)), some (.inl x1), d2] (r.1.toList ++ []) r.2))))) := fun k => rfl
  have h := h gX9_countOffered
  rw [mgs_gX9_countOffered] at h
  exact h
set_option maxRecDepth 100000 in
theorem eX9_countOffered_27 (M : MM) (x1 : Int32) (d2 : Option AV) (xs0 : Int32) : gX9_countOffered 27 [some (.inr (some 0)), some (.inl x1), d2] [.inl xs0] M = (if xs0 = 0 then some ((some (.inl (0 : Int32))), M) else gX9_countOffered 34 [some (.inr (some 0)), some (.inl x1), some (.inl (0 : Int32))] [] M) := by
  have h : ∀ k : KT, mgs (zlook tX9_countOffered) nX9_countOffered k 3 27 [some (.inr (some 0)), some (.inl x1), d2] [.inl xs0] M = (if xs0 = 0 then some ((some (.inl (0 : Int32))), M) else k 34 [some (.inr (some 0)), some (.inl x1), some (.inl (0 : Int32))] [] M) := fun k => rfl
  have h := h gX9_countOffered
  rw [mgs_gX9_countOffered] at h
  exact h
set_option maxRecDepth 100000 in
theorem eX9_countOffered_34 (M : MM) (x1 : Int32) (x2 : Int32) : gX9_countOffered 34 [some (.inr (some 0)), some (.inl x1), some (.inl x2)] [] M = (if x1 ≤ x2 then gX9_countOffered 2 [some (.inr (some 0)), some (.inl (x1 + (1 : Int32))), some (.inl x2)] [] M else (if x2 < 0 ∨ 6 ≤ x2.toNatClampNeg then none else (if x1 < 0 ∨ 6 ≤ x1.toNatClampNeg then none else (if (M 5 x2.toNatClampNeg) = (M 5 x1.toNatClampNeg) then some ((some (.inl (0 : Int32))), M) else gX9_countOffered 34 [some (.inr (some 0)), some (.inl x1), some (.inl (x2 + (1 : Int32)))] [] M)))) := by
  have h : ∀ k : KT, mgs (zlook tX9_countOffered) nX9_countOffered k 14 34 [some (.inr (some 0)), some (.inl x1), some (.inl x2)] [] M = (if x1 ≤ x2 then k 2 [some (.inr (some 0)), some (.inl (x1 + (1 : Int32))), some (.inl x2)] [] M else (if x2 < 0 ∨ 6 ≤ x2.toNatClampNeg then none else (if x1 < 0 ∨ 6 ≤ x1.toNatClampNeg then none else (if (M 5 x2.toNatClampNeg) = (M 5 x1.toNatClampNeg) then some ((some (.inl (0 : Int32))), M) else k 34 [some (.inr (some 0)), some (.inl x1), some (.inl (x2 + (1 : Int32)))] [] M)))) := fun k => rfl
  have h := h gX9_countOffered
  rw [mgs_gX9_countOffered] at h
  exact h
theorem iX9_countOffered (M : MM) : mX9_countOffered [.inr (some 0)] M = gX9_countOffered 0 [some (.inr (some 0)), none, none] [] M := rfl
noncomputable def gX9_choice : KT := mev (zlook tX9_choice)
theorem ctX9_choice : ∀ q ∈ tX9_choice, Cont q.2 := by
  refine ccons (cont_aload _ _) ?_
  refine ccons (cont_getR _ _ _) ?_
  refine ccons (cont_push _ _) ?_
  refine ccons (cont_iload _ _) ?_
  refine ccons (cont_ast _) ?_
  refine ccons (cont_aload _ _) ?_
  refine ccons (cont_getR _ _ _) ?_
  refine ccons (cont_push _ _) ?_
  refine ccons (cont_iload _ _) ?_
  refine ccons (cont_ast _) ?_
  refine ccons (cont_aload _ _) ?_
  refine ccons (cont_getR _ _ _) ?_
  refine ccons (cont_push _ _) ?_
  refine ccons (cont_iload _ _) ?_
  refine ccons (cont_ast _) ?_
  refine ccons (cont_aload _ _) ?_
  refine ccons (cont_getR _ _ _) ?_
  refine ccons (cont_push _ _) ?_
  refine ccons (cont_iload _ _) ?_
  refine ccons (cont_ast _) ?_
  refine ccons (cont_aload _ _) ?_
  refine ccons (cont_getR _ _ _) ?_
  refine ccons (cont_push _ _) ?_
  refine ccons (cont_iload _ _) ?_
  refine ccons (cont_ast _) ?_
  refine ccons (cont_aload _ _) ?_
  refine ccons (cont_getR _ _ _) ?_
  refine ccons (cont_push _ _) ?_
  refine ccons (cont_iload _ _) ?_
  refine ccons (cont_ast _) ?_
  refine ccons (cont_aload _ _) ?_
  refine ccons (cont_callV _ _ _ _) ?_
  refine ccons (cont_istore _ _) ?_
  refine ccons (cont_aload _ _) ?_
  refine ccons (cont_getI _ _ _) ?_
  refine ccons (cont_push _ _) ?_
  refine ccons (cont_c_ne _ _) ?_
  refine ccons (cont_aload _ _) ?_
  refine ccons (cont_getR _ _ _) ?_
  refine ccons (cont_iload _ _) ?_
  refine ccons (cont_callV _ _ _ _) ?_
  refine ccons (cont_if_eq _ _) ?_
  refine ccons (cont_iload _ _) ?_
  refine ccons (cont_if_ne _ _) ?_
  refine ccons (cont_push _ _) ?_
  refine ccons (cont_iret) ?_
  refine ccons (cont_aload _ _) ?_
  refine ccons (cont_getR _ _ _) ?_
  refine ccons (cont_push _ _) ?_
  refine ccons (cont_put _ _ _) ?_
  refine ccons (cont_aload _ _) ?_
  refine ccons (cont_getR _ _ _) ?_
  refine ccons (cont_iload _ _) ?_
  refine ccons (cont_iload _ _) ?_
  refine ccons (cont_aload _ _) ?_
  refine ccons (cont_getR _ _ _) ?_
  refine ccons (cont_iload _ _) ?_
  refine ccons (cont_callV _ _ _ _) ?_
  refine ccons (cont_iret) ?_
  exact cnil
theorem mgs_gX9_choice (cut : List Nat) (n : Nat) : mgs (zlook tX9_choice) cut gX9_choice n = gX9_choice := mgs_mev (ctab ctX9_choice) cut n
def nX9_choice : List Nat := [0, 51, 69, 102]
set_option maxRecDepth 100000 in
theorem eX9_choice_0 (M : MM) (x1 : Int32) (x2 : Int32) (x3 : Int32) (x4 : Int32) (x5 : Int32) (x6 : Int32) (x7 : Int32) (x8 : Int32) : gX9_choice 0 [some (.inr (some 0)), some (.inl x1), some (.inl x2), some (.inl x3), some (.inl x4), some (.inl x5), some (.inl x6), some (.inl x7), some (.inl x8), none] [] M = (mX9_countOffered [.inr (some 0)] (st2 (st2 (st2 (st2 (st2 (st2 M 5 0 x3) 5 1 x4) 5 2 x5) 5 3 x6) 5 4 x7) 5 5 x8)).bind (fun r => gX9_choice 51 [some (.inr (some 0)), some (.inl x1), some (.inl x2), some (.inl x3), some (.inl x4), some (.inl x5), some (.inl x6), some (.inl x7), some (.inl x8), none] (r.1.toList ++ []) r.2) := by
  have h : ∀ k : KT, mgs (zlook tX9_choice) nX9_choice k 32 0 [some (.inr (some 0)), some (.inl x1), some (.inl x2), some (.inl x3), some (.inl x4), some (.inl x5), some (.inl x6), some (.inl x7), some (.inl x8), none] [] M = (mX9_countOffered [.inr (some 0)] (st2 (st2 (st2 (st2 (st2 (st2 M 5 0 x3) 5 1 x4) 5 2 x5) 5 3 x6) 5 4 x7) 5 5 x8)).bind (fun r => k 51 [some (.inr (some 0)), some (.inl x1), some (.inl x2), some (.inl x3), some (.inl x4), some (.inl x5), some (.inl x6), some (.inl x7), some (.inl x8), none] (r.1.toList ++ []) r.2) := fun k => rfl
  have h := h gX9_choice
  rw [mgs_gX9_choice] at h
  exact h
set_option maxRecDepth 100000 in
theorem eX9_choice_51 (M : MM) (x1 : Int32) (x2 : Int32) (x3 : Int32) (x4 : Int32) (x5 : Int32) (x6 : Int32) (x7 : Int32) (x8 : Int32) (xs0 : Int32) : gX9_choice 51 [some (.inr (some 0)), some (.inl x1), some (.inl x2), some (.inl x3), some (.inl x4), some (.inl x5), some (.inl x6), some (.inl x7), some (.inl x8), none] [.inl xs0] M = (if (M 0 5) = (-1 : Int32) then (mX1_canName [.inr (some 1), .inl x1] M).bind (fun r => gX9_choice 69 [some (.inr (some 0)), some (.inl x1), some (.inl x2), some (.inl x3), some (.inl x4), some (.inl x5), some (.inl x6), some (.inl x7), some (.inl x8), some (.inl xs0)] (r.1.toList ++ []) r.2) else some ((some (.inl (-1 : Int32))), M)) := by
  have h : ∀ k : KT, mgs (zlook tX9_choice) nX9_choice k 9 51 [some (.inr (some 0)), some (.inl x1), some (.inl x2), some (.inl x3), some (.inl x4), some (.inl x5), some (.inl x6), some (.inl x7), some (.inl x8), none] [.inl xs0] M = (if (M 0 5) = (-1 : Int32) then (mX1_canName [.inr (some 1), .inl x1] M).bind (fun r => k 69 [some (.inr (some 0)), some (.inl x1), some (.inl x2), some (.inl x3), some (.inl x4), some (.inl x5), some (.inl x6), some (.inl x7), some (.inl x8), some (.inl xs0)] (r.1.toList ++ []) r.2) else some ((some (.inl (-1 : Int32))), M)) := fun k => rfl
  have h := h gX9_choice
  rw [mgs_gX9_choice] at h
  exact h
set_option maxRecDepth 100000 in
theorem eX9_choice_69 (M : MM) (x1 : Int32) (x2 : Int32) (x3 : Int32) (x4 : Int32) (x5 : Int32) (x6 : Int32) (x7 : Int32) (x8 : Int32) (x9 : Int32) (xs0 : Int32) : gX9_choice 69 [some (.inr (some 0)), some (.inl x1), some (.inl x2), some (.inl x3), some (.inl x4), some (.inl x5), some (.inl x6), some (.inl x7), some (.inl x8), some (.inl x9)] [.inl xs0] M = (if xs0 = 0 then some ((some (.inl (-1 : Int32))), M) else (if x9 = 0 then some ((some (.inl (-1 : Int32))), M) else (mX1_addChoice [.inr (some 1), .inl x1, .inl x2, .inr (some 5), .inl x9] (st2 M 4 3 (0 : Int32))).bind (fun r => gX9_choice 102 [some (.inr (some 0)), some (.inl x1), some (.inl x2), some (.inl x3), some (.inl x4), some (.inl x5), some (.inl x6), some (.inl x7), some (.inl x8), some (.inl x9)] (r.1.toList ++ []) r.2))) := by
  have h : ∀ k : KT, mgs (zlook tX9_choice) nX9_choice k 15 69 [some (.inr (some 0)), some (.inl x1), some (.inl x2), some (.inl x3), some (.inl x4), some (.inl x5), some (.inl x6), some (.inl x7), some (.inl x8), some (.inl x9)] [.inl xs0] M = (if xs0 = 0 then some ((some (.inl (-1 : Int32))), M) else (if x9 = 0 then some ((some (.inl (-1 : Int32))), M) else (mX1_addChoice [.inr (some 1), .inl x1, .inl x2, .inr (some 5), .inl x9] (st2 M 4 3 (0 : Int32))).bind (fun r => k 102 [some (.inr (some 0)), some (.inl x1), some (.inl x2), some (.inl x3), some (.inl x4), some (.inl x5), some (.inl x6), some (.inl x7), some (.inl x8), some (.inl x9)] (r.1.toList ++ []) r.2))) := fun k => rfl
  have h := h gX9_choice
  rw [mgs_gX9_choice] at h
  exact h
set_option maxRecDepth 100000 in
theorem eX9_choice_102 (M : MM) (x1 : Int32) (x2 : Int32) (x3 : Int32) (x4 : Int32) (x5 : Int32) (x6 : Int32) (x7 : Int32) (x8 : Int32) (x9 : Int32) (xs0 : Int32) : gX9_choice 102 [some (.inr (some 0)), some (.inl x1), some (.inl x2), some (.inl x3), some (.inl x4), some (.inl x5), some (.inl x6), some (.inl x7), some (.inl x8), some (.inl x9)] [.inl xs0] M = some ((some (.inl xs0)), M) := by
  have h : ∀ k : KT, mgs (zlook tX9_choice) nX9_choice k 1 102 [some (.inr (some 0)), some (.inl x1), some (.inl x2), some (.inl x3), some (.inl x4), some (.inl x5), some (.inl x6), some (.inl x7), some (.inl x8), some (.inl x9)] [.inl xs0] M = some ((some (.inl xs0)), M) := fun k => rfl
  have h := h gX9_choice
  rw [mgs_gX9_choice] at h
  exact h
theorem iX9_choice (M : MM) (x1 : Int32) (x2 : Int32) (x3 : Int32) (x4 : Int32) (x5 : Int32) (x6 : Int32) (x7 : Int32) (x8 : Int32) : mX9_choice [.inr (some 0), .inl x1, .inl x2, .inl x3, .inl x4, .inl x5, .inl x6, .inl x7, .inl x8] M = gX9_choice 0 [some (.inr (some 0)), some (.inl x1), some (.inl x2), some (.inl x3), some (.inl x4), some (.inl x5), some (.inl x6), some (.inl x7), some (.inl x8), none] [] M := rfl
noncomputable def gX9_needs : KT := mev (zlook tX9_needs)
theorem ctX9_needs : ∀ q ∈ tX9_needs, Cont q.2 := by
  refine ccons (cont_aload _ _) ?_
  refine ccons (cont_getI _ _ _) ?_
  refine ccons (cont_push _ _) ?_
  refine ccons (cont_c_ne _ _) ?_
  refine ccons (cont_aload _ _) ?_
  refine ccons (cont_getR _ _ _) ?_
  refine ccons (cont_iload _ _) ?_
  refine ccons (cont_iload _ _) ?_
  refine ccons (cont_iload _ _) ?_
  refine ccons (cont_callV _ _ _ _) ?_
  refine ccons (cont_if_eq _ _) ?_
  refine ccons (cont_push _ _) ?_
  refine ccons (cont_goto _) ?_
  refine ccons (cont_push _ _) ?_
  refine ccons (cont_zret) ?_
  exact cnil
theorem mgs_gX9_needs (cut : List Nat) (n : Nat) : mgs (zlook tX9_needs) cut gX9_needs n = gX9_needs := mgs_mev (ctab ctX9_needs) cut n
def nX9_needs : List Nat := [0, 18]
set_option maxRecDepth 100000 in
theorem eX9_needs_0 (M : MM) (x1 : Int32) (x2 : Int32) (x3 : Int32) : gX9_needs 0 [some (.inr (some 0)), some (.inl x1), some (.inl x2), some (.inl x3)] [] M = (if (M 0 5) = (-1 : Int32) then (mX1_addNeed [.inr (some 1), .inl x1, .inl x2, .inl x3] M).bind (fun r => gX9_needs 18 [some (.inr (some 0)), some (.inl x1), some (.inl x2), some (.inl x3)] (r.1.toList ++ []) r.2) else some ((some (.inl (0 : Int32))), M)) := by
  have h : ∀ k : KT, mgs (zlook tX9_needs) nX9_needs k 10 0 [some (.inr (some 0)), some (.inl x1), some (.inl x2), some (.inl x3)] [] M = (if (M 0 5) = (-1 : Int32) then (mX1_addNeed [.inr (some 1), .inl x1, .inl x2, .inl x3] M).bind (fun r => k 18 [some (.inr (some 0)), some (.inl x1), some (.inl x2), some (.inl x3)] (r.1.toList ++ []) r.2) else some ((some (.inl (0 : Int32))), M)) := fun k => rfl
  have h := h gX9_needs
  rw [mgs_gX9_needs] at h
  exact h
set_option maxRecDepth 100000 in
theorem eX9_needs_18 (M : MM) (x1 : Int32) (x2 : Int32) (x3 : Int32) (xs0 : Int32) : gX9_needs 18 [some (.inr (some 0)), some (.inl x1), some (.inl x2), some (.inl x3)] [.inl xs0] M = (if xs0 = 0 then some ((some (.inl (0 : Int32))), M) else some ((some (.inl (1 : Int32))), M)) := by
  have h : ∀ k : KT, mgs (zlook tX9_needs) nX9_needs k 4 18 [some (.inr (some 0)), some (.inl x1), some (.inl x2), some (.inl x3)] [.inl xs0] M = (if xs0 = 0 then some ((some (.inl (0 : Int32))), M) else some ((some (.inl (1 : Int32))), M)) := fun k => rfl
  have h := h gX9_needs
  rw [mgs_gX9_needs] at h
  exact h
theorem iX9_needs (M : MM) (x1 : Int32) (x2 : Int32) (x3 : Int32) : mX9_needs [.inr (some 0), .inl x1, .inl x2, .inl x3] M = gX9_needs 0 [some (.inr (some 0)), some (.inl x1), some (.inl x2), some (.inl x3)] [] M := rfl
noncomputable def gX9_costs : KT := mev (zlook tX9_costs)
theorem ctX9_costs : ∀ q ∈ tX9_costs, Cont q.2 := by
  refine ccons (cont_iload _ _) ?_
  refine ccons (cont_push _ _) ?_
  refine ccons (cont_callS _ _ _) ?_
  refine ccons (cont_if_eq _ _) ?_
  refine ccons (cont_iload _ _) ?_
  refine ccons (cont_push _ _) ?_
  refine ccons (cont_callS _ _ _) ?_
  refine ccons (cont_if_eq _ _) ?_
  refine ccons (cont_iload _ _) ?_
  refine ccons (cont_push _ _) ?_
  refine ccons (cont_callS _ _ _) ?_
  refine ccons (cont_if_ne _ _) ?_
  refine ccons (cont_push _ _) ?_
  refine ccons (cont_zret) ?_
  refine ccons (cont_aload _ _) ?_
  refine ccons (cont_getR _ _ _) ?_
  refine ccons (cont_iload _ _) ?_
  refine ccons (cont_put _ _ _) ?_
  refine ccons (cont_aload _ _) ?_
  refine ccons (cont_getR _ _ _) ?_
  refine ccons (cont_iload _ _) ?_
  refine ccons (cont_put _ _ _) ?_
  refine ccons (cont_aload _ _) ?_
  refine ccons (cont_getR _ _ _) ?_
  refine ccons (cont_iload _ _) ?_
  refine ccons (cont_put _ _ _) ?_
  refine ccons (cont_push _ _) ?_
  refine ccons (cont_zret) ?_
  exact cnil
theorem mgs_gX9_costs (cut : List Nat) (n : Nat) : mgs (zlook tX9_costs) cut gX9_costs n = gX9_costs := mgs_mev (ctab ctX9_costs) cut n
def nX9_costs : List Nat := [0, 6, 15, 25]
set_option maxRecDepth 100000 in
theorem eX9_costs_0 (M : MM) (x1 : Int32) (x2 : Int32) (x3 : Int32) : gX9_costs 0 [some (.inr (some 0)), some (.inl x1), some (.inl x2), some (.inl x3)] [] M = (mX9_isWithin [.inl x1, .inl (99 : Int32)] M).bind (fun r => gX9_costs 6 [some (.inr (some 0)), some (.inl x1), some (.inl x2), some (.inl x3)] (r.1.toList ++ []) r.2) := by
  have h : ∀ k : KT, mgs (zlook tX9_costs) nX9_costs k 3 0 [some (.inr (some 0)), some (.inl x1), some (.inl x2), some (.inl x3)] [] M = (mX9_isWithin [.inl x1, .inl (99 : Int32)] M).bind (fun r => k 6 [some (.inr (some 0)), some (.inl x1), some (.inl x2), some (.inl x3)] (r.1.toList ++ []) r.2) := fun k => rfl
  have h := h gX9_costs
  rw [mgs_gX9_costs] at h
  exact h
set_option maxRecDepth 100000 in
theorem eX9_costs_6 (M : MM) (x1 : Int32) (x2 : Int32) (x3 : Int32) (xs0 : Int32) : gX9_costs 6 [some (.inr (some 0)), some (.inl x1), some (.inl x2), some (.inl x3)] [.inl xs0] M = (if xs0 = 0 then some ((some (.inl (0 : Int32))), M) else (mX9_isWithin [.inl x2, .inl (99 : Int32)] M).bind (fun r => gX9_costs 15 [some (.inr (some 0)), some (.inl x1), some (.inl x2), some (.inl x3)] (r.1.toList ++ []) r.2)) := by
  have h : ∀ k : KT, mgs (zlook tX9_costs) nX9_costs k 4 6 [some (.inr (some 0)), some (.inl x1), some (.inl x2), some (.inl x3)] [.inl xs0] M = (if xs0 = 0 then some ((some (.inl (0 : Int32))), M) else (mX9_isWithin [.inl x2, .inl (99 : Int32)] M).bind (fun r => k 15 [some (.inr (some 0)), some (.inl x1), some (.inl x2), some (.inl x3)] (r.1.toList ++ []) r.2)) := fun k => rfl
  have h := h gX9_costs
  rw [mgs_gX9_costs] at h
  exact h
set_option maxRecDepth 100000 in
theorem eX9_costs_15 (M : MM) (x1 : Int32) (x2 : Int32) (x3 : Int32) (xs0 : Int32) : gX9_costs 15 [some (.inr (some 0)), some (.inl x1), some (.inl x2), some (.inl x3)] [.inl xs0] M = (if xs0 = 0 then some ((some (.inl (0 : Int32))), M) else (mX9_isWithin [.inl x3, .inl (200 : Int32)] M).bind (fun r => gX9_costs 25 [some (.inr (some 0)), some (.inl x1), some (.inl x2), some (.inl x3)] (r.1.toList ++ []) r.2)) := by
  have h : ∀ k : KT, mgs (zlook tX9_costs) nX9_costs k 4 15 [some (.inr (some 0)), some (.inl x1), some (.inl x2), some (.inl x3)] [.inl xs0] M = (if xs0 = 0 then some ((some (.inl (0 : Int32))), M) else (mX9_isWithin [.inl x3, .inl (200 : Int32)] M).bind (fun r => k 25 [some (.inr (some 0)), some (.inl x1), some (.inl x2), some (.inl x3)] (r.1.toList ++ []) r.2)) := fun k => rfl
  have h := h gX9_costs
  rw [mgs_gX9_costs] at h
  exact h
set_option maxRecDepth 100000 in
theorem eX9_costs_25 (M : MM) (x1 : Int32) (x2 : Int32) (x3 : Int32) (xs0 : Int32) : gX9_costs 25 [some (.inr (some 0)), some (.inl x1), some (.inl x2), some (.inl x3)] [.inl xs0] M = (if xs0 = 0 then some ((some (.inl (0 : Int32))), M) else some ((some (.inl (1 : Int32))), (st2 (st2 (st2 M 3 4 x1) 3 5 x2) 3 6 x3))) := by
  have h : ∀ k : KT, mgs (zlook tX9_costs) nX9_costs k 15 25 [some (.inr (some 0)), some (.inl x1), some (.inl x2), some (.inl x3)] [.inl xs0] M = (if xs0 = 0 then some ((some (.inl (0 : Int32))), M) else some ((some (.inl (1 : Int32))), (st2 (st2 (st2 M 3 4 x1) 3 5 x2) 3 6 x3))) := fun k => rfl
  have h := h gX9_costs
  rw [mgs_gX9_costs] at h
  exact h
theorem iX9_costs (M : MM) (x1 : Int32) (x2 : Int32) (x3 : Int32) : mX9_costs [.inr (some 0), .inl x1, .inl x2, .inl x3] M = gX9_costs 0 [some (.inr (some 0)), some (.inl x1), some (.inl x2), some (.inl x3)] [] M := rfl
noncomputable def gX9_place : KT := mev (zlook tX9_place)
theorem ctX9_place : ∀ q ∈ tX9_place, Cont q.2 := by
  refine ccons (cont_aload _ _) ?_
  refine ccons (cont_getR _ _ _) ?_
  refine ccons (cont_callV _ _ _ _) ?_
  refine ccons (cont_iret) ?_
  exact cnil
theorem mgs_gX9_place (cut : List Nat) (n : Nat) : mgs (zlook tX9_place) cut gX9_place n = gX9_place := mgs_mev (ctab ctX9_place) cut n
def nX9_place : List Nat := [0, 7]
set_option maxRecDepth 100000 in
theorem eX9_place_0 (M : MM) : gX9_place 0 [some (.inr (some 0))] [] M = (mX2_addPlace [.inr (some 2)] M).bind (fun r => gX9_place 7 [some (.inr (some 0))] (r.1.toList ++ []) r.2) := by
  have h : ∀ k : KT, mgs (zlook tX9_place) nX9_place k 3 0 [some (.inr (some 0))] [] M = (mX2_addPlace [.inr (some 2)] M).bind (fun r => k 7 [some (.inr (some 0))] (r.1.toList ++ []) r.2) := fun k => rfl
  have h := h gX9_place
  rw [mgs_gX9_place] at h
  exact h
set_option maxRecDepth 100000 in
theorem eX9_place_7 (M : MM) (xs0 : Int32) : gX9_place 7 [some (.inr (some 0))] [.inl xs0] M = some ((some (.inl xs0)), M) := by
  have h : ∀ k : KT, mgs (zlook tX9_place) nX9_place k 1 7 [some (.inr (some 0))] [.inl xs0] M = some ((some (.inl xs0)), M) := fun k => rfl
  have h := h gX9_place
  rw [mgs_gX9_place] at h
  exact h
theorem iX9_place (M : MM) : mX9_place [.inr (some 0)] M = gX9_place 0 [some (.inr (some 0))] [] M := rfl
noncomputable def gX9_word : KT := mev (zlook tX9_word)
theorem ctX9_word : ∀ q ∈ tX9_word, Cont q.2 := by
  refine ccons (cont_iload _ _) ?_
  refine ccons (cont_push _ _) ?_
  refine ccons (cont_callS _ _ _) ?_
  refine ccons (cont_if_eq _ _) ?_
  refine ccons (cont_iload _ _) ?_
  refine ccons (cont_push _ _) ?_
  refine ccons (cont_callS _ _ _) ?_
  refine ccons (cont_if_ne _ _) ?_
  refine ccons (cont_push _ _) ?_
  refine ccons (cont_iret) ?_
  refine ccons (cont_aload _ _) ?_
  refine ccons (cont_getR _ _ _) ?_
  refine ccons (cont_iload _ _) ?_
  refine ccons (cont_iload _ _) ?_
  refine ccons (cont_callV _ _ _ _) ?_
  refine ccons (cont_iret) ?_
  exact cnil
theorem mgs_gX9_word (cut : List Nat) (n : Nat) : mgs (zlook tX9_word) cut gX9_word n = gX9_word := mgs_mev (ctab ctX9_word) cut n
def nX9_word : List Nat := [0, 6, 15, 29]
set_option maxRecDepth 100000 in
theorem eX9_word_0 (M : MM) (x1 : Int32) (x2 : Int32) : gX9_word 0 [some (.inr (some 0)), some (.inl x1), some (.inl x2)] [] M = (mX9_isWithin [.inl x1, .inl (59 : Int32)] M).bind (fun r => gX9_word 6 [some (.inr (some 0)), some (.inl x1), some (.inl x2)] (r.1.toList ++ []) r.2) := by
  have h : ∀ k : KT, mgs (zlook tX9_word) nX9_word k 3 0 [some (.inr (some 0)), some (.inl x1), some (.inl x2)] [] M = (mX9_isWithin [.inl x1, .inl (59 : Int32)] M).bind (fun r => k 6 [some (.inr (some 0)), some (.inl x1), some (.inl x2)] (r.1.toList ++ []) r.2) := fun k => rfl
  have h := h gX9_word
  rw [mgs_gX9_word] at h
  exact h
set_option maxRecDepth 100000 in
theorem eX9_word_6 (M : MM) (x1 : Int32) (x2 : Int32) (xs0 : Int32) : gX9_word 6 [some (.inr (some 0)), some (.inl x1), some (.inl x2)] [.inl xs0] M = (if xs0 = 0 then some ((some (.inl (-1 : Int32))), M) else (mX9_isWithin [.inl x2, .inl (99 : Int32)] M).bind (fun r => gX9_word 15 [some (.inr (some 0)), some (.inl x1), some (.inl x2)] (r.1.toList ++ []) r.2)) := by
  have h : ∀ k : KT, mgs (zlook tX9_word) nX9_word k 4 6 [some (.inr (some 0)), some (.inl x1), some (.inl x2)] [.inl xs0] M = (if xs0 = 0 then some ((some (.inl (-1 : Int32))), M) else (mX9_isWithin [.inl x2, .inl (99 : Int32)] M).bind (fun r => k 15 [some (.inr (some 0)), some (.inl x1), some (.inl x2)] (r.1.toList ++ []) r.2)) := fun k => rfl
  have h := h gX9_word
  rw [mgs_gX9_word] at h
  exact h
set_option maxRecDepth 100000 in
theorem eX9_word_15 (M : MM) (x1 : Int32) (x2 : Int32) (xs0 : Int32) : gX9_word 15 [some (.inr (some 0)), some (.inl x1), some (.inl x2)] [.inl xs0] M = (if xs0 = 0 then some ((some (.inl (-1 : Int32))), M) else (mX2_addWord [.inr (some 2), .inl x1, .inl x2] M).bind (fun r => gX9_word 29 [some (.inr (some 0)), some (.inl x1), some (.inl x2)] (r.1.toList ++ []) r.2)) := by
  have h : ∀ k : KT, mgs (zlook tX9_word) nX9_word k 6 15 [some (.inr (some 0)), some (.inl x1), some (.inl x2)] [.inl xs0] M = (if xs0 = 0 then some ((some (.inl (-1 : Int32))), M) else (mX2_addWord [.inr (some 2), .inl x1, .inl x2] M).bind (fun r => k 29 [some (.inr (some 0)), some (.inl x1), some (.inl x2)] (r.1.toList ++ []) r.2)) := fun k => rfl
  have h := h gX9_word
  rw [mgs_gX9_word] at h
  exact h
set_option maxRecDepth 100000 in
theorem eX9_word_29 (M : MM) (x1 : Int32) (x2 : Int32) (xs0 : Int32) : gX9_word 29 [some (.inr (some 0)), some (.inl x1), some (.inl x2)] [.inl xs0] M = some ((some (.inl xs0)), M) := by
  have h : ∀ k : KT, mgs (zlook tX9_word) nX9_word k 1 29 [some (.inr (some 0)), some (.inl x1), some (.inl x2)] [.inl xs0] M = some ((some (.inl xs0)), M) := fun k => rfl
  have h := h gX9_word
  rw [mgs_gX9_word] at h
  exact h
theorem iX9_word (M : MM) (x1 : Int32) (x2 : Int32) : mX9_word [.inr (some 0), .inl x1, .inl x2] M = gX9_word 0 [some (.inr (some 0)), some (.inl x1), some (.inl x2)] [] M := rfl
