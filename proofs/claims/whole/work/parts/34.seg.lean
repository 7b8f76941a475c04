/-! Segments of runs: what a run from a cut point on comes to (written by wip/whole/seg.py). -/
noncomputable def gX10_place : KT := mev (zlook tX10_place)
theorem ctX10_place : ∀ q ∈ tX10_place, Cont q.2 := by
  refine ccons (cont_aload _ _) ?_
  refine ccons (cont_getI _ _ _) ?_
  refine ccons (cont_push _ _) ?_
  refine ccons (cont_c_ne _ _) ?_
  refine ccons (cont_push _ _) ?_
  refine ccons (cont_iret) ?_
  refine ccons (cont_aload _ _) ?_
  refine ccons (cont_getR _ _ _) ?_
  refine ccons (cont_aload _ _) ?_
  refine ccons (cont_getI _ _ _) ?_
  refine ccons (cont_push _ _) ?_
  refine ccons (cont_ast _) ?_
  refine ccons (cont_aload _ _) ?_
  refine ccons (cont_dup _) ?_
  refine ccons (cont_getI _ _ _) ?_
  refine ccons (cont_push _ _) ?_
  refine ccons (cont_bin _ _) ?_
  refine ccons (cont_put _ _ _) ?_
  refine ccons (cont_aload _ _) ?_
  refine ccons (cont_getI _ _ _) ?_
  refine ccons (cont_iret) ?_
  exact cnil
theorem mgs_gX10_place (cut : List Nat) (n : Nat) : mgs (zlook tX10_place) cut gX10_place n = gX10_place := mgs_mev (ctab ctX10_place) cut n
def nX10_place : List Nat := [0]
set_option maxRecDepth 100000 in
theorem eX10_place_0 (M : MM) : gX10_place 0 [some (.inr (some 19))] [] M = (if (M 19 16) = (8 : Int32) then some ((some (.inl (-1 : Int32))), M) else (if (M 19 16) < 0 ∨ 8 ≤ (M 19 16).toNatClampNeg then none else some ((some (.inl ((st2 (st2 M 32 (M 19 16).toNatClampNeg (0 : Int32)) 19 16 (((st2 M 32 (M 19 16).toNatClampNeg (0 : Int32)) 19 16) + (1 : Int32))) 19 16))), (st2 (st2 M 32 (M 19 16).toNatClampNeg (0 : Int32)) 19 16 (((st2 M 32 (M 19 16).toNatClampNeg (0 : Int32)) 19 16) + (1 : Int32)))))) := by
  have h : ∀ k : KT, mgs (zlook tX10_place) nX10_place k 19 0 [some (.inr (some 19))] [] M = (if (M 19 16) = (8 : Int32) then some ((some (.inl (-1 : Int32))), M) else (if (M 19 16) < 0 ∨ 8 ≤ (M 19 16).toNatClampNeg then none else some ((some (.inl ((st2 (st2 M 32 (M 19 16).toNatClampNeg (0 : Int32)) 19 16 (((st2 M 32 (M 19 16).toNatClampNeg (0 : Int32)) 19 16) + (1 : Int32))) 19 16))), (st2 (st2 M 32 (M 19 16).toNatClampNeg (0 : Int32)) 19 16 (((st2 M 32 (M 19 16).toNatClampNeg (0 : Int32)) 19 16) + (1 : Int32)))))) := fun k => rfl
  have h := h gX10_place
  rw [mgs_gX10_place] at h
  exact h
theorem iX10_place (M : MM) : mX10_place [.inr (some 19)] M = gX10_place 0 [some (.inr (some 19))] [] M := rfl
noncomputable def gX10_word : KT := mev (zlook tX10_word)
theorem ctX10_word : ∀ q ∈ tX10_word, Cont q.2 := by
  refine ccons (cont_aload _ _) ?_
  refine ccons (cont_getI _ _ _) ?_
  refine ccons (cont_if_eq _ _) ?_
  refine ccons (cont_iload _ _) ?_
  refine ccons (cont_push _ _) ?_
  refine ccons (cont_push _ _) ?_
  refine ccons (cont_callS _ _ _) ?_
  refine ccons (cont_if_eq _ _) ?_
  refine ccons (cont_iload _ _) ?_
  refine ccons (cont_push _ _) ?_
  refine ccons (cont_push _ _) ?_
  refine ccons (cont_callS _ _ _) ?_
  refine ccons (cont_if_ne _ _) ?_
  refine ccons (cont_push _ _) ?_
  refine ccons (cont_iret) ?_
  refine ccons (cont_aload _ _) ?_
  refine ccons (cont_getI _ _ _) ?_
  refine ccons (cont_push _ _) ?_
  refine ccons (cont_bin _ _) ?_
  refine ccons (cont_istore _ _) ?_
  refine ccons (cont_push _ _) ?_
  refine ccons (cont_istore _ _) ?_
  refine ccons (cont_iload _ _) ?_
  refine ccons (cont_aload _ _) ?_
  refine ccons (cont_getR _ _ _) ?_
  refine ccons (cont_iload _ _) ?_
  refine ccons (cont_ald _ _) ?_
  refine ccons (cont_c_ge _ _) ?_
  refine ccons (cont_aload _ _) ?_
  refine ccons (cont_getR _ _ _) ?_
  refine ccons (cont_push _ _) ?_
  refine ccons (cont_iload _ _) ?_
  refine ccons (cont_bin _ _) ?_
  refine ccons (cont_iload _ _) ?_
  refine ccons (cont_bin _ _) ?_
  refine ccons (cont_ald _ _) ?_
  refine ccons (cont_iload _ _) ?_
  refine ccons (cont_c_ne _ _) ?_
  refine ccons (cont_push _ _) ?_
  refine ccons (cont_iret) ?_
  refine ccons (cont_iinc _ _ _) ?_
  refine ccons (cont_goto _) ?_
  refine ccons (cont_aload _ _) ?_
  refine ccons (cont_getR _ _ _) ?_
  refine ccons (cont_iload _ _) ?_
  refine ccons (cont_ald _ _) ?_
  refine ccons (cont_push _ _) ?_
  refine ccons (cont_c_ne _ _) ?_
  refine ccons (cont_push _ _) ?_
  refine ccons (cont_iret) ?_
  refine ccons (cont_aload _ _) ?_
  refine ccons (cont_getR _ _ _) ?_
  refine ccons (cont_push _ _) ?_
  refine ccons (cont_iload _ _) ?_
  refine ccons (cont_bin _ _) ?_
  refine ccons (cont_aload _ _) ?_
  refine ccons (cont_getR _ _ _) ?_
  refine ccons (cont_iload _ _) ?_
  refine ccons (cont_ald _ _) ?_
  refine ccons (cont_bin _ _) ?_
  refine ccons (cont_iload _ _) ?_
  refine ccons (cont_ast _) ?_
  refine ccons (cont_aload _ _) ?_
  refine ccons (cont_getR _ _ _) ?_
  refine ccons (cont_push _ _) ?_
  refine ccons (cont_iload _ _) ?_
  refine ccons (cont_bin _ _) ?_
  refine ccons (cont_aload _ _) ?_
  refine ccons (cont_getR _ _ _) ?_
  refine ccons (cont_iload _ _) ?_
  refine ccons (cont_ald _ _) ?_
  refine ccons (cont_bin _ _) ?_
  refine ccons (cont_iload _ _) ?_
  refine ccons (cont_ast _) ?_
  refine ccons (cont_aload _ _) ?_
  refine ccons (cont_getR _ _ _) ?_
  refine ccons (cont_iload _ _) ?_
  refine ccons (cont_dup2 _) ?_
  refine ccons (cont_ald _ _) ?_
  refine ccons (cont_push _ _) ?_
  refine ccons (cont_bin _ _) ?_
  refine ccons (cont_ast _) ?_
  refine ccons (cont_aload _ _) ?_
  refine ccons (cont_getR _ _ _) ?_
  refine ccons (cont_iload _ _) ?_
  refine ccons (cont_ald _ _) ?_
  refine ccons (cont_iret) ?_
  exact cnil
theorem mgs_gX10_word (cut : List Nat) (n : Nat) : mgs (zlook tX10_word) cut gX10_word n = gX10_word := mgs_mev (ctab ctX10_word) cut n
def nX10_word : List Nat := [0, 14, 24, 39]
set_option maxRecDepth 100000 in
theorem eX10_word_0 (M : MM) (x1 : Int32) (x2 : Int32) : gX10_word 0 [some (.inr (some 19)), some (.inl x1), some (.inl x2), none, none] [] M = (if (M 19 16) = 0 then some ((some (.inl (-1 : Int32))), M) else (mX10_isIn [.inl x1, .inl (0 : Int32), .inl (59 : Int32)] M).bind (fun r => gX10_word 14 [some (.inr (some 19)), some (.inl x1), some (.inl x2), none, none] (r.1.toList ++ []) r.2)) := by
  have h : ∀ k : KT, mgs (zlook tX10_word) nX10_word k 7 0 [some (.inr (some 19)), some (.inl x1), some (.inl x2), none, none] [] M = (if (M 19 16) = 0 then some ((some (.inl (-1 : Int32))), M) else (mX10_isIn [.inl x1, .inl (0 : Int32), .inl (59 : Int32)] M).bind (fun r => k 14 [some (.inr (some 19)), some (.inl x1), some (.inl x2), none, none] (r.1.toList ++ []) r.2)) := fun k => rfl
  have h := h gX10_word
  rw [mgs_gX10_word] at h
  exact h
set_option maxRecDepth 100000 in
theorem eX10_word_14 (M : MM) (x1 : Int32) (x2 : Int32) (xs0 : Int32) : gX10_word 14 [some (.inr (some 19)), some (.inl x1), some (.inl x2), none, none] [.inl xs0] M = (if xs0 = 0 then some ((some (.inl (-1 : Int32))), M) else (mX10_isIn [.inl x2, .inl (0 : Int32), .inl (99 : Int32)] M).bind (fun r => gX10_word 24 [some (.inr (some 19)), some (.inl x1), some (.inl x2), none, none] (r.1.toList ++ []) r.2)) := by
  have h : ∀ k : KT, mgs (zlook tX10_word) nX10_word k 5 14 [some (.inr (some 19)), some (.inl x1), some (.inl x2), none, none] [.inl xs0] M = (if xs0 = 0 then some ((some (.inl (-1 : Int32))), M) else (mX10_isIn [.inl x2, .inl (0 : Int32), .inl (99 : Int32)] M).bind (fun r => k 24 [some (.inr (some 19)), some (.inl x1), some (.inl x2), none, none] (r.1.toList ++ []) r.2)) := fun k => rfl
  have h := h gX10_word
  rw [mgs_gX10_word] at h
  exact h
set_option maxRecDepth 100000 in
theorem eX10_word_24 (M : MM) (x1 : Int32) (x2 : Int32) (xs0 : Int32) : gX10_word 24 [some (.inr (some 19)), some (.inl x1), some (.inl x2), none, none] [.inl xs0] M = (if xs0 = 0 then some ((some (.inl (-1 : Int32))), M) else gX10_word 39 [some (.inr (some 19)), some (.inl x1), some (.inl x2), some (.inl ((M 19 16) - (1 : Int32))), some (.inl (0 : Int32))] [] M) := by
  have h : ∀ k : KT, mgs (zlook tX10_word) nX10_word k 8 24 [some (.inr (some 19)), some (.inl x1), some (.inl x2), none, none] [.inl xs0] M = (if xs0 = 0 then some ((some (.inl (-1 : Int32))), M) else k 39 [some (.inr (some 19)), some (.inl x1), some (.inl x2), some (.inl ((M 19 16) - (1 : Int32))), some (.inl (0 : Int32))] [] M) := fun k => rfl
  have h := h gX10_word
  rw [mgs_gX10_word] at h
  exact h
set_option maxRecDepth 100000 in
theorem eX10_word_39 (M : MM) (x1 : Int32) (x2 : Int32) (x3 : Int32) (x4 : Int32) : gX10_word 39 [some (.inr (some 19)), some (.inl x1), some (.inl x2), some (.inl x3), some (.inl x4)] [] M = (if x3 < 0 ∨ 8 ≤ x3.toNatClampNeg then none else (if (M 32 x3.toNatClampNeg) ≤ x4 then (if x3 < 0 ∨ 8 ≤ x3.toNatClampNeg then none else (if (M 32 x3.toNatClampNeg) = (4 : Int32) then some ((some (.inl (-1 : Int32))), M) else (if x3 < 0 ∨ 8 ≤ x3.toNatClampNeg then none else (if (((4 : Int32) * x3) + (M 32 x3.toNatClampNeg)) < 0 ∨ 32 ≤ (((4 : Int32) * x3) + (M 32 x3.toNatClampNeg)).toNatClampNeg then none else (if x3 < 0 ∨ 8 ≤ x3.toNatClampNeg then none else (if (((4 : Int32) * x3) + ((st2 M 33 (((4 : Int32) * x3) + (M 32 x3.toNatClampNeg)).toNatClampNeg x1) 32 x3.toNatClampNeg)) < 0 ∨ 32 ≤ (((4 : Int32) * x3) + ((st2 M 33 (((4 : Int32) * x3) + (M 32 x3.toNatClampNeg)).toNatClampNeg x1) 32 x3.toNatClampNeg)).toNatClampNeg then none else (if x3 < 0 ∨ 8 ≤ x3.toNatClampNeg then none else (if x3 < 0 ∨ 8 ≤ x3.toNatClampNeg then none else (if x3 < 0 ∨ 8 ≤ x3.toNatClampNeg then none else some ((some (.inl ((st2 (st2 (st2 M 33 (((4 : Int32) * x3) + (M 32 x3.toNatClampNeg)).toNatClampNeg x1) 34 (((4 : Int32) * x3) + ((st2 M 33 (((4 : Int32) * x3) + (M 32 x3.toNatClampNeg)).toNatClampNeg x1) 32 x3.toNatClampNeg)).toNatClampNeg x2) 32 x3.toNatClampNeg (((st2 (st2 M 33 (((4 : Int32) * x3) + (M 32 x3.toNatClampNeg)).toNatClampNeg x1) 34 (((4 : Int32) * x3) + ((st2 M 33 (((4 : Int32) * x3) + (M 32 x3.toNatClampNeg)).toNatClampNeg x1) 32 x3.toNatClampNeg)).toNatClampNeg x2) 32 x3.toNatClampNeg) + (1 : Int32))) 32 x3.toNatClampNeg))), (st2 (st2 (st2 M 33 (((4 : Int32) * x3) + (M 32 x3.toNatClampNeg)).toNatClampNeg x1) 34 (((4 : Int32) * x3) + ((st2 M 33 (((4 : Int32) * x3) + (M 32 x3.toNatClampNeg)).toNatClampNeg x1) 32 x3.toNatClampNeg)).toNatClampNeg x2) 32 x3.toNatClampNeg (((st2 (st2 M 33 (((4 : Int32) * x3) + (M 32 x3.toNatClampNeg)).toNatClampNeg x1) 34 (((4 : Int32) * x3) + ((st2 M 33 (((4 : Int32) * x3) + (M 32 x3.toNatClampNeg)).toNatClampNeg x1) 32 x3.toNatClampNeg)).toNatClampNeg x2) 32 x3.toNatClampNeg) + (1 : Int32))))))))))))) else (if (((4 : Int32) * x3) + x4) < 0 ∨ 32 ≤ (((4 : Int32) * x3) + x4).toNatClampNeg then none else (if (M 33 (((4 : Int32) * x3) + x4).toNatClampNeg) = x1 then some ((some (.inl (-1 : Int32))), M) else gX10_word 39 [some (.inr (some 19)), some (.inl x1), some (.inl x2), some (.inl x3), some (.inl (x4 + (1 : Int32)))] [] M)))) := by
  have h : ∀ k : KT, mgs (zlook tX10_word) nX10_word k 49 39 [some (.inr (some 19)), some (.inl x1), some (.inl x2), some (.inl x3), some (.inl x4)] [] M = (if x3 < 0 ∨ 8 ≤ x3.toNatClampNeg then none else (if (M 32 x3.toNatClampNeg) ≤ x4 then (if x3 < 0 ∨ 8 ≤ x3.toNatClampNeg then none else (if (M 32 x3.toNatClampNeg) = (4 : Int32) then some ((some (.inl (-1 : Int32))), M) else (if x3 < 0 ∨ 8 ≤ x3.toNatClampNeg then none else (if (((4 : Int32) * x3) + (M 32 x3.toNatClampNeg)) < 0 ∨ 32 ≤ (((4 : Int32) * x3) + (M 32 x3.toNatClampNeg)).toNatClampNeg then none else (if x3 < 0 ∨ 8 ≤ x3.toNatClampNeg then none else (if (((4 : Int32) * x3) + ((st2 M 33 (((4 : Int32) * x3) + (M 32 x3.toNatClampNeg)).toNatClampNeg x1) 32 x3.toNatClampNeg)) < 0 ∨ 32 ≤ (((4 : Int32) * x3) + ((st2 M 33 (((4 : Int32) * x3) + (M 32 x3.toNatClampNeg)).toNatClampNeg x1) 32 x3.toNatClampNeg)).toNatClampNeg then none else (if x3 < 0 ∨ 8 ≤ x3.toNatClampNeg then none else (if x3 < 0 ∨ 8 ≤ x3.toNatClampNeg then none else (if x3 < 0 ∨ 8 ≤ x3.toNatClampNeg then none else some ((some (.inl ((st2 (st2 (st2 M 33 (((4 : Int32) * x3) + (M 32 x3.toNatClampNeg)).toNatClampNeg x1) 34 (((4 : Int32) * x3) + ((st2 M 33 (((4 : Int32) * x3) + (M 32 x3.toNatClampNeg)).toNatClampNeg x1) 32 x3.toNatClampNeg)).toNatClampNeg x2) 32 x3.toNatClampNeg (((st2 (st2 M 33 (((4 : Int32) * x3) + (M 32 x3.toNatClampNeg)).toNatClampNeg x1) 34 (((4 : Int32) * x3) + ((st2 M 33 (((4 : Int32) * x3) + (M 32 x3.toNatClampNeg)).toNatClampNeg x1) 32 x3.toNatClampNeg)).toNatClampNeg x2) 32 x3.toNatClampNeg) + (1 : Int32))) 32 x3.toNatClampNeg))), (st2 (st2 (st2 M 33 (((4 : Int32) * x3) + (M 32 x3.toNatClampNeg)).toNatClampNeg x1) 34 (((4 : Int32) * x3) + ((st2 M 33 (((4 : Int32) * x3) + (M 32 x3.toNatClampNeg)).toNatClampNeg x1) 32 x3.toNatClampNeg)).toNatClampNeg x2) 32 x3.toNatClampNeg (((st2 (st2 M 33 (((4 : Int32) * x3) + (M 32 x3.toNatClampNeg)).toNatClampNeg x1) 34 (((4 : Int32) * x3) + ((st2 M 33 (((4 : Int32) * x3) + (M 32 x3.toNatClampNeg)).toNatClampNeg x1) 32 x3.toNatClampNeg)).toNatClampNeg x2) 32 x3.toNatClampNeg) + (1 : Int32))))))))))))) else (if (((4 : Int32) * x3) + x4) < 0 ∨ 32 ≤ (((4 : Int32) * x3) + x4).toNatClampNeg then none else (if (M 33 (((4 : Int32) * x3) + x4).toNatClampNeg) = x1 then some ((some (.inl (-1 : Int32))), M) else k 39 [some (.inr (some 19)), some (.inl x1), some (.inl x2), some (.inl x3), some (.inl (x4 + (1 : Int32)))] [] M)))) := fun k => rfl
  have h := h gX10_word
  rw [mgs_gX10_word] at h
  exact h
theorem iX10_word (M : MM) (x1 : Int32) (x2 : Int32) : mX10_word [.inr (some 19), .inl x1, .inl x2] M = gX10_word 0 [some (.inr (some 19)), some (.inl x1), some (.inl x2), none, none] [] M := rfl
noncomputable def gX10_isAhead : KT := mev (zlook tX10_isAhead)
theorem ctX10_isAhead : ∀ q ∈ tX10_isAhead, Cont q.2 := by
  refine ccons (cont_iload _ _) ?_
  refine ccons (cont_iload _ _) ?_
  refine ccons (cont_c_eq _ _) ?_
  refine ccons (cont_iload _ _) ?_
  refine ccons (cont_iload _ _) ?_
  refine ccons (cont_c_ge _ _) ?_
  refine ccons (cont_push _ _) ?_
  refine ccons (cont_goto _) ?_
  refine ccons (cont_push _ _) ?_
  refine ccons (cont_goto _) ?_
  refine ccons (cont_iload _ _) ?_
  refine ccons (cont_iload _ _) ?_
  refine ccons (cont_c_eq _ _) ?_
  refine ccons (cont_iload _ _) ?_
  refine ccons (cont_iload _ _) ?_
  refine ccons (cont_c_ge _ _) ?_
  refine ccons (cont_push _ _) ?_
  refine ccons (cont_goto _) ?_
  refine ccons (cont_push _ _) ?_
  refine ccons (cont_goto _) ?_
  refine ccons (cont_iload _ _) ?_
  refine ccons (cont_iload _ _) ?_
  refine ccons (cont_c_ge _ _) ?_
  refine ccons (cont_push _ _) ?_
  refine ccons (cont_goto _) ?_
  refine ccons (cont_push _ _) ?_
  refine ccons (cont_zret) ?_
  exact cnil
theorem mgs_gX10_isAhead (cut : List Nat) (n : Nat) : mgs (zlook tX10_isAhead) cut gX10_isAhead n = gX10_isAhead := mgs_mev (ctab ctX10_isAhead) cut n
def nX10_isAhead : List Nat := [0]
set_option maxRecDepth 100000 in
theorem eX10_isAhead_0 (M : MM) (x0 : Int32) (x1 : Int32) (x2 : Int32) (x3 : Int32) (x4 : Int32) (x5 : Int32) : gX10_isAhead 0 [some (.inl x0), some (.inl x1), some (.inl x2), some (.inl x3), some (.inl x4), some (.inl x5)] [] M = (if x0 = x3 then (if x1 = x4 then (if x5 ≤ x2 then some ((some (.inl (0 : Int32))), M) else some ((some (.inl (1 : Int32))), M)) else (if x4 ≤ x1 then some ((some (.inl (0 : Int32))), M) else some ((some (.inl (1 : Int32))), M))) else (if x3 ≤ x0 then some ((some (.inl (0 : Int32))), M) else some ((some (.inl (1 : Int32))), M))) := by
  have h : ∀ k : KT, mgs (zlook tX10_isAhead) nX10_isAhead k 12 0 [some (.inl x0), some (.inl x1), some (.inl x2), some (.inl x3), some (.inl x4), some (.inl x5)] [] M = (if x0 = x3 then (if x1 = x4 then (if x5 ≤ x2 then some ((some (.inl (0 : Int32))), M) else some ((some (.inl (1 : Int32))), M)) else (if x4 ≤ x1 then some ((some (.inl (0 : Int32))), M) else some ((some (.inl (1 : Int32))), M))) else (if x3 ≤ x0 then some ((some (.inl (0 : Int32))), M) else some ((some (.inl (1 : Int32))), M))) := fun k => rfl
  have h := h gX10_isAhead
  rw [mgs_gX10_isAhead] at h
  exact h
theorem iX10_isAhead (M : MM) (x0 : Int32) (x1 : Int32) (x2 : Int32) (x3 : Int32) (x4 : Int32) (x5 : Int32) : mX10_isAhead [.inl x0, .inl x1, .inl x2, .inl x3, .inl x4, .inl x5] M = gX10_isAhead 0 [some (.inl x0), some (.inl x1), some (.inl x2), some (.inl x3), some (.inl x4), some (.inl x5)] [] M := rfl
noncomputable def gX10_set : KT := mev (zlook tX10_set)
theorem ctX10_set : ∀ q ∈ tX10_set, Cont q.2 := by
  refine ccons (cont_aload _ _) ?_
  refine ccons (cont_getR _ _ _) ?_
  refine ccons (cont_iload _ _) ?_
  refine ccons (cont_iload _ _) ?_
  refine ccons (cont_ast _) ?_
  refine ccons (cont_aload _ _) ?_
  refine ccons (cont_getR _ _ _) ?_
  refine ccons (cont_iload _ _) ?_
  refine ccons (cont_iload _ _) ?_
  refine ccons (cont_ast _) ?_
  refine ccons (cont_aload _ _) ?_
  refine ccons (cont_getR _ _ _) ?_
  refine ccons (cont_iload _ _) ?_
  refine ccons (cont_iload _ _) ?_
  refine ccons (cont_ast _) ?_
  refine ccons (cont_vret) ?_
  exact cnil
theorem mgs_gX10_set (cut : List Nat) (n : Nat) : mgs (zlook tX10_set) cut gX10_set n = gX10_set := mgs_mev (ctab ctX10_set) cut n
def nX10_set : List Nat := [0]
set_option maxRecDepth 100000 in
theorem eX10_set_0 (M : MM) (x1 : Int32) (x2 : Int32) (x3 : Int32) (x4 : Int32) : gX10_set 0 [some (.inr (some 19)), some (.inl x1), some (.inl x2), some (.inl x3), some (.inl x4)] [] M = (if x1 < 0 ∨ 2 ≤ x1.toNatClampNeg then none else (if x1 < 0 ∨ 2 ≤ x1.toNatClampNeg then none else (if x1 < 0 ∨ 2 ≤ x1.toNatClampNeg then none else some (none, (st2 (st2 (st2 M 37 x1.toNatClampNeg x2) 35 x1.toNatClampNeg x3) 36 x1.toNatClampNeg x4))))) := by
  have h : ∀ k : KT, mgs (zlook tX10_set) nX10_set k 16 0 [some (.inr (some 19)), some (.inl x1), some (.inl x2), some (.inl x3), some (.inl x4)] [] M = (if x1 < 0 ∨ 2 ≤ x1.toNatClampNeg then none else (if x1 < 0 ∨ 2 ≤ x1.toNatClampNeg then none else (if x1 < 0 ∨ 2 ≤ x1.toNatClampNeg then none else some (none, (st2 (st2 (st2 M 37 x1.toNatClampNeg x2) 35 x1.toNatClampNeg x3) 36 x1.toNatClampNeg x4))))) := fun k => rfl
  have h := h gX10_set
  rw [mgs_gX10_set] at h
  exact h
theorem iX10_set (M : MM) (x1 : Int32) (x2 : Int32) (x3 : Int32) (x4 : Int32) : mX10_set [.inr (some 19), .inl x1, .inl x2, .inl x3, .inl x4] M = gX10_set 0 [some (.inr (some 19)), some (.inl x1), some (.inl x2), some (.inl x3), some (.inl x4)] [] M := rfl
noncomputable def gX10_found : KT := mev (zlook tX10_found)
theorem ctX10_found : ∀ q ∈ tX10_found, Cont q.2 := by
  refine ccons (cont_aload _ _) ?_
  refine ccons (cont_getR _ _ _) ?_
  refine ccons (cont_push _ _) ?_
  refine ccons (cont_ald _ _) ?_
  refine ccons (cont_push _ _) ?_
  refine ccons (cont_c_ge _ _) ?_
  refine ccons (cont_aload _ _) ?_
  refine ccons (cont_getR _ _ _) ?_
  refine ccons (cont_push _ _) ?_
  refine ccons (cont_ald _ _) ?_
  refine ccons (cont_iload _ _) ?_
  refine ccons (cont_c_ne _ _) ?_
  refine ccons (cont_aload _ _) ?_
  refine ccons (cont_getR _ _ _) ?_
  refine ccons (cont_push _ _) ?_
  refine ccons (cont_ald _ _) ?_
  refine ccons (cont_iload _ _) ?_
  refine ccons (cont_c_ne _ _) ?_
  refine ccons (cont_iload _ _) ?_
  refine ccons (cont_aload _ _) ?_
  refine ccons (cont_getR _ _ _) ?_
  refine ccons (cont_push _ _) ?_
  refine ccons (cont_ald _ _) ?_
  refine ccons (cont_c_ge _ _) ?_
  refine ccons (cont_aload _ _) ?_
  refine ccons (cont_getR _ _ _) ?_
  refine ccons (cont_push _ _) ?_
  refine ccons (cont_iload _ _) ?_
  refine ccons (cont_ast _) ?_
  refine ccons (cont_vret) ?_
  refine ccons (cont_iload _ _) ?_
  refine ccons (cont_iload _ _) ?_
  refine ccons (cont_iload _ _) ?_
  refine ccons (cont_aload _ _) ?_
  refine ccons (cont_getR _ _ _) ?_
  refine ccons (cont_push _ _) ?_
  refine ccons (cont_ald _ _) ?_
  refine ccons (cont_aload _ _) ?_
  refine ccons (cont_getR _ _ _) ?_
  refine ccons (cont_push _ _) ?_
  refine ccons (cont_ald _ _) ?_
  refine ccons (cont_aload _ _) ?_
  refine ccons (cont_getR _ _ _) ?_
  refine ccons (cont_push _ _) ?_
  refine ccons (cont_ald _ _) ?_
  refine ccons (cont_callS _ _ _) ?_
  refine ccons (cont_if_eq _ _) ?_
  refine ccons (cont_aload _ _) ?_
  refine ccons (cont_push _ _) ?_
  refine ccons (cont_aload _ _) ?_
  refine ccons (cont_getR _ _ _) ?_
  refine ccons (cont_push _ _) ?_
  refine ccons (cont_ald _ _) ?_
  refine ccons (cont_aload _ _) ?_
  refine ccons (cont_getR _ _ _) ?_
  refine ccons (cont_push _ _) ?_
  refine ccons (cont_ald _ _) ?_
  refine ccons (cont_aload _ _) ?_
  refine ccons (cont_getR _ _ _) ?_
  refine ccons (cont_push _ _) ?_
  refine ccons (cont_ald _ _) ?_
  refine ccons (cont_callV _ _ _ _) ?_
  refine ccons (cont_aload _ _) ?_
  refine ccons (cont_push _ _) ?_
  refine ccons (cont_iload _ _) ?_
  refine ccons (cont_iload _ _) ?_
  refine ccons (cont_iload _ _) ?_
  refine ccons (cont_callV _ _ _ _) ?_
  refine ccons (cont_goto _) ?_
  refine ccons (cont_iload _ _) ?_
  refine ccons (cont_iload _ _) ?_
  refine ccons (cont_iload _ _) ?_
  refine ccons (cont_aload _ _) ?_
  refine ccons (cont_getR _ _ _) ?_
  refine ccons (cont_push _ _) ?_
  refine ccons (cont_ald _ _) ?_
  refine ccons (cont_aload _ _) ?_
  refine ccons (cont_getR _ _ _) ?_
  refine ccons (cont_push _ _) ?_
  refine ccons (cont_ald _ _) ?_
  refine ccons (cont_aload _ _) ?_
  refine ccons (cont_getR _ _ _) ?_
  refine ccons (cont_push _ _) ?_
  refine ccons (cont_ald _ _) ?_
  refine ccons (cont_callS _ _ _) ?_
  refine ccons (cont_if_eq _ _) ?_
  refine ccons (cont_aload _ _) ?_
  refine ccons (cont_push _ _) ?_
  refine ccons (cont_iload _ _) ?_
  refine ccons (cont_iload _ _) ?_
  refine ccons (cont_iload _ _) ?_
  refine ccons (cont_callV _ _ _ _) ?_
  refine ccons (cont_vret) ?_
  exact cnil
theorem mgs_gX10_found (cut : List Nat) (n : Nat) : mgs (zlook tX10_found) cut gX10_found n = gX10_found := mgs_mev (ctab ctX10_found) cut n
def nX10_found : List Nat := [0, 49, 73, 99, 107, 134, 145]
set_option maxRecDepth 100000 in
theorem eX10_found_0 (M : MM) (x1 : Int32) (x2 : Int32) (x3 : Int32) : gX10_found 0 [some (.inr (some 19)), some (.inl x1), some (.inl x2), some (.inl x3)] [] M = (if (1000000 : Int32) ≤ (M 37 0) then gX10_found 49 [some (.inr (some 19)), some (.inl x1), some (.inl x2), some (.inl x3)] [] M else (if (M 35 0) = x2 then (if (M 36 0) = x3 then (if (M 37 0) ≤ x1 then some (none, M) else some (none, (st2 M 37 0 x1))) else gX10_found 49 [some (.inr (some 19)), some (.inl x1), some (.inl x2), some (.inl x3)] [] M) else gX10_found 49 [some (.inr (some 19)), some (.inl x1), some (.inl x2), some (.inl x3)] [] M)) := by
  have h : ∀ k : KT, mgs (zlook tX10_found) nX10_found k 30 0 [some (.inr (some 19)), some (.inl x1), some (.inl x2), some (.inl x3)] [] M = (if (1000000 : Int32) ≤ (M 37 0) then k 49 [some (.inr (some 19)), some (.inl x1), some (.inl x2), some (.inl x3)] [] M else (if (M 35 0) = x2 then (if (M 36 0) = x3 then (if (M 37 0) ≤ x1 then some (none, M) else some (none, (st2 M 37 0 x1))) else k 49 [some (.inr (some 19)), some (.inl x1), some (.inl x2), some (.inl x3)] [] M) else k 49 [some (.inr (some 19)), some (.inl x1), some (.inl x2), some (.inl x3)] [] M)) := fun k => rfl
  have h := h gX10_found
  rw [mgs_gX10_found] at h
  exact h
set_option maxRecDepth 100000 in
theorem eX10_found_49 (M : MM) (x1 : Int32) (x2 : Int32) (x3 : Int32) : gX10_found 49 [some (.inr (some 19)), some (.inl x1), some (.inl x2), some (.inl x3)] [] M = (mX10_isAhead [.inl x1, .inl x2, .inl x3, .inl (M 37 0), .inl (M 35 0), .inl (M 36 0)] M).bind (fun r => gX10_found 73 [some (.inr (some 19)), some (.inl x1), some (.inl x2), some (.inl x3)] (r.1.toList ++ []) r.2) := by
  have h : ∀ k : KT, mgs (zlook tX10_found) nX10_found k 16 49 [some (.inr (some 19)), some (.inl x1), some (.inl x2), some (.inl x3)] [] M = (mX10_isAhead [.inl x1, .inl x2, .inl x3, .inl (M 37 0), .inl (M 35 0), .inl (M 36 0)] M).bind (fun r => k 73 [some (.inr (some 19)), some (.inl x1), some (.inl x2), some (.inl x3)] (r.1.toList ++ []) r.2) := fun k => rfl
  have h := h gX10_found
  rw [mgs_gX10_found] at h
  exact h
set_option maxRecDepth 100000 in
theorem eX10_found_73 (M : MM) (x1 : Int32) (x2 : Int32) (x3 : Int32) (xs0 : Int32) : gX10_found 73 [some (.inr (some 19)), some (.inl x1), some (.inl x2), some (.inl x3)] [.inl xs0] M = (if xs0 = 0 then (mX10_isAhead [.inl x1, .inl x2, .inl x3, .inl (M 37 1), .inl (M 35 1), .inl (M 36 1)] M).bind (fun r => gX10_found 134 [some (.inr (some 19)), some (.inl x1), some (.inl x2), some (.inl x3)] (r.1.toList ++ []) r.2) else (mX10_set [.inr (some 19), .inl (1 : Int32), .inl (M 37 0), .inl (M 35 0), .inl (M 36 0)] M).bind (fun r => gX10_found 99 [some (.inr (some 19)), some (.inl x1), some (.inl x2), some (.inl x3)] (r.1.toList ++ []) r.2)) := by
  have h : ∀ k : KT, mgs (zlook tX10_found) nX10_found k 17 73 [some (.inr (some 19)), some (.inl x1), some (.inl x2), some (.inl x3)] [.inl xs0] M = (if xs0 = 0 then (mX10_isAhead [.inl x1, .inl x2, .inl x3, .inl (M 37 1), .inl (M 35 1), .inl (M 36 1)] M).bind (fun r => k 134 [some (.inr (some 19)), some (.inl x1), some (.inl x2), some (.inl x3)] (r.1.toList ++ []) r.2) else (mX10_set [.inr (some 19), .inl (1 : Int32), .inl (M 37 0), .inl (M 35 0), .inl (M 36 0)] M).bind (fun r => k 99 [some (.inr (some 19)), some (.inl x1), some (.inl x2), some (.inl x3)] (r.1.toList ++ []) r.2)) := fun k => rfl
  have h := h gX10_found
  rw [mgs_gX10_found] at h
  exact h
set_option maxRecDepth 100000 in
theorem eX10_found_99 (M : MM) (x1 : Int32) (x2 : Int32) (x3 : Int32) : gX10_found 99 [some (.inr (some 19)), some (.inl x1), some (.inl x2), some (.inl x3)] [] M = (mX10_set [.inr (some 19), .inl (0 : Int32), .inl x1, .inl x2, .inl x3] M).bind (fun r => gX10_found 107 [some (.inr (some 19)), some (.inl x1), some (.inl x2), some (.inl x3)] (r.1.toList ++ []) r.2) := by
  have h : ∀ k : KT, mgs (zlook tX10_found) nX10_found k 6 99 [some (.inr (some 19)), some (.inl x1), some (.inl x2), some (.inl x3)] [] M = (mX10_set [.inr (some 19), .inl (0 : Int32), .inl x1, .inl x2, .inl x3] M).bind (fun r => k 107 [some (.inr (some 19)), some (.inl x1), some (.inl x2), some (.inl x3)] (r.1.toList ++ []) r.2) := fun k => rfl
  have h := h gX10_found
  rw [mgs_gX10_found] at h
  exact h
set_option maxRecDepth 100000 in
theorem eX10_found_107 (M : MM) (x1 : Int32) (x2 : Int32) (x3 : Int32) : gX10_found 107 [some (.inr (some 19)), some (.inl x1), some (.inl x2), some (.inl x3)] [] M = gX10_found 145 [some (.inr (some 19)), some (.inl x1), some (.inl x2), some (.inl x3)] [] M := by
  have h : ∀ k : KT, mgs (zlook tX10_found) nX10_found k 1 107 [some (.inr (some 19)), some (.inl x1), some (.inl x2), some (.inl x3)] [] M = k 145 [some (.inr (some 19)), some (.inl x1), some (.inl x2), some (.inl x3)] [] M := fun k => rfl
  have h := h gX10_found
  rw [mgs_gX10_found] at h
  exact h
set_option maxRecDepth 100000 in
theorem eX10_found_134 (M : MM) (x1 : Int32) (x2 : Int32) (x3 : Int32) (xs0 : Int32) : gX10_found 134 [some (.inr (some 19)), some (.inl x1), some (.inl x2), some (.inl x3)] [.inl xs0] M = (if xs0 = 0 then gX10_found 145 [some (.inr (some 19)), some (.inl x1), some (.inl x2), some (.inl x3)] [] M else (mX10_set [.inr (some 19), .inl (1 : Int32), .inl x1, .inl x2, .inl x3] M).bind (fun r => gX10_found 145 [some (.inr (some 19)), some (.inl x1), some (.inl x2), some (.inl x3)] (r.1.toList ++ []) r.2)) := by
  have h : ∀ k : KT, mgs (zlook tX10_found) nX10_found k 7 134 [some (.inr (some 19)), some (.inl x1), some (.inl x2), some (.inl x3)] [.inl xs0] M = (if xs0 = 0 then k 145 [some (.inr (some 19)), some (.inl x1), some (.inl x2), some (.inl x3)] [] M else (mX10_set [.inr (some 19), .inl (1 : Int32), .inl x1, .inl x2, .inl x3] M).bind (fun r => k 145 [some (.inr (some 19)), some (.inl x1), some (.inl x2), some (.inl x3)] (r.1.toList ++ []) r.2)) := fun k => rfl
  have h := h gX10_found
  rw [mgs_gX10_found] at h
  exact h
set_option maxRecDepth 100000 in
theorem eX10_found_145 (M : MM) (x1 : Int32) (x2 : Int32) (x3 : Int32) : gX10_found 145 [some (.inr (some 19)), some (.inl x1), some (.inl x2), some (.inl x3)] [] M = some (none, M) := by
  have h : ∀ k : KT, mgs (zlook tX10_found) nX10_found k 1 145 [some (.inr (some 19)), some (.inl x1), some (.inl x2), some (.inl x3)] [] M = some (none, M) := fun k => rfl
  have h := h gX10_found
  rw [mgs_gX10_found] at h
  exact h
theorem iX10_found (M : MM) (x1 : Int32) (x2 : Int32) (x3 : Int32) : mX10_found [.inr (some 19), .inl x1, .inl x2, .inl x3] M = gX10_found 0 [some (.inr (some 19)), some (.inl x1), some (.inl x2), some (.inl x3)] [] M := rfl
noncomputable def gX10_holds : KT := mev (zlook tX10_holds)
theorem ctX10_holds : ∀ q ∈ tX10_holds, Cont q.2 := by
  refine ccons (cont_push _ _) ?_
  refine ccons (cont_istore _ _) ?_
  refine ccons (cont_iload _ _) ?_
  refine ccons (cont_istore _ _) ?_
  refine ccons (cont_push _ _) ?_
  refine ccons (cont_istore _ _) ?_
  refine ccons (cont_iload _ _) ?_
  refine ccons (cont_iload _ _) ?_
  refine ccons (cont_c_ge _ _) ?_
  refine ccons (cont_iload _ _) ?_
  refine ccons (cont_push _ _) ?_
  refine ccons (cont_rem _) ?_
  refine ccons (cont_istore _ _) ?_
  refine ccons (cont_iload _ _) ?_
  refine ccons (cont_push _ _) ?_
  refine ccons (cont_div _) ?_
  refine ccons (cont_istore _ _) ?_
  refine ccons (cont_iload _ _) ?_
  refine ccons (cont_push _ _) ?_
  refine ccons (cont_rem _) ?_
  refine ccons (cont_push _ _) ?_
  refine ccons (cont_c_ne _ _) ?_
  refine ccons (cont_push _ _) ?_
  refine ccons (cont_iload _ _) ?_
  refine ccons (cont_bin _ _) ?_
  refine ccons (cont_goto _) ?_
  refine ccons (cont_iload _ _) ?_
  refine ccons (cont_istore _ _) ?_
  refine ccons (cont_iload _ _) ?_
  refine ccons (cont_iload _ _) ?_
  refine ccons (cont_push _ _) ?_
  refine ccons (cont_c_le _ _) ?_
  refine ccons (cont_iload _ _) ?_
  refine ccons (cont_push _ _) ?_
  refine ccons (cont_bin _ _) ?_
  refine ccons (cont_goto _) ?_
  refine ccons (cont_iload _ _) ?_
  refine ccons (cont_bin _ _) ?_
  refine ccons (cont_istore _ _) ?_
  refine ccons (cont_iinc _ _ _) ?_
  refine ccons (cont_goto _) ?_
  refine ccons (cont_iload _ _) ?_
  refine ccons (cont_push _ _) ?_
  refine ccons (cont_rem _) ?_
  refine ccons (cont_if_ne _ _) ?_
  refine ccons (cont_push _ _) ?_
  refine ccons (cont_goto _) ?_
  refine ccons (cont_push _ _) ?_
  refine ccons (cont_zret) ?_
  exact cnil
theorem mgs_gX10_holds (cut : List Nat) (n : Nat) : mgs (zlook tX10_holds) cut gX10_holds n = gX10_holds := mgs_mev (ctab ctX10_holds) cut n
def nX10_holds : List Nat := [0, 8, 45]
set_option maxRecDepth 100000 in
theorem eX10_holds_0 (M : MM) (x1 : Int32) (x2 : Int32) : gX10_holds 0 [some (.inr (some 19)), some (.inl x1), some (.inl x2), none, none, none, none, none] [] M = gX10_holds 8 [some (.inr (some 19)), some (.inl x1), some (.inl x2), some (.inl (0 : Int32)), some (.inl x1), some (.inl (0 : Int32)), none, none] [] M := by
  have h : ∀ k : KT, mgs (zlook tX10_holds) nX10_holds k 6 0 [some (.inr (some 19)), some (.inl x1), some (.inl x2), none, none, none, none, none] [] M = k 8 [some (.inr (some 19)), some (.inl x1), some (.inl x2), some (.inl (0 : Int32)), some (.inl x1), some (.inl (0 : Int32)), none, none] [] M := fun k => rfl
  have h := h gX10_holds
  rw [mgs_gX10_holds] at h
  exact h
set_option maxRecDepth 100000 in
theorem eX10_holds_8 (M : MM) (x1 : Int32) (x2 : Int32) (x3 : Int32) (x4 : Int32) (x5 : Int32) (d6 : Option AV) (d7 : Option AV) : gX10_holds 8 [some (.inr (some 19)), some (.inl x1), some (.inl x2), some (.inl x3), some (.inl x4), some (.inl x5), d6, d7] [] M = (if x2 ≤ x5 then (if (x3 - x3 / (10 : Int32) * (10 : Int32)) = 0 then some ((some (.inl (1 : Int32))), M) else some ((some (.inl (0 : Int32))), M)) else (if (x5 - x5 / (2 : Int32) * (2 : Int32)) = (1 : Int32) then gX10_holds 45 [some (.inr (some 19)), some (.inl x1), some (.inl x2), some (.inl x3), some (.inl (x4 / (10 : Int32))), some (.inl x5), some (.inl (x4 - x4 / (10 : Int32) * (10 : Int32))), d7] [.inl ((2 : Int32) * (x4 - x4 / (10 : Int32) * (10 : Int32)))] M else gX10_holds 45 [some (.inr (some 19)), some (.inl x1), some (.inl x2), some (.inl x3), some (.inl (x4 / (10 : Int32))), some (.inl x5), some (.inl (x4 - x4 / (10 : Int32) * (10 : Int32))), d7] [.inl (x4 - x4 / (10 : Int32) * (10 : Int32))] M)) := by
  have h : ∀ k : KT, mgs (zlook tX10_holds) nX10_holds k 20 8 [some (.inr (some 19)), some (.inl x1), some (.inl x2), some (.inl x3), some (.inl x4), some (.inl x5), d6, d7] [] M = (if x2 ≤ x5 then (if (x3 - x3 / (10 : Int32) * (10 : Int32)) = 0 then some ((some (.inl (1 : Int32))), M) else some ((some (.inl (0 : Int32))), M)) else (if (x5 - x5 / (2 : Int32) * (2 : Int32)) = (1 : Int32) then k 45 [some (.inr (some 19)), some (.inl x1), some (.inl x2), some (.inl x3), some (.inl (x4 / (10 : Int32))), some (.inl x5), some (.inl (x4 - x4 / (10 : Int32) * (10 : Int32))), d7] [.inl ((2 : Int32) * (x4 - x4 / (10 : Int32) * (10 : Int32)))] M else k 45 [some (.inr (some 19)), some (.inl x1), some (.inl x2), some (.inl x3), some (.inl (x4 / (10 : Int32))), some (.inl x5), some (.inl (x4 - x4 / (10 : Int32) * (10 : Int32))), d7] [.inl (x4 - x4 / (10 : Int32) * (10 : Int32))] M)) := fun k => rfl
  have h := h gX10_holds
  rw [mgs_gX10_holds] at h
  exact h
set_option maxRecDepth 100000 in
theorem eX10_holds_45 (M : MM) (x1 : Int32) (x2 : Int32) (x3 : Int32) (x4 : Int32) (x5 : Int32) (x6 : Int32) (d7 : Option AV) (xs0 : Int32) : gX10_holds 45 [some (.inr (some 19)), some (.inl x1), some (.inl x2), some (.inl x3), some (.inl x4), some (.inl x5), some (.inl x6), d7] [.inl xs0] M = (if xs0 ≤ (9 : Int32) then gX10_holds 8 [some (.inr (some 19)), some (.inl x1), some (.inl x2), some (.inl (x3 + xs0)), some (.inl x4), some (.inl (x5 + (1 : Int32))), some (.inl x6), some (.inl xs0)] [] M else gX10_holds 8 [some (.inr (some 19)), some (.inl x1), some (.inl x2), some (.inl (x3 + (xs0 - (9 : Int32)))), some (.inl x4), some (.inl (x5 + (1 : Int32))), some (.inl x6), some (.inl xs0)] [] M) := by
  have h : ∀ k : KT, mgs (zlook tX10_holds) nX10_holds k 13 45 [some (.inr (some 19)), some (.inl x1), some (.inl x2), some (.inl x3), some (.inl x4), some (.inl x5), some (.inl x6), d7] [.inl xs0] M = (if xs0 ≤ (9 : Int32) then k 8 [some (.inr (some 19)), some (.inl x1), some (.inl x2), some (.inl (x3 + xs0)), some (.inl x4), some (.inl (x5 + (1 : Int32))), some (.inl x6), some (.inl xs0)] [] M else k 8 [some (.inr (some 19)), some (.inl x1), some (.inl x2), some (.inl (x3 + (xs0 - (9 : Int32)))), some (.inl x4), some (.inl (x5 + (1 : Int32))), some (.inl x6), some (.inl xs0)] [] M) := fun k => rfl
  have h := h gX10_holds
  rw [mgs_gX10_holds] at h
  exact h
theorem iX10_holds (M : MM) (x1 : Int32) (x2 : Int32) : mX10_holds [.inr (some 19), .inl x1, .inl x2] M = gX10_holds 0 [some (.inr (some 19)), some (.inl x1), some (.inl x2), none, none, none, none, none] [] M := rfl
noncomputable def gX10_answer : KT := mev (zlook tX10_answer)
theorem ctX10_answer : ∀ q ∈ tX10_answer, Cont q.2 := by
  refine ccons (cont_aload _ _) ?_
  refine ccons (cont_getR _ _ _) ?_
  refine ccons (cont_iload _ _) ?_
  refine ccons (cont_ald _ _) ?_
  refine ccons (cont_if_ne _ _) ?_
  refine ccons (cont_aload _ _) ?_
  refine ccons (cont_getI _ _ _) ?_
  refine ccons (cont_iload _ _) ?_
  refine ccons (cont_push _ _) ?_
  refine ccons (cont_bin _ _) ?_
  refine ccons (cont_c_eq _ _) ?_
  refine ccons (cont_push _ _) ?_
  refine ccons (cont_iret) ?_
  refine ccons (cont_push _ _) ?_
  refine ccons (cont_istore _ _) ?_
  refine ccons (cont_iload _ _) ?_
  refine ccons (cont_aload _ _) ?_
  refine ccons (cont_getR _ _ _) ?_
  refine ccons (cont_iload _ _) ?_
  refine ccons (cont_ald _ _) ?_
  refine ccons (cont_c_ge _ _) ?_
  refine ccons (cont_aload _ _) ?_
  refine ccons (cont_getR _ _ _) ?_
  refine ccons (cont_push _ _) ?_
  refine ccons (cont_iload _ _) ?_
  refine ccons (cont_bin _ _) ?_
  refine ccons (cont_iload _ _) ?_
  refine ccons (cont_bin _ _) ?_
  refine ccons (cont_ald _ _) ?_
  refine ccons (cont_aload _ _) ?_
  refine ccons (cont_getR _ _ _) ?_
  refine ccons (cont_iload _ _) ?_
  refine ccons (cont_ald _ _) ?_
  refine ccons (cont_c_ne _ _) ?_
  refine ccons (cont_iload _ _) ?_
  refine ccons (cont_iret) ?_
  refine ccons (cont_iinc _ _ _) ?_
  refine ccons (cont_goto _) ?_
  refine ccons (cont_push _ _) ?_
  refine ccons (cont_iret) ?_
  refine ccons (cont_push _ _) ?_
  refine ccons (cont_istore _ _) ?_
  refine ccons (cont_push _ _) ?_
  refine ccons (cont_istore _ _) ?_
  refine ccons (cont_iload _ _) ?_
  refine ccons (cont_istore _ _) ?_
  refine ccons (cont_iload _ _) ?_
  refine ccons (cont_aload _ _) ?_
  refine ccons (cont_getI _ _ _) ?_
  refine ccons (cont_c_ge _ _) ?_
  refine ccons (cont_iload _ _) ?_
  refine ccons (cont_aload _ _) ?_
  refine ccons (cont_getR _ _ _) ?_
  refine ccons (cont_iload _ _) ?_
  refine ccons (cont_ald _ _) ?_
  refine ccons (cont_c_ge _ _) ?_
  refine ccons (cont_aload _ _) ?_
  refine ccons (cont_getR _ _ _) ?_
  refine ccons (cont_iload _ _) ?_
  refine ccons (cont_ald _ _) ?_
  refine ccons (cont_push _ _) ?_
  refine ccons (cont_c_ne _ _) ?_
  refine ccons (cont_push _ _) ?_
  refine ccons (cont_goto _) ?_
  refine ccons (cont_push _ _) ?_
  refine ccons (cont_istore _ _) ?_
  refine ccons (cont_iload _ _) ?_
  refine ccons (cont_if_eq _ _) ?_
  refine ccons (cont_iinc _ _ _) ?_
  refine ccons (cont_iload _ _) ?_
  refine ccons (cont_aload _ _) ?_
  refine ccons (cont_getI _ _ _) ?_
  refine ccons (cont_c_eq _ _) ?_
  refine ccons (cont_aload _ _) ?_
  refine ccons (cont_getR _ _ _) ?_
  refine ccons (cont_iload _ _) ?_
  refine ccons (cont_ald _ _) ?_
  refine ccons (cont_push _ _) ?_
  refine ccons (cont_c_le _ _) ?_
  refine ccons (cont_push _ _) ?_
  refine ccons (cont_iret) ?_
  refine ccons (cont_push _ _) ?_
  refine ccons (cont_iload _ _) ?_
  refine ccons (cont_bin _ _) ?_
  refine ccons (cont_aload _ _) ?_
  refine ccons (cont_getR _ _ _) ?_
  refine ccons (cont_iload _ _) ?_
  refine ccons (cont_ald _ _) ?_
  refine ccons (cont_bin _ _) ?_
  refine ccons (cont_istore _ _) ?_
  refine ccons (cont_iload _ _) ?_
  refine ccons (cont_if_eq _ _) ?_
  refine ccons (cont_push _ _) ?_
  refine ccons (cont_iload _ _) ?_
  refine ccons (cont_bin _ _) ?_
  refine ccons (cont_aload _ _) ?_
  refine ccons (cont_getR _ _ _) ?_
  refine ccons (cont_iload _ _) ?_
  refine ccons (cont_ald _ _) ?_
  refine ccons (cont_bin _ _) ?_
  refine ccons (cont_istore _ _) ?_
  refine ccons (cont_iload _ _) ?_
  refine ccons (cont_iload _ _) ?_
  refine ccons (cont_if_eq _ _) ?_
  refine ccons (cont_push _ _) ?_
  refine ccons (cont_goto _) ?_
  refine ccons (cont_push _ _) ?_
  refine ccons (cont_bin _ _) ?_
  refine ccons (cont_istore _ _) ?_
  refine ccons (cont_iinc _ _ _) ?_
  refine ccons (cont_goto _) ?_
  refine ccons (cont_iload _ _) ?_
  refine ccons (cont_aload _ _) ?_
  refine ccons (cont_getI _ _ _) ?_
  refine ccons (cont_c_lt _ _) ?_
  refine ccons (cont_iload _ _) ?_
  refine ccons (cont_aload _ _) ?_
  refine ccons (cont_getR _ _ _) ?_
  refine ccons (cont_iload _ _) ?_
  refine ccons (cont_ald _ _) ?_
  refine ccons (cont_c_ne _ _) ?_
  refine ccons (cont_aload _ _) ?_
  refine ccons (cont_getR _ _ _) ?_
  refine ccons (cont_iload _ _) ?_
  refine ccons (cont_ald _ _) ?_
  refine ccons (cont_if_eq _ _) ?_
  refine ccons (cont_aload _ _) ?_
  refine ccons (cont_iload _ _) ?_
  refine ccons (cont_iload _ _) ?_
  refine ccons (cont_callV _ _ _ _) ?_
  refine ccons (cont_if_ne _ _) ?_
  refine ccons (cont_push _ _) ?_
  refine ccons (cont_goto _) ?_
  refine ccons (cont_iload _ _) ?_
  refine ccons (cont_iret) ?_
  exact cnil
theorem mgs_gX10_answer (cut : List Nat) (n : Nat) : mgs (zlook tX10_answer) cut gX10_answer n = gX10_answer := mgs_mev (ctab ctX10_answer) cut n
def nX10_answer : List Nat := [0, 23, 71, 108, 118, 193, 229]
set_option maxRecDepth 100000 in
theorem eX10_answer_0 (M : MM) (x1 : Int32) (x2 : Int32) : gX10_answer 0 [some (.inr (some 19)), some (.inl x1), some (.inl x2), none, none, none, none] [] M = (if x1 < 0 ∨ 12 ≤ x1.toNatClampNeg then none else (if (M 21 x1.toNatClampNeg) = 0 then (if (M 19 24) = (x2 + (1 : Int32)) then gX10_answer 23 [some (.inr (some 19)), some (.inl x1), some (.inl x2), some (.inl (0 : Int32)), none, none, none] [] M else some ((some (.inl (-1 : Int32))), M)) else gX10_answer 71 [some (.inr (some 19)), some (.inl x1), some (.inl x2), some (.inl (0 : Int32)), some (.inl (0 : Int32)), some (.inl x2), none] [] M)) := by
  have h : ∀ k : KT, mgs (zlook tX10_answer) nX10_answer k 13 0 [some (.inr (some 19)), some (.inl x1), some (.inl x2), none, none, none, none] [] M = (if x1 < 0 ∨ 12 ≤ x1.toNatClampNeg then none else (if (M 21 x1.toNatClampNeg) = 0 then (if (M 19 24) = (x2 + (1 : Int32)) then k 23 [some (.inr (some 19)), some (.inl x1), some (.inl x2), some (.inl (0 : Int32)), none, none, none] [] M else some ((some (.inl (-1 : Int32))), M)) else k 71 [some (.inr (some 19)), some (.inl x1), some (.inl x2), some (.inl (0 : Int32)), some (.inl (0 : Int32)), some (.inl x2), none] [] M)) := fun k => rfl
  have h := h gX10_answer
  rw [mgs_gX10_answer] at h
  exact h
set_option maxRecDepth 100000 in
theorem eX10_answer_23 (M : MM) (x1 : Int32) (x2 : Int32) (x3 : Int32) : gX10_answer 23 [some (.inr (some 19)), some (.inl x1), some (.inl x2), some (.inl x3), none, none, none] [] M = (if x1 < 0 ∨ 12 ≤ x1.toNatClampNeg then none else (if (M 22 x1.toNatClampNeg) ≤ x3 then some ((some (.inl (-1 : Int32))), M) else (if (((6 : Int32) * x1) + x3) < 0 ∨ 72 ≤ (((6 : Int32) * x1) + x3).toNatClampNeg then none else (if x2 < 0 ∨ 8 ≤ x2.toNatClampNeg then none else (if (M 25 (((6 : Int32) * x1) + x3).toNatClampNeg) = (M 38 x2.toNatClampNeg) then some ((some (.inl x3)), M) else gX10_answer 23 [some (.inr (some 19)), some (.inl x1), some (.inl x2), some (.inl (x3 + (1 : Int32))), none, none, none] [] M))))) := by
  have h : ∀ k : KT, mgs (zlook tX10_answer) nX10_answer k 21 23 [some (.inr (some 19)), some (.inl x1), some (.inl x2), some (.inl x3), none, none, none] [] M = (if x1 < 0 ∨ 12 ≤ x1.toNatClampNeg then none else (if (M 22 x1.toNatClampNeg) ≤ x3 then some ((some (.inl (-1 : Int32))), M) else (if (((6 : Int32) * x1) + x3) < 0 ∨ 72 ≤ (((6 : Int32) * x1) + x3).toNatClampNeg then none else (if x2 < 0 ∨ 8 ≤ x2.toNatClampNeg then none else (if (M 25 (((6 : Int32) * x1) + x3).toNatClampNeg) = (M 38 x2.toNatClampNeg) then some ((some (.inl x3)), M) else k 23 [some (.inr (some 19)), some (.inl x1), some (.inl x2), some (.inl (x3 + (1 : Int32))), none, none, none] [] M))))) := fun k => rfl
  have h := h gX10_answer
  rw [mgs_gX10_answer] at h
  exact h
set_option maxRecDepth 100000 in
theorem eX10_answer_71 (M : MM) (x1 : Int32) (x2 : Int32) (x3 : Int32) (x4 : Int32) (x5 : Int32) (d6 : Option AV) : gX10_answer 71 [some (.inr (some 19)), some (.inl x1), some (.inl x2), some (.inl x3), some (.inl x4), some (.inl x5), d6] [] M = (if (M 19 24) ≤ x5 then gX10_answer 193 [some (.inr (some 19)), some (.inl x1), some (.inl x2), some (.inl x3), some (.inl x4), some (.inl x5), d6] [] M else (if x1 < 0 ∨ 12 ≤ x1.toNatClampNeg then none else (if (M 21 x1.toNatClampNeg) ≤ x4 then gX10_answer 193 [some (.inr (some 19)), some (.inl x1), some (.inl x2), some (.inl x3), some (.inl x4), some (.inl x5), d6] [] M else (if x5 < 0 ∨ 8 ≤ x5.toNatClampNeg then none else (if (M 38 x5.toNatClampNeg) = (10 : Int32) then gX10_answer 108 [some (.inr (some 19)), some (.inl x1), some (.inl x2), some (.inl x3), some (.inl x4), some (.inl x5), d6] [.inl (1 : Int32)] M else gX10_answer 108 [some (.inr (some 19)), some (.inl x1), some (.inl x2), some (.inl x3), some (.inl x4), some (.inl x5), d6] [.inl (0 : Int32)] M))))) := by
  have h : ∀ k : KT, mgs (zlook tX10_answer) nX10_answer k 18 71 [some (.inr (some 19)), some (.inl x1), some (.inl x2), some (.inl x3), some (.inl x4), some (.inl x5), d6] [] M = (if (M 19 24) ≤ x5 then k 193 [some (.inr (some 19)), some (.inl x1), some (.inl x2), some (.inl x3), some (.inl x4), some (.inl x5), d6] [] M else (if x1 < 0 ∨ 12 ≤ x1.toNatClampNeg then none else (if (M 21 x1.toNatClampNeg) ≤ x4 then k 193 [some (.inr (some 19)), some (.inl x1), some (.inl x2), some (.inl x3), some (.inl x4), some (.inl x5), d6] [] M else (if x5 < 0 ∨ 8 ≤ x5.toNatClampNeg then none else (if (M 38 x5.toNatClampNeg) = (10 : Int32) then k 108 [some (.inr (some 19)), some (.inl x1), some (.inl x2), some (.inl x3), some (.inl x4), some (.inl x5), d6] [.inl (1 : Int32)] M else k 108 [some (.inr (some 19)), some (.inl x1), some (.inl x2), some (.inl x3), some (.inl x4), some (.inl x5), d6] [.inl (0 : Int32)] M))))) := fun k => rfl
  have h := h gX10_answer
  rw [mgs_gX10_answer] at h
  exact h
set_option maxRecDepth 100000 in
theorem eX10_answer_108 (M : MM) (x1 : Int32) (x2 : Int32) (x3 : Int32) (x4 : Int32) (x5 : Int32) (d6 : Option AV) (xs0 : Int32) : gX10_answer 108 [some (.inr (some 19)), some (.inl x1), some (.inl x2), some (.inl x3), some (.inl x4), some (.inl x5), d6] [.inl xs0] M = (if xs0 = 0 then gX10_answer 118 [some (.inr (some 19)), some (.inl x1), some (.inl x2), some (.inl x3), some (.inl x4), some (.inl x5), some (.inl xs0)] [] M else gX10_answer 118 [some (.inr (some 19)), some (.inl x1), some (.inl x2), some (.inl x3), some (.inl x4), some (.inl (x5 + (1 : Int32))), some (.inl xs0)] [] M) := by
  have h : ∀ k : KT, mgs (zlook tX10_answer) nX10_answer k 4 108 [some (.inr (some 19)), some (.inl x1), some (.inl x2), some (.inl x3), some (.inl x4), some (.inl x5), d6] [.inl xs0] M = (if xs0 = 0 then k 118 [some (.inr (some 19)), some (.inl x1), some (.inl x2), some (.inl x3), some (.inl x4), some (.inl x5), some (.inl xs0)] [] M else k 118 [some (.inr (some 19)), some (.inl x1), some (.inl x2), some (.inl x3), some (.inl x4), some (.inl (x5 + (1 : Int32))), some (.inl xs0)] [] M) := fun k => rfl
  have h := h gX10_answer
  rw [mgs_gX10_answer] at h
  exact h
set_option maxRecDepth 100000 in
theorem eX10_answer_118 (M : MM) (x1 : Int32) (x2 : Int32) (x3 : Int32) (x4 : Int32) (x5 : Int32) (x6 : Int32) : gX10_answer 118 [some (.inr (some 19)), some (.inl x1), some (.inl x2), some (.inl x3), some (.inl x4), some (.inl x5), some (.inl x6)] [] M = (if x5 = (M 19 24) then some ((some (.inl (-1 : Int32))), M) else (if x5 < 0 ∨ 8 ≤ x5.toNatClampNeg then none else (if (M 38 x5.toNatClampNeg) ≤ (9 : Int32) then (if x5 < 0 ∨ 8 ≤ x5.toNatClampNeg then none else (if x6 = 0 then (if x6 = 0 then gX10_answer 71 [some (.inr (some 19)), some (.inl x1), some (.inl x2), some (.inl (((10 : Int32) * x3) + (M 38 x5.toNatClampNeg))), some (.inl (x4 + (1 : Int32))), some (.inl (x5 + (1 : Int32))), some (.inl x6)] [] M else gX10_answer 71 [some (.inr (some 19)), some (.inl x1), some (.inl x2), some (.inl (((10 : Int32) * x3) + (M 38 x5.toNatClampNeg))), some (.inl (x4 + (2 : Int32))), some (.inl (x5 + (1 : Int32))), some (.inl x6)] [] M) else (if x5 < 0 ∨ 8 ≤ x5.toNatClampNeg then none else (if x6 = 0 then gX10_answer 71 [some (.inr (some 19)), some (.inl x1), some (.inl x2), some (.inl (((10 : Int32) * (((10 : Int32) * x3) + (M 38 x5.toNatClampNeg))) + (M 38 x5.toNatClampNeg))), some (.inl (x4 + (1 : Int32))), some (.inl (x5 + (1 : Int32))), some (.inl x6)] [] M else gX10_answer 71 [some (.inr (some 19)), some (.inl x1), some (.inl x2), some (.inl (((10 : Int32) * (((10 : Int32) * x3) + (M 38 x5.toNatClampNeg))) + (M 38 x5.toNatClampNeg))), some (.inl (x4 + (2 : Int32))), some (.inl (x5 + (1 : Int32))), some (.inl x6)] [] M)))) else some ((some (.inl (-1 : Int32))), M)))) := by
  have h : ∀ k : KT, mgs (zlook tX10_answer) nX10_answer k 39 118 [some (.inr (some 19)), some (.inl x1), some (.inl x2), some (.inl x3), some (.inl x4), some (.inl x5), some (.inl x6)] [] M = (if x5 = (M 19 24) then some ((some (.inl (-1 : Int32))), M) else (if x5 < 0 ∨ 8 ≤ x5.toNatClampNeg then none else (if (M 38 x5.toNatClampNeg) ≤ (9 : Int32) then (if x5 < 0 ∨ 8 ≤ x5.toNatClampNeg then none else (if x6 = 0 then (if x6 = 0 then k 71 [some (.inr (some 19)), some (.inl x1), some (.inl x2), some (.inl (((10 : Int32) * x3) + (M 38 x5.toNatClampNeg))), some (.inl (x4 + (1 : Int32))), some (.inl (x5 + (1 : Int32))), some (.inl x6)] [] M else k 71 [some (.inr (some 19)), some (.inl x1), some (.inl x2), some (.inl (((10 : Int32) * x3) + (M 38 x5.toNatClampNeg))), some (.inl (x4 + (2 : Int32))), some (.inl (x5 + (1 : Int32))), some (.inl x6)] [] M) else (if x5 < 0 ∨ 8 ≤ x5.toNatClampNeg then none else (if x6 = 0 then k 71 [some (.inr (some 19)), some (.inl x1), some (.inl x2), some (.inl (((10 : Int32) * (((10 : Int32) * x3) + (M 38 x5.toNatClampNeg))) + (M 38 x5.toNatClampNeg))), some (.inl (x4 + (1 : Int32))), some (.inl (x5 + (1 : Int32))), some (.inl x6)] [] M else k 71 [some (.inr (some 19)), some (.inl x1), some (.inl x2), some (.inl (((10 : Int32) * (((10 : Int32) * x3) + (M 38 x5.toNatClampNeg))) + (M 38 x5.toNatClampNeg))), some (.inl (x4 + (2 : Int32))), some (.inl (x5 + (1 : Int32))), some (.inl x6)] [] M)))) else some ((some (.inl (-1 : Int32))), M)))) := fun k => rfl
  have h := h gX10_answer
  rw [mgs_gX10_answer] at h
  exact h
set_option maxRecDepth 100000 in
theorem eX10_answer_193 (M : MM) (x1 : Int32) (x2 : Int32) (x3 : Int32) (x4 : Int32) (x5 : Int32) (d6 : Option AV) : gX10_answer 193 [some (.inr (some 19)), some (.inl x1), some (.inl x2), some (.inl x3), some (.inl x4), some (.inl x5), d6] [] M = (if x5 < (M 19 24) then some ((some (.inl (-1 : Int32))), M) else (if x1 < 0 ∨ 12 ≤ x1.toNatClampNeg then none else (if x4 = (M 21 x1.toNatClampNeg) then (if x1 < 0 ∨ 12 ≤ x1.toNatClampNeg then none else (if (M 23 x1.toNatClampNeg) = 0 then some ((some (.inl x3)), M) else (mX10_holds [.inr (some 19), .inl x3, .inl x4] M).bind (fun r => gX10_answer 229 [some (.inr (some 19)), some (.inl x1), some (.inl x2), some (.inl x3), some (.inl x4), some (.inl x5), d6] (r.1.toList ++ []) r.2))) else some ((some (.inl (-1 : Int32))), M)))) := by
  have h : ∀ k : KT, mgs (zlook tX10_answer) nX10_answer k 19 193 [some (.inr (some 19)), some (.inl x1), some (.inl x2), some (.inl x3), some (.inl x4), some (.inl x5), d6] [] M = (if x5 < (M 19 24) then some ((some (.inl (-1 : Int32))), M) else (if x1 < 0 ∨ 12 ≤ x1.toNatClampNeg then none else (if x4 = (M 21 x1.toNatClampNeg) then (if x1 < 0 ∨ 12 ≤ x1.toNatClampNeg then none else (if (M 23 x1.toNatClampNeg) = 0 then some ((some (.inl x3)), M) else (mX10_holds [.inr (some 19), .inl x3, .inl x4] M).bind (fun r => k 229 [some (.inr (some 19)), some (.inl x1), some (.inl x2), some (.inl x3), some (.inl x4), some (.inl x5), d6] (r.1.toList ++ []) r.2))) else some ((some (.inl (-1 : Int32))), M)))) := fun k => rfl
  have h := h gX10_answer
  rw [mgs_gX10_answer] at h
  exact h
set_option maxRecDepth 100000 in
theorem eX10_answer_229 (M : MM) (x1 : Int32) (x2 : Int32) (x3 : Int32) (x4 : Int32) (x5 : Int32) (d6 : Option AV) (xs0 : Int32) : gX10_answer 229 [some (.inr (some 19)), some (.inl x1), some (.inl x2), some (.inl x3), some (.inl x4), some (.inl x5), d6] [.inl xs0] M = (if xs0 = 0 then some ((some (.inl (-1 : Int32))), M) else some ((some (.inl x3)), M)) := by
  have h : ∀ k : KT, mgs (zlook tX10_answer) nX10_answer k 4 229 [some (.inr (some 19)), some (.inl x1), some (.inl x2), some (.inl x3), some (.inl x4), some (.inl x5), d6] [.inl xs0] M = (if xs0 = 0 then some ((some (.inl (-1 : Int32))), M) else some ((some (.inl x3)), M)) := fun k => rfl
  have h := h gX10_answer
  rw [mgs_gX10_answer] at h
  exact h
theorem iX10_answer (M : MM) (x1 : Int32) (x2 : Int32) : mX10_answer [.inr (some 19), .inl x1, .inl x2] M = gX10_answer 0 [some (.inr (some 19)), some (.inl x1), some (.inl x2), none, none, none, none] [] M := rfl
noncomputable def gX10_fieldNamed : KT := mev (zlook tX10_fieldNamed)
theorem ctX10_fieldNamed : ∀ q ∈ tX10_fieldNamed, Cont q.2 := by
  refine ccons (cont_push _ _) ?_
  refine ccons (cont_istore _ _) ?_
  refine ccons (cont_iload _ _) ?_
  refine ccons (cont_aload _ _) ?_
  refine ccons (cont_getI _ _ _) ?_
  refine ccons (cont_c_ge _ _) ?_
  refine ccons (cont_aload _ _) ?_
  refine ccons (cont_getR _ _ _) ?_
  refine ccons (cont_iload _ _) ?_
  refine ccons (cont_ald _ _) ?_
  refine ccons (cont_iload _ _) ?_
  refine ccons (cont_c_ne _ _) ?_
  refine ccons (cont_iload _ _) ?_
  refine ccons (cont_iret) ?_
  refine ccons (cont_iinc _ _ _) ?_
  refine ccons (cont_goto _) ?_
  refine ccons (cont_push _ _) ?_
  refine ccons (cont_iret) ?_
  exact cnil
theorem mgs_gX10_fieldNamed (cut : List Nat) (n : Nat) : mgs (zlook tX10_fieldNamed) cut gX10_fieldNamed n = gX10_fieldNamed := mgs_mev (ctab ctX10_fieldNamed) cut n
def nX10_fieldNamed : List Nat := [0, 2]
set_option maxRecDepth 100000 in
theorem eX10_fieldNamed_0 (M : MM) (x1 : Int32) : gX10_fieldNamed 0 [some (.inr (some 19)), some (.inl x1), none] [] M = gX10_fieldNamed 2 [some (.inr (some 19)), some (.inl x1), some (.inl (0 : Int32))] [] M := by
  have h : ∀ k : KT, mgs (zlook tX10_fieldNamed) nX10_fieldNamed k 2 0 [some (.inr (some 19)), some (.inl x1), none] [] M = k 2 [some (.inr (some 19)), some (.inl x1), some (.inl (0 : Int32))] [] M := fun k => rfl
  have h := h gX10_fieldNamed
  rw [mgs_gX10_fieldNamed] at h
  exact h
set_option maxRecDepth 100000 in
theorem eX10_fieldNamed_2 (M : MM) (x1 : Int32) (x2 : Int32) : gX10_fieldNamed 2 [some (.inr (some 19)), some (.inl x1), some (.inl x2)] [] M = (if (M 19 0) ≤ x2 then some ((some (.inl (-1 : Int32))), M) else (if x2 < 0 ∨ 12 ≤ x2.toNatClampNeg then none else (if (M 20 x2.toNatClampNeg) = x1 then some ((some (.inl x2)), M) else gX10_fieldNamed 2 [some (.inr (some 19)), some (.inl x1), some (.inl (x2 + (1 : Int32)))] [] M))) := by
  have h : ∀ k : KT, mgs (zlook tX10_fieldNamed) nX10_fieldNamed k 12 2 [some (.inr (some 19)), some (.inl x1), some (.inl x2)] [] M = (if (M 19 0) ≤ x2 then some ((some (.inl (-1 : Int32))), M) else (if x2 < 0 ∨ 12 ≤ x2.toNatClampNeg then none else (if (M 20 x2.toNatClampNeg) = x1 then some ((some (.inl x2)), M) else k 2 [some (.inr (some 19)), some (.inl x1), some (.inl (x2 + (1 : Int32)))] [] M))) := fun k => rfl
  have h := h gX10_fieldNamed
  rw [mgs_gX10_fieldNamed] at h
  exact h
theorem iX10_fieldNamed (M : MM) (x1 : Int32) : mX10_fieldNamed [.inr (some 19), .inl x1] M = gX10_fieldNamed 0 [some (.inr (some 19)), some (.inl x1), none] [] M := rfl
noncomputable def gX10_read : KT := mev (zlook tX10_read)
theorem ctX10_read : ∀ q ∈ tX10_read, Cont q.2 := by
  refine ccons (cont_aload _ _) ?_
  refine ccons (cont_getI _ _ _) ?_
  refine ccons (cont_if_ne _ _) ?_
  refine ccons (cont_vret) ?_
  refine ccons (cont_aload _ _) ?_
  refine ccons (cont_getI _ _ _) ?_
  refine ccons (cont_if_ge _ _) ?_
  refine ccons (cont_push _ _) ?_
  refine ccons (cont_goto _) ?_
  refine ccons (cont_aload _ _) ?_
  refine ccons (cont_aload _ _) ?_
  refine ccons (cont_getI _ _ _) ?_
  refine ccons (cont_push _ _) ?_
  refine ccons (cont_callV _ _ _ _) ?_
  refine ccons (cont_istore _ _) ?_
  refine ccons (cont_iload _ _) ?_
  refine ccons (cont_if_lt _ _) ?_
  refine ccons (cont_aload _ _) ?_
  refine ccons (cont_iload _ _) ?_
  refine ccons (cont_push _ _) ?_
  refine ccons (cont_iload _ _) ?_
  refine ccons (cont_callV _ _ _ _) ?_
  refine ccons (cont_aload _ _) ?_
  refine ccons (cont_getI _ _ _) ?_
  refine ccons (cont_push _ _) ?_
  refine ccons (cont_c_ne _ _) ?_
  refine ccons (cont_aload _ _) ?_
  refine ccons (cont_getR _ _ _) ?_
  refine ccons (cont_push _ _) ?_
  refine ccons (cont_ald _ _) ?_
  refine ccons (cont_push _ _) ?_
  refine ccons (cont_push _ _) ?_
  refine ccons (cont_callS _ _ _) ?_
  refine ccons (cont_if_eq _ _) ?_
  refine ccons (cont_aload _ _) ?_
  refine ccons (cont_iload _ _) ?_
  refine ccons (cont_aload _ _) ?_
  refine ccons (cont_getI _ _ _) ?_
  refine ccons (cont_bin _ _) ?_
  refine ccons (cont_aload _ _) ?_
  refine ccons (cont_getR _ _ _) ?_
  refine ccons (cont_push _ _) ?_
  refine ccons (cont_ald _ _) ?_
  refine ccons (cont_push _ _) ?_
  refine ccons (cont_bin _ _) ?_
  refine ccons (cont_push _ _) ?_
  refine ccons (cont_callV _ _ _ _) ?_
  refine ccons (cont_aload _ _) ?_
  refine ccons (cont_getI _ _ _) ?_
  refine ccons (cont_push _ _) ?_
  refine ccons (cont_c_ne _ _) ?_
  refine ccons (cont_aload _ _) ?_
  refine ccons (cont_getR _ _ _) ?_
  refine ccons (cont_push _ _) ?_
  refine ccons (cont_ald _ _) ?_
  refine ccons (cont_push _ _) ?_
  refine ccons (cont_c_ne _ _) ?_
  refine ccons (cont_aload _ _) ?_
  refine ccons (cont_aload _ _) ?_
  refine ccons (cont_getR _ _ _) ?_
  refine ccons (cont_push _ _) ?_
  refine ccons (cont_ald _ _) ?_
  refine ccons (cont_callV _ _ _ _) ?_
  refine ccons (cont_goto _) ?_
  refine ccons (cont_push _ _) ?_
  refine ccons (cont_istore _ _) ?_
  refine ccons (cont_iload _ _) ?_
  refine ccons (cont_if_lt _ _) ?_
  refine ccons (cont_aload _ _) ?_
  refine ccons (cont_iload _ _) ?_
  refine ccons (cont_aload _ _) ?_
  refine ccons (cont_getI _ _ _) ?_
  refine ccons (cont_bin _ _) ?_
  refine ccons (cont_push _ _) ?_
  refine ccons (cont_iload _ _) ?_
  refine ccons (cont_callV _ _ _ _) ?_
  refine ccons (cont_aload _ _) ?_
  refine ccons (cont_getI _ _ _) ?_
  refine ccons (cont_push _ _) ?_
  refine ccons (cont_c_le _ _) ?_
  refine ccons (cont_aload _ _) ?_
  refine ccons (cont_getR _ _ _) ?_
  refine ccons (cont_push _ _) ?_
  refine ccons (cont_ald _ _) ?_
  refine ccons (cont_push _ _) ?_
  refine ccons (cont_c_ne _ _) ?_
  refine ccons (cont_aload _ _) ?_
  refine ccons (cont_getI _ _ _) ?_
  refine ccons (cont_if_lt _ _) ?_
  refine ccons (cont_aload _ _) ?_
  refine ccons (cont_aload _ _) ?_
  refine ccons (cont_getI _ _ _) ?_
  refine ccons (cont_push _ _) ?_
  refine ccons (cont_callV _ _ _ _) ?_
  refine ccons (cont_goto _) ?_
  refine ccons (cont_push _ _) ?_
  refine ccons (cont_istore _ _) ?_
  refine ccons (cont_iload _ _) ?_
  refine ccons (cont_if_lt _ _) ?_
  refine ccons (cont_aload _ _) ?_
  refine ccons (cont_iload _ _) ?_
  refine ccons (cont_aload _ _) ?_
  refine ccons (cont_getI _ _ _) ?_
  refine ccons (cont_bin _ _) ?_
  refine ccons (cont_push _ _) ?_
  refine ccons (cont_iload _ _) ?_
  refine ccons (cont_callV _ _ _ _) ?_
  refine ccons (cont_vret) ?_
  exact cnil
theorem mgs_gX10_read (cut : List Nat) (n : Nat) : mgs (zlook tX10_read) cut gX10_read n = gX10_read := mgs_mev (ctab ctX10_read) cut n
def nX10_read : List Nat := [0, 28, 40, 61, 84, 113, 116, 117, 135, 170, 173, 174, 195]
set_option maxRecDepth 100000 in
theorem eX10_read_0 (M : MM) (x1 : Int32) : gX10_read 0 [some (.inr (some 19)), some (.inl x1), none, none, none] [] M = (if (M 19 24) = 0 then some (none, M) else (if 0 ≤ (M 19 29) then (mX10_answer [.inr (some 19), .inl (M 19 29), .inl (0 : Int32)] M).bind (fun r => gX10_read 28 [some (.inr (some 19)), some (.inl x1), none, none, none] (r.1.toList ++ []) r.2) else gX10_read 28 [some (.inr (some 19)), some (.inl x1), none, none, none] [.inl (-1 : Int32)] M)) := by
  have h : ∀ k : KT, mgs (zlook tX10_read) nX10_read k 11 0 [some (.inr (some 19)), some (.inl x1), none, none, none] [] M = (if (M 19 24) = 0 then some (none, M) else (if 0 ≤ (M 19 29) then (mX10_answer [.inr (some 19), .inl (M 19 29), .inl (0 : Int32)] M).bind (fun r => k 28 [some (.inr (some 19)), some (.inl x1), none, none, none] (r.1.toList ++ []) r.2) else k 28 [some (.inr (some 19)), some (.inl x1), none, none, none] [.inl (-1 : Int32)] M)) := fun k => rfl
  have h := h gX10_read
  rw [mgs_gX10_read] at h
  exact h
set_option maxRecDepth 100000 in
theorem eX10_read_28 (M : MM) (x1 : Int32) (xs0 : Int32) : gX10_read 28 [some (.inr (some 19)), some (.inl x1), none, none, none] [.inl xs0] M = (if xs0 < 0 then gX10_read 40 [some (.inr (some 19)), some (.inl x1), some (.inl xs0), none, none] [] M else (mX10_found [.inr (some 19), .inl x1, .inl (0 : Int32), .inl xs0] M).bind (fun r => gX10_read 40 [some (.inr (some 19)), some (.inl x1), some (.inl xs0), none, none] (r.1.toList ++ []) r.2)) := by
  have h : ∀ k : KT, mgs (zlook tX10_read) nX10_read k 8 28 [some (.inr (some 19)), some (.inl x1), none, none, none] [.inl xs0] M = (if xs0 < 0 then k 40 [some (.inr (some 19)), some (.inl x1), some (.inl xs0), none, none] [] M else (mX10_found [.inr (some 19), .inl x1, .inl (0 : Int32), .inl xs0] M).bind (fun r => k 40 [some (.inr (some 19)), some (.inl x1), some (.inl xs0), none, none] (r.1.toList ++ []) r.2)) := fun k => rfl
  have h := h gX10_read
  rw [mgs_gX10_read] at h
  exact h
set_option maxRecDepth 100000 in
theorem eX10_read_40 (M : MM) (x1 : Int32) (x2 : Int32) : gX10_read 40 [some (.inr (some 19)), some (.inl x1), some (.inl x2), none, none] [] M = (if (M 19 24) = (1 : Int32) then (mX10_isIn [.inl (M 38 0), .inl (11 : Int32), .inl (16 : Int32)] M).bind (fun r => gX10_read 61 [some (.inr (some 19)), some (.inl x1), some (.inl x2), none, none] (r.1.toList ++ []) r.2) else gX10_read 84 [some (.inr (some 19)), some (.inl x1), some (.inl x2), none, none] [] M) := by
  have h : ∀ k : KT, mgs (zlook tX10_read) nX10_read k 11 40 [some (.inr (some 19)), some (.inl x1), some (.inl x2), none, none] [] M = (if (M 19 24) = (1 : Int32) then (mX10_isIn [.inl (M 38 0), .inl (11 : Int32), .inl (16 : Int32)] M).bind (fun r => k 61 [some (.inr (some 19)), some (.inl x1), some (.inl x2), none, none] (r.1.toList ++ []) r.2) else k 84 [some (.inr (some 19)), some (.inl x1), some (.inl x2), none, none] [] M) := fun k => rfl
  have h := h gX10_read
  rw [mgs_gX10_read] at h
  exact h
set_option maxRecDepth 100000 in
theorem eX10_read_61 (M : MM) (x1 : Int32) (x2 : Int32) (xs0 : Int32) : gX10_read 61 [some (.inr (some 19)), some (.inl x1), some (.inl x2), none, none] [.inl xs0] M = (if xs0 = 0 then gX10_read 84 [some (.inr (some 19)), some (.inl x1), some (.inl x2), none, none] [] M else (mX10_found [.inr (some 19), .inl (x1 + (M 19 13)), .inl ((M 38 0) - (10 : Int32)), .inl (0 : Int32)] M).bind (fun r => gX10_read 84 [some (.inr (some 19)), some (.inl x1), some (.inl x2), none, none] (r.1.toList ++ []) r.2)) := by
  have h : ∀ k : KT, mgs (zlook tX10_read) nX10_read k 14 61 [some (.inr (some 19)), some (.inl x1), some (.inl x2), none, none] [.inl xs0] M = (if xs0 = 0 then k 84 [some (.inr (some 19)), some (.inl x1), some (.inl x2), none, none] [] M else (mX10_found [.inr (some 19), .inl (x1 + (M 19 13)), .inl ((M 38 0) - (10 : Int32)), .inl (0 : Int32)] M).bind (fun r => k 84 [some (.inr (some 19)), some (.inl x1), some (.inl x2), none, none] (r.1.toList ++ []) r.2)) := fun k => rfl
  have h := h gX10_read
  rw [mgs_gX10_read] at h
  exact h
set_option maxRecDepth 100000 in
theorem eX10_read_84 (M : MM) (x1 : Int32) (x2 : Int32) : gX10_read 84 [some (.inr (some 19)), some (.inl x1), some (.inl x2), none, none] [] M = (if (M 19 24) = (2 : Int32) then (if (M 38 0) = (17 : Int32) then (mX10_fieldNamed [.inr (some 19), .inl (M 38 1)] M).bind (fun r => gX10_read 113 [some (.inr (some 19)), some (.inl x1), some (.inl x2), none, none] (r.1.toList ++ []) r.2) else gX10_read 116 [some (.inr (some 19)), some (.inl x1), some (.inl x2), none, none] [] M) else gX10_read 116 [some (.inr (some 19)), some (.inl x1), some (.inl x2), none, none] [] M) := by
  have h : ∀ k : KT, mgs (zlook tX10_read) nX10_read k 16 84 [some (.inr (some 19)), some (.inl x1), some (.inl x2), none, none] [] M = (if (M 19 24) = (2 : Int32) then (if (M 38 0) = (17 : Int32) then (mX10_fieldNamed [.inr (some 19), .inl (M 38 1)] M).bind (fun r => k 113 [some (.inr (some 19)), some (.inl x1), some (.inl x2), none, none] (r.1.toList ++ []) r.2) else k 116 [some (.inr (some 19)), some (.inl x1), some (.inl x2), none, none] [] M) else k 116 [some (.inr (some 19)), some (.inl x1), some (.inl x2), none, none] [] M) := fun k => rfl
  have h := h gX10_read
  rw [mgs_gX10_read] at h
  exact h
set_option maxRecDepth 100000 in
theorem eX10_read_113 (M : MM) (x1 : Int32) (x2 : Int32) (xs0 : Int32) : gX10_read 113 [some (.inr (some 19)), some (.inl x1), some (.inl x2), none, none] [.inl xs0] M = gX10_read 117 [some (.inr (some 19)), some (.inl x1), some (.inl x2), none, none] [.inl xs0] M := by
  have h : ∀ k : KT, mgs (zlook tX10_read) nX10_read k 1 113 [some (.inr (some 19)), some (.inl x1), some (.inl x2), none, none] [.inl xs0] M = k 117 [some (.inr (some 19)), some (.inl x1), some (.inl x2), none, none] [.inl xs0] M := fun k => rfl
  have h := h gX10_read
  rw [mgs_gX10_read] at h
  exact h
set_option maxRecDepth 100000 in
theorem eX10_read_116 (M : MM) (x1 : Int32) (x2 : Int32) : gX10_read 116 [some (.inr (some 19)), some (.inl x1), some (.inl x2), none, none] [] M = gX10_read 117 [some (.inr (some 19)), some (.inl x1), some (.inl x2), none, none] [.inl (-1 : Int32)] M := by
  have h : ∀ k : KT, mgs (zlook tX10_read) nX10_read k 1 116 [some (.inr (some 19)), some (.inl x1), some (.inl x2), none, none] [] M = k 117 [some (.inr (some 19)), some (.inl x1), some (.inl x2), none, none] [.inl (-1 : Int32)] M := fun k => rfl
  have h := h gX10_read
  rw [mgs_gX10_read] at h
  exact h
set_option maxRecDepth 100000 in
theorem eX10_read_117 (M : MM) (x1 : Int32) (x2 : Int32) (xs0 : Int32) : gX10_read 117 [some (.inr (some 19)), some (.inl x1), some (.inl x2), none, none] [.inl xs0] M = (if xs0 < 0 then gX10_read 135 [some (.inr (some 19)), some (.inl x1), some (.inl x2), some (.inl xs0), none] [] M else (mX10_found [.inr (some 19), .inl (x1 + (M 19 13)), .inl (7 : Int32), .inl xs0] M).bind (fun r => gX10_read 135 [some (.inr (some 19)), some (.inl x1), some (.inl x2), some (.inl xs0), none] (r.1.toList ++ []) r.2)) := by
  have h : ∀ k : KT, mgs (zlook tX10_read) nX10_read k 11 117 [some (.inr (some 19)), some (.inl x1), some (.inl x2), none, none] [.inl xs0] M = (if xs0 < 0 then k 135 [some (.inr (some 19)), some (.inl x1), some (.inl x2), some (.inl xs0), none] [] M else (mX10_found [.inr (some 19), .inl (x1 + (M 19 13)), .inl (7 : Int32), .inl xs0] M).bind (fun r => k 135 [some (.inr (some 19)), some (.inl x1), some (.inl x2), some (.inl xs0), none] (r.1.toList ++ []) r.2)) := fun k => rfl
  have h := h gX10_read
  rw [mgs_gX10_read] at h
  exact h
set_option maxRecDepth 100000 in
theorem eX10_read_135 (M : MM) (x1 : Int32) (x2 : Int32) (x3 : Int32) : gX10_read 135 [some (.inr (some 19)), some (.inl x1), some (.inl x2), some (.inl x3), none] [] M = (if (M 19 24) ≤ (1 : Int32) then gX10_read 173 [some (.inr (some 19)), some (.inl x1), some (.inl x2), some (.inl x3), none] [] M else (if (M 38 0) = (16 : Int32) then (if (M 19 30) < 0 then gX10_read 173 [some (.inr (some 19)), some (.inl x1), some (.inl x2), some (.inl x3), none] [] M else (mX10_answer [.inr (some 19), .inl (M 19 30), .inl (1 : Int32)] M).bind (fun r => gX10_read 170 [some (.inr (some 19)), some (.inl x1), some (.inl x2), some (.inl x3), none] (r.1.toList ++ []) r.2)) else gX10_read 173 [some (.inr (some 19)), some (.inl x1), some (.inl x2), some (.inl x3), none] [] M)) := by
  have h : ∀ k : KT, mgs (zlook tX10_read) nX10_read k 18 135 [some (.inr (some 19)), some (.inl x1), some (.inl x2), some (.inl x3), none] [] M = (if (M 19 24) ≤ (1 : Int32) then k 173 [some (.inr (some 19)), some (.inl x1), some (.inl x2), some (.inl x3), none] [] M else (if (M 38 0) = (16 : Int32) then (if (M 19 30) < 0 then k 173 [some (.inr (some 19)), some (.inl x1), some (.inl x2), some (.inl x3), none] [] M else (mX10_answer [.inr (some 19), .inl (M 19 30), .inl (1 : Int32)] M).bind (fun r => k 170 [some (.inr (some 19)), some (.inl x1), some (.inl x2), some (.inl x3), none] (r.1.toList ++ []) r.2)) else k 173 [some (.inr (some 19)), some (.inl x1), some (.inl x2), some (.inl x3), none] [] M)) := fun k => rfl
  have h := h gX10_read
  rw [mgs_gX10_read] at h
  exact h
set_option maxRecDepth 100000 in
theorem eX10_read_170 (M : MM) (x1 : Int32) (x2 : Int32) (x3 : Int32) (xs0 : Int32) : gX10_read 170 [some (.inr (some 19)), some (.inl x1), some (.inl x2), some (.inl x3), none] [.inl xs0] M = gX10_read 174 [some (.inr (some 19)), some (.inl x1), some (.inl x2), some (.inl x3), none] [.inl xs0] M := by
  have h : ∀ k : KT, mgs (zlook tX10_read) nX10_read k 1 170 [some (.inr (some 19)), some (.inl x1), some (.inl x2), some (.inl x3), none] [.inl xs0] M = k 174 [some (.inr (some 19)), some (.inl x1), some (.inl x2), some (.inl x3), none] [.inl xs0] M := fun k => rfl
  have h := h gX10_read
  rw [mgs_gX10_read] at h
  exact h
set_option maxRecDepth 100000 in
theorem eX10_read_173 (M : MM) (x1 : Int32) (x2 : Int32) (x3 : Int32) : gX10_read 173 [some (.inr (some 19)), some (.inl x1), some (.inl x2), some (.inl x3), none] [] M = gX10_read 174 [some (.inr (some 19)), some (.inl x1), some (.inl x2), some (.inl x3), none] [.inl (-1 : Int32)] M := by
  have h : ∀ k : KT, mgs (zlook tX10_read) nX10_read k 1 173 [some (.inr (some 19)), some (.inl x1), some (.inl x2), some (.inl x3), none] [] M = k 174 [some (.inr (some 19)), some (.inl x1), some (.inl x2), some (.inl x3), none] [.inl (-1 : Int32)] M := fun k => rfl
  have h := h gX10_read
  rw [mgs_gX10_read] at h
  exact h
set_option maxRecDepth 100000 in
theorem eX10_read_174 (M : MM) (x1 : Int32) (x2 : Int32) (x3 : Int32) (xs0 : Int32) : gX10_read 174 [some (.inr (some 19)), some (.inl x1), some (.inl x2), some (.inl x3), none] [.inl xs0] M = (if xs0 < 0 then gX10_read 195 [some (.inr (some 19)), some (.inl x1), some (.inl x2), some (.inl x3), some (.inl xs0)] [] M else (mX10_found [.inr (some 19), .inl (x1 + (M 19 13)), .inl (8 : Int32), .inl xs0] M).bind (fun r => gX10_read 195 [some (.inr (some 19)), some (.inl x1), some (.inl x2), some (.inl x3), some (.inl xs0)] (r.1.toList ++ []) r.2)) := by
  have h : ∀ k : KT, mgs (zlook tX10_read) nX10_read k 11 174 [some (.inr (some 19)), some (.inl x1), some (.inl x2), some (.inl x3), none] [.inl xs0] M = (if xs0 < 0 then k 195 [some (.inr (some 19)), some (.inl x1), some (.inl x2), some (.inl x3), some (.inl xs0)] [] M else (mX10_found [.inr (some 19), .inl (x1 + (M 19 13)), .inl (8 : Int32), .inl xs0] M).bind (fun r => k 195 [some (.inr (some 19)), some (.inl x1), some (.inl x2), some (.inl x3), some (.inl xs0)] (r.1.toList ++ []) r.2)) := fun k => rfl
  have h := h gX10_read
  rw [mgs_gX10_read] at h
  exact h
set_option maxRecDepth 100000 in
theorem eX10_read_195 (M : MM) (x1 : Int32) (x2 : Int32) (x3 : Int32) (x4 : Int32) : gX10_read 195 [some (.inr (some 19)), some (.inl x1), some (.inl x2), some (.inl x3), some (.inl x4)] [] M = some (none, M) := by
  have h : ∀ k : KT, mgs (zlook tX10_read) nX10_read k 1 195 [some (.inr (some 19)), some (.inl x1), some (.inl x2), some (.inl x3), some (.inl x4)] [] M = some (none, M) := fun k => rfl
  have h := h gX10_read
  rw [mgs_gX10_read] at h
  exact h
theorem iX10_read (M : MM) (x1 : Int32) : mX10_read [.inr (some 19), .inl x1] M = gX10_read 0 [some (.inr (some 19)), some (.inl x1), none, none, none] [] M := rfl
noncomputable def gX10_readAll : KT := mev (zlook tX10_readAll)
theorem ctX10_readAll : ∀ q ∈ tX10_readAll, Cont q.2 := by
  refine ccons (cont_aload _ _) ?_
  refine ccons (cont_push _ _) ?_
  refine ccons (cont_push _ _) ?_
  refine ccons (cont_push _ _) ?_
  refine ccons (cont_push _ _) ?_
  refine ccons (cont_callV _ _ _ _) ?_
  refine ccons (cont_aload _ _) ?_
  refine ccons (cont_push _ _) ?_
  refine ccons (cont_push _ _) ?_
  refine ccons (cont_push _ _) ?_
  refine ccons (cont_push _ _) ?_
  refine ccons (cont_callV _ _ _ _) ?_
  refine ccons (cont_push _ _) ?_
  refine ccons (cont_istore _ _) ?_
  refine ccons (cont_iload _ _) ?_
  refine ccons (cont_aload _ _) ?_
  refine ccons (cont_getI _ _ _) ?_
  refine ccons (cont_c_ge _ _) ?_
  refine ccons (cont_aload _ _) ?_
  refine ccons (cont_getR _ _ _) ?_
  refine ccons (cont_iload _ _) ?_
  refine ccons (cont_push _ _) ?_
  refine ccons (cont_ast _) ?_
  refine ccons (cont_iinc _ _ _) ?_
  refine ccons (cont_goto _) ?_
  refine ccons (cont_push _ _) ?_
  refine ccons (cont_istore _ _) ?_
  refine ccons (cont_iload _ _) ?_
  refine ccons (cont_if_eq _ _) ?_
  refine ccons (cont_push _ _) ?_
  refine ccons (cont_istore _ _) ?_
  refine ccons (cont_aload _ _) ?_
  refine ccons (cont_push _ _) ?_
  refine ccons (cont_put _ _ _) ?_
  refine ccons (cont_push _ _) ?_
  refine ccons (cont_istore _ _) ?_
  refine ccons (cont_iload _ _) ?_
  refine ccons (cont_aload _ _) ?_
  refine ccons (cont_getI _ _ _) ?_
  refine ccons (cont_c_ge _ _) ?_
  refine ccons (cont_aload _ _) ?_
  refine ccons (cont_getR _ _ _) ?_
  refine ccons (cont_iload _ _) ?_
  refine ccons (cont_ald _ _) ?_
  refine ccons (cont_aload _ _) ?_
  refine ccons (cont_getR _ _ _) ?_
  refine ccons (cont_iload _ _) ?_
  refine ccons (cont_ald _ _) ?_
  refine ccons (cont_c_ne _ _) ?_
  refine ccons (cont_push _ _) ?_
  refine ccons (cont_goto _) ?_
  refine ccons (cont_push _ _) ?_
  refine ccons (cont_istore _ _) ?_
  refine ccons (cont_iload _ _) ?_
  refine ccons (cont_iload _ _) ?_
  refine ccons (cont_if_eq _ _) ?_
  refine ccons (cont_aload _ _) ?_
  refine ccons (cont_getI _ _ _) ?_
  refine ccons (cont_goto _) ?_
  refine ccons (cont_aload _ _) ?_
  refine ccons (cont_getR _ _ _) ?_
  refine ccons (cont_push _ _) ?_
  refine ccons (cont_iload _ _) ?_
  refine ccons (cont_bin _ _) ?_
  refine ccons (cont_aload _ _) ?_
  refine ccons (cont_getR _ _ _) ?_
  refine ccons (cont_iload _ _) ?_
  refine ccons (cont_ald _ _) ?_
  refine ccons (cont_bin _ _) ?_
  refine ccons (cont_ald _ _) ?_
  refine ccons (cont_bin _ _) ?_
  refine ccons (cont_istore _ _) ?_
  refine ccons (cont_iload _ _) ?_
  refine ccons (cont_if_eq _ _) ?_
  refine ccons (cont_goto _) ?_
  refine ccons (cont_aload _ _) ?_
  refine ccons (cont_getR _ _ _) ?_
  refine ccons (cont_aload _ _) ?_
  refine ccons (cont_getI _ _ _) ?_
  refine ccons (cont_aload _ _) ?_
  refine ccons (cont_getR _ _ _) ?_
  refine ccons (cont_push _ _) ?_
  refine ccons (cont_iload _ _) ?_
  refine ccons (cont_bin _ _) ?_
  refine ccons (cont_aload _ _) ?_
  refine ccons (cont_getR _ _ _) ?_
  refine ccons (cont_iload _ _) ?_
  refine ccons (cont_ald _ _) ?_
  refine ccons (cont_bin _ _) ?_
  refine ccons (cont_ald _ _) ?_
  refine ccons (cont_ast _) ?_
  refine ccons (cont_aload _ _) ?_
  refine ccons (cont_dup _) ?_
  refine ccons (cont_getI _ _ _) ?_
  refine ccons (cont_push _ _) ?_
  refine ccons (cont_bin _ _) ?_
  refine ccons (cont_put _ _ _) ?_
  refine ccons (cont_iinc _ _ _) ?_
  refine ccons (cont_goto _) ?_
  refine ccons (cont_aload _ _) ?_
  refine ccons (cont_iload _ _) ?_
  refine ccons (cont_callV _ _ _ _) ?_
  refine ccons (cont_aload _ _) ?_
  refine ccons (cont_getI _ _ _) ?_
  refine ccons (cont_push _ _) ?_
  refine ccons (cont_bin _ _) ?_
  refine ccons (cont_istore _ _) ?_
  refine ccons (cont_iload _ _) ?_
  refine ccons (cont_if_lt _ _) ?_
  refine ccons (cont_aload _ _) ?_
  refine ccons (cont_getR _ _ _) ?_
  refine ccons (cont_iload _ _) ?_
  refine ccons (cont_ald _ _) ?_
  refine ccons (cont_aload _ _) ?_
  refine ccons (cont_getR _ _ _) ?_
  refine ccons (cont_iload _ _) ?_
  refine ccons (cont_ald _ _) ?_
  refine ccons (cont_c_ne _ _) ?_
  refine ccons (cont_aload _ _) ?_
  refine ccons (cont_getR _ _ _) ?_
  refine ccons (cont_iload _ _) ?_
  refine ccons (cont_push _ _) ?_
  refine ccons (cont_ast _) ?_
  refine ccons (cont_iinc _ _ _) ?_
  refine ccons (cont_goto _) ?_
  refine ccons (cont_iload _ _) ?_
  refine ccons (cont_if_lt _ _) ?_
  refine ccons (cont_push _ _) ?_
  refine ccons (cont_goto _) ?_
  refine ccons (cont_push _ _) ?_
  refine ccons (cont_istore _ _) ?_
  refine ccons (cont_iload _ _) ?_
  refine ccons (cont_if_eq _ _) ?_
  refine ccons (cont_aload _ _) ?_
  refine ccons (cont_getR _ _ _) ?_
  refine ccons (cont_iload _ _) ?_
  refine ccons (cont_dup2 _) ?_
  refine ccons (cont_ald _ _) ?_
  refine ccons (cont_push _ _) ?_
  refine ccons (cont_bin _ _) ?_
  refine ccons (cont_ast _) ?_
  refine ccons (cont_goto _) ?_
  refine ccons (cont_vret) ?_
  exact cnil
theorem mgs_gX10_readAll (cut : List Nat) (n : Nat) : mgs (zlook tX10_readAll) cut gX10_readAll n = gX10_readAll := mgs_mev (ctab ctX10_readAll) cut n
def nX10_readAll : List Nat := [0, 9, 18, 20, 43, 56, 84, 169, 176, 217]
set_option maxRecDepth 100000 in
theorem eX10_readAll_0 (M : MM) : gX10_readAll 0 [some (.inr (some 19)), none, none, none, none] [] M = (mX10_set [.inr (some 19), .inl (0 : Int32), .inl (1000000 : Int32), .inl (0 : Int32), .inl (0 : Int32)] M).bind (fun r => gX10_readAll 9 [some (.inr (some 19)), none, none, none, none] (r.1.toList ++ []) r.2) := by
  have h : ∀ k : KT, mgs (zlook tX10_readAll) nX10_readAll k 6 0 [some (.inr (some 19)), none, none, none, none] [] M = (mX10_set [.inr (some 19), .inl (0 : Int32), .inl (1000000 : Int32), .inl (0 : Int32), .inl (0 : Int32)] M).bind (fun r => k 9 [some (.inr (some 19)), none, none, none, none] (r.1.toList ++ []) r.2) := fun k => rfl
  have h := h gX10_readAll
  rw [mgs_gX10_readAll] at h
  exact h
set_option maxRecDepth 100000 in
theorem eX10_readAll_9 (M : MM) : gX10_readAll 9 [some (.inr (some 19)), none, none, none, none] [] M = (mX10_set [.inr (some 19), .inl (1 : Int32), .inl (1000000 : Int32), .inl (0 : Int32), .inl (0 : Int32)] M).bind (fun r => gX10_readAll 18 [some (.inr (some 19)), none, none, none, none] (r.1.toList ++ []) r.2) := by
  have h : ∀ k : KT, mgs (zlook tX10_readAll) nX10_readAll k 6 9 [some (.inr (some 19)), none, none, none, none] [] M = (mX10_set [.inr (some 19), .inl (1 : Int32), .inl (1000000 : Int32), .inl (0 : Int32), .inl (0 : Int32)] M).bind (fun r => k 18 [some (.inr (some 19)), none, none, none, none] (r.1.toList ++ []) r.2) := fun k => rfl
  have h := h gX10_readAll
  rw [mgs_gX10_readAll] at h
  exact h
set_option maxRecDepth 100000 in
theorem eX10_readAll_18 (M : MM) : gX10_readAll 18 [some (.inr (some 19)), none, none, none, none] [] M = gX10_readAll 20 [some (.inr (some 19)), some (.inl (0 : Int32)), none, none, none] [] M := by
  have h : ∀ k : KT, mgs (zlook tX10_readAll) nX10_readAll k 2 18 [some (.inr (some 19)), none, none, none, none] [] M = k 20 [some (.inr (some 19)), some (.inl (0 : Int32)), none, none, none] [] M := fun k => rfl
  have h := h gX10_readAll
  rw [mgs_gX10_readAll] at h
  exact h
set_option maxRecDepth 100000 in
theorem eX10_readAll_20 (M : MM) (x1 : Int32) : gX10_readAll 20 [some (.inr (some 19)), some (.inl x1), none, none, none] [] M = (if (M 19 16) ≤ x1 then gX10_readAll 43 [some (.inr (some 19)), some (.inl (1 : Int32)), none, none, none] [] M else (if x1 < 0 ∨ 8 ≤ x1.toNatClampNeg then none else gX10_readAll 20 [some (.inr (some 19)), some (.inl (x1 + (1 : Int32))), none, none, none] [] (st2 M 39 x1.toNatClampNeg (0 : Int32)))) := by
  have h : ∀ k : KT, mgs (zlook tX10_readAll) nX10_readAll k 11 20 [some (.inr (some 19)), some (.inl x1), none, none, none] [] M = (if (M 19 16) ≤ x1 then k 43 [some (.inr (some 19)), some (.inl (1 : Int32)), none, none, none] [] M else (if x1 < 0 ∨ 8 ≤ x1.toNatClampNeg then none else k 20 [some (.inr (some 19)), some (.inl (x1 + (1 : Int32))), none, none, none] [] (st2 M 39 x1.toNatClampNeg (0 : Int32)))) := fun k => rfl
  have h := h gX10_readAll
  rw [mgs_gX10_readAll] at h
  exact h
set_option maxRecDepth 100000 in
theorem eX10_readAll_43 (M : MM) (x1 : Int32) (d2 : Option AV) (d3 : Option AV) (d4 : Option AV) : gX10_readAll 43 [some (.inr (some 19)), some (.inl x1), d2, d3, d4] [] M = (if x1 = 0 then some (none, M) else gX10_readAll 56 [some (.inr (some 19)), some (.inl x1), some (.inl (0 : Int32)), some (.inl (0 : Int32)), d4] [] (st2 M 19 24 (0 : Int32))) := by
  have h : ∀ k : KT, mgs (zlook tX10_readAll) nX10_readAll k 9 43 [some (.inr (some 19)), some (.inl x1), d2, d3, d4] [] M = (if x1 = 0 then some (none, M) else k 56 [some (.inr (some 19)), some (.inl x1), some (.inl (0 : Int32)), some (.inl (0 : Int32)), d4] [] (st2 M 19 24 (0 : Int32))) := fun k => rfl
  have h := h gX10_readAll
  rw [mgs_gX10_readAll] at h
  exact h
set_option maxRecDepth 100000 in
theorem eX10_readAll_56 (M : MM) (x1 : Int32) (x2 : Int32) (x3 : Int32) (d4 : Option AV) : gX10_readAll 56 [some (.inr (some 19)), some (.inl x1), some (.inl x2), some (.inl x3), d4] [] M = (if (M 19 16) ≤ x3 then (mX10_read [.inr (some 19), .inl x2] M).bind (fun r => gX10_readAll 169 [some (.inr (some 19)), some (.inl x1), some (.inl x2), some (.inl x3), d4] (r.1.toList ++ []) r.2) else (if x3 < 0 ∨ 8 ≤ x3.toNatClampNeg then none else (if x3 < 0 ∨ 8 ≤ x3.toNatClampNeg then none else (if (M 39 x3.toNatClampNeg) = (M 32 x3.toNatClampNeg) then gX10_readAll 84 [some (.inr (some 19)), some (.inl x1), some (.inl x2), some (.inl x3), d4] [.inl (1 : Int32)] M else gX10_readAll 84 [some (.inr (some 19)), some (.inl x1), some (.inl x2), some (.inl x3), d4] [.inl (0 : Int32)] M)))) := by
  have h : ∀ k : KT, mgs (zlook tX10_readAll) nX10_readAll k 15 56 [some (.inr (some 19)), some (.inl x1), some (.inl x2), some (.inl x3), d4] [] M = (if (M 19 16) ≤ x3 then (mX10_read [.inr (some 19), .inl x2] M).bind (fun r => k 169 [some (.inr (some 19)), some (.inl x1), some (.inl x2), some (.inl x3), d4] (r.1.toList ++ []) r.2) else (if x3 < 0 ∨ 8 ≤ x3.toNatClampNeg then none else (if x3 < 0 ∨ 8 ≤ x3.toNatClampNeg then none else (if (M 39 x3.toNatClampNeg) = (M 32 x3.toNatClampNeg) then k 84 [some (.inr (some 19)), some (.inl x1), some (.inl x2), some (.inl x3), d4] [.inl (1 : Int32)] M else k 84 [some (.inr (some 19)), some (.inl x1), some (.inl x2), some (.inl x3), d4] [.inl (0 : Int32)] M)))) := fun k => rfl
  have h := h gX10_readAll
  rw [mgs_gX10_readAll] at h
  exact h
set_option maxRecDepth 100000 in
theorem eX10_readAll_84 (M : MM) (x1 : Int32) (x2 : Int32) (x3 : Int32) (d4 : Option AV) (xs0 : Int32) : gX10_readAll 84 [some (.inr (some 19)), some (.inl x1), some (.inl x2), some (.inl x3), d4] [.inl xs0] M = (if xs0 = 0 then (if x3 < 0 ∨ 8 ≤ x3.toNatClampNeg then none else (if (((4 : Int32) * x3) + (M 39 x3.toNatClampNeg)) < 0 ∨ 32 ≤ (((4 : Int32) * x3) + (M 39 x3.toNatClampNeg)).toNatClampNeg then none else (if xs0 = 0 then (if x3 < 0 ∨ 8 ≤ x3.toNatClampNeg then none else (if (((4 : Int32) * x3) + (M 39 x3.toNatClampNeg)) < 0 ∨ 32 ≤ (((4 : Int32) * x3) + (M 39 x3.toNatClampNeg)).toNatClampNeg then none else (if (M 19 24) < 0 ∨ 8 ≤ (M 19 24).toNatClampNeg then none else gX10_readAll 56 [some (.inr (some 19)), some (.inl x1), some (.inl (x2 + (M 34 (((4 : Int32) * x3) + (M 39 x3.toNatClampNeg)).toNatClampNeg))), some (.inl (x3 + (1 : Int32))), some (.inl xs0)] [] (st2 (st2 M 38 (M 19 24).toNatClampNeg (M 33 (((4 : Int32) * x3) + (M 39 x3.toNatClampNeg)).toNatClampNeg)) 19 24 (((st2 M 38 (M 19 24).toNatClampNeg (M 33 (((4 : Int32) * x3) + (M 39 x3.toNatClampNeg)).toNatClampNeg)) 19 24) + (1 : Int32)))))) else gX10_readAll 56 [some (.inr (some 19)), some (.inl x1), some (.inl (x2 + (M 34 (((4 : Int32) * x3) + (M 39 x3.toNatClampNeg)).toNatClampNeg))), some (.inl (x3 + (1 : Int32))), some (.inl xs0)] [] M))) else (if xs0 = 0 then (if x3 < 0 ∨ 8 ≤ x3.toNatClampNeg then none else (if (((4 : Int32) * x3) + (M 39 x3.toNatClampNeg)) < 0 ∨ 32 ≤ (((4 : Int32) * x3) + (M 39 x3.toNatClampNeg)).toNatClampNeg then none else (if (M 19 24) < 0 ∨ 8 ≤ (M 19 24).toNatClampNeg then none else gX10_readAll 56 [some (.inr (some 19)), some (.inl x1), some (.inl (x2 + (M 19 12))), some (.inl (x3 + (1 : Int32))), some (.inl xs0)] [] (st2 (st2 M 38 (M 19 24).toNatClampNeg (M 33 (((4 : Int32) * x3) + (M 39 x3.toNatClampNeg)).toNatClampNeg)) 19 24 (((st2 M 38 (M 19 24).toNatClampNeg (M 33 (((4 : Int32) * x3) + (M 39 x3.toNatClampNeg)).toNatClampNeg)) 19 24) + (1 : Int32)))))) else gX10_readAll 56 [some (.inr (some 19)), some (.inl x1), some (.inl (x2 + (M 19 12))), some (.inl (x3 + (1 : Int32))), some (.inl xs0)] [] M)) := by
  have h : ∀ k : KT, mgs (zlook tX10_readAll) nX10_readAll k 43 84 [some (.inr (some 19)), some (.inl x1), some (.inl x2), some (.inl x3), d4] [.inl xs0] M = (if xs0 = 0 then (if x3 < 0 ∨ 8 ≤ x3.toNatClampNeg then none else (if (((4 : Int32) * x3) + (M 39 x3.toNatClampNeg)) < 0 ∨ 32 ≤ (((4 : Int32) * x3) + (M 39 x3.toNatClampNeg)).toNatClampNeg then none else (if xs0 = 0 then (if x3 < 0 ∨ 8 ≤ x3.toNatClampNeg then none else (if (((4 : Int32) * x3) + (M 39 x3.toNatClampNeg)) < 0 ∨ 32 ≤ (((4 : Int32) * x3) + (M 39 x3.toNatClampNeg)).toNatClampNeg then none else (if (M 19 24) < 0 ∨ 8 ≤ (M 19 24).toNatClampNeg then none else k 56 [some (.inr (some 19)), some (.inl x1), some (.inl (x2 + (M 34 (((4 : Int32) * x3) + (M 39 x3.toNatClampNeg)).toNatClampNeg))), some (.inl (x3 + (1 : Int32))), some (.inl xs0)] [] (st2 (st2 M 38 (M 19 24).toNatClampNeg (M 33 (((4 : Int32) * x3) + (M 39 x3.toNatClampNeg)).toNatClampNeg)) 19 24 (((st2 M 38 (M 19 24).toNatClampNeg (M 33 (((4 : Int32) * x3) + (M 39 x3.toNatClampNeg)).toNatClampNeg)) 19 24) + (1 : Int32)))))) else k 56 [some (.inr (some 19)), some (.inl x1), some (.inl (x2 + (M 34 (((4 : Int32) * x3) + (M 39 x3.toNatClampNeg)).toNatClampNeg))), some (.inl (x3 + (1 : Int32))), some (.inl xs0)] [] M))) else (if xs0 = 0 then (if x3 < 0 ∨ 8 ≤ x3.toNatClampNeg then none else (if (((4 : Int32) * x3) + (M 39 x3.toNatClampNeg)) < 0 ∨ 32 ≤ (((4 : Int32) * x3) + (M 39 x3.toNatClampNeg)).toNatClampNeg then none else (if (M 19 24) < 0 ∨ 8 ≤ (M 19 24).toNatClampNeg then none else k 56 [some (.inr (some 19)), some (.inl x1), some (.inl (x2 + (M 19 12))), some (.inl (x3 + (1 : Int32))), some (.inl xs0)] [] (st2 (st2 M 38 (M 19 24).toNatClampNeg (M 33 (((4 : Int32) * x3) + (M 39 x3.toNatClampNeg)).toNatClampNeg)) 19 24 (((st2 M 38 (M 19 24).toNatClampNeg (M 33 (((4 : Int32) * x3) + (M 39 x3.toNatClampNeg)).toNatClampNeg)) 19 24) + (1 : Int32)))))) else k 56 [some (.inr (some 19)), some (.inl x1), some (.inl (x2 + (M 19 12))), some (.inl (x3 + (1 : Int32))), some (.inl xs0)] [] M)) := fun k => rfl
  have h := h gX10_readAll
  rw [mgs_gX10_readAll] at h
  exact h
set_option maxRecDepth 100000 in
theorem eX10_readAll_169 (M : MM) (x1 : Int32) (x2 : Int32) (x3 : Int32) (d4 : Option AV) : gX10_readAll 169 [some (.inr (some 19)), some (.inl x1), some (.inl x2), some (.inl x3), d4] [] M = gX10_readAll 176 [some (.inr (some 19)), some (.inl x1), some (.inl x2), some (.inl ((M 19 16) - (1 : Int32))), d4] [] M := by
  have h : ∀ k : KT, mgs (zlook tX10_readAll) nX10_readAll k 5 169 [some (.inr (some 19)), some (.inl x1), some (.inl x2), some (.inl x3), d4] [] M = k 176 [some (.inr (some 19)), some (.inl x1), some (.inl x2), some (.inl ((M 19 16) - (1 : Int32))), d4] [] M := fun k => rfl
  have h := h gX10_readAll
  rw [mgs_gX10_readAll] at h
  exact h
set_option maxRecDepth 100000 in
theorem eX10_readAll_176 (M : MM) (x1 : Int32) (x2 : Int32) (x3 : Int32) (d4 : Option AV) : gX10_readAll 176 [some (.inr (some 19)), some (.inl x1), some (.inl x2), some (.inl x3), d4] [] M = (if x3 < 0 then (if x3 < 0 then gX10_readAll 217 [some (.inr (some 19)), some (.inl x1), some (.inl x2), some (.inl x3), d4] [.inl (0 : Int32)] M else gX10_readAll 217 [some (.inr (some 19)), some (.inl x1), some (.inl x2), some (.inl x3), d4] [.inl (1 : Int32)] M) else (if x3 < 0 ∨ 8 ≤ x3.toNatClampNeg then none else (if x3 < 0 ∨ 8 ≤ x3.toNatClampNeg then none else (if (M 39 x3.toNatClampNeg) = (M 32 x3.toNatClampNeg) then (if x3 < 0 ∨ 8 ≤ x3.toNatClampNeg then none else gX10_readAll 176 [some (.inr (some 19)), some (.inl x1), some (.inl x2), some (.inl (x3 + (-1 : Int32))), d4] [] (st2 M 39 x3.toNatClampNeg (0 : Int32))) else (if x3 < 0 then gX10_readAll 217 [some (.inr (some 19)), some (.inl x1), some (.inl x2), some (.inl x3), d4] [.inl (0 : Int32)] M else gX10_readAll 217 [some (.inr (some 19)), some (.inl x1), some (.inl x2), some (.inl x3), d4] [.inl (1 : Int32)] M))))) := by
  have h : ∀ k : KT, mgs (zlook tX10_readAll) nX10_readAll k 18 176 [some (.inr (some 19)), some (.inl x1), some (.inl x2), some (.inl x3), d4] [] M = (if x3 < 0 then (if x3 < 0 then k 217 [some (.inr (some 19)), some (.inl x1), some (.inl x2), some (.inl x3), d4] [.inl (0 : Int32)] M else k 217 [some (.inr (some 19)), some (.inl x1), some (.inl x2), some (.inl x3), d4] [.inl (1 : Int32)] M) else (if x3 < 0 ∨ 8 ≤ x3.toNatClampNeg then none else (if x3 < 0 ∨ 8 ≤ x3.toNatClampNeg then none else (if (M 39 x3.toNatClampNeg) = (M 32 x3.toNatClampNeg) then (if x3 < 0 ∨ 8 ≤ x3.toNatClampNeg then none else k 176 [some (.inr (some 19)), some (.inl x1), some (.inl x2), some (.inl (x3 + (-1 : Int32))), d4] [] (st2 M 39 x3.toNatClampNeg (0 : Int32))) else (if x3 < 0 then k 217 [some (.inr (some 19)), some (.inl x1), some (.inl x2), some (.inl x3), d4] [.inl (0 : Int32)] M else k 217 [some (.inr (some 19)), some (.inl x1), some (.inl x2), some (.inl x3), d4] [.inl (1 : Int32)] M))))) := fun k => rfl
  have h := h gX10_readAll
  rw [mgs_gX10_readAll] at h
  exact h
set_option maxRecDepth 100000 in
theorem eX10_readAll_217 (M : MM) (x1 : Int32) (x2 : Int32) (x3 : Int32) (d4 : Option AV) (xs0 : Int32) : gX10_readAll 217 [some (.inr (some 19)), some (.inl x1), some (.inl x2), some (.inl x3), d4] [.inl xs0] M = (if xs0 = 0 then gX10_readAll 43 [some (.inr (some 19)), some (.inl xs0), some (.inl x2), some (.inl x3), d4] [] M else (if x3 < 0 ∨ 8 ≤ x3.toNatClampNeg then none else (if x3 < 0 ∨ 8 ≤ x3.toNatClampNeg then none else gX10_readAll 43 [some (.inr (some 19)), some (.inl xs0), some (.inl x2), some (.inl x3), d4] [] (st2 M 39 x3.toNatClampNeg ((M 39 x3.toNatClampNeg) + (1 : Int32)))))) := by
  have h : ∀ k : KT, mgs (zlook tX10_readAll) nX10_readAll k 12 217 [some (.inr (some 19)), some (.inl x1), some (.inl x2), some (.inl x3), d4] [.inl xs0] M = (if xs0 = 0 then k 43 [some (.inr (some 19)), some (.inl xs0), some (.inl x2), some (.inl x3), d4] [] M else (if x3 < 0 ∨ 8 ≤ x3.toNatClampNeg then none else (if x3 < 0 ∨ 8 ≤ x3.toNatClampNeg then none else k 43 [some (.inr (some 19)), some (.inl xs0), some (.inl x2), some (.inl x3), d4] [] (st2 M 39 x3.toNatClampNeg ((M 39 x3.toNatClampNeg) + (1 : Int32)))))) := fun k => rfl
  have h := h gX10_readAll
  rw [mgs_gX10_readAll] at h
  exact h
theorem iX10_readAll (M : MM) : mX10_readAll [.inr (some 19)] M = gX10_readAll 0 [some (.inr (some 19)), none, none, none, none] [] M := rfl
noncomputable def gX10_comesNow : KT := mev (zlook tX10_comesNow)
theorem ctX10_comesNow : ∀ q ∈ tX10_comesNow, Cont q.2 := by
  refine ccons (cont_iload _ _) ?_
  refine ccons (cont_aload _ _) ?_
  refine ccons (cont_getI _ _ _) ?_
  refine ccons (cont_c_ne _ _) ?_
  refine ccons (cont_vret) ?_
  refine ccons (cont_aload _ _) ?_
  refine ccons (cont_getI _ _ _) ?_
  refine ccons (cont_if_lt _ _) ?_
  refine ccons (cont_aload _ _) ?_
  refine ccons (cont_getI _ _ _) ?_
  refine ccons (cont_push _ _) ?_
  refine ccons (cont_c_ne _ _) ?_
  refine ccons (cont_push _ _) ?_
  refine ccons (cont_istore _ _) ?_
  refine ccons (cont_iload _ _) ?_
  refine ccons (cont_push _ _) ?_
  refine ccons (cont_c_ge _ _) ?_
  refine ccons (cont_aload _ _) ?_
  refine ccons (cont_getR _ _ _) ?_
  refine ccons (cont_iload _ _) ?_
  refine ccons (cont_push _ _) ?_
  refine ccons (cont_bin _ _) ?_
  refine ccons (cont_aload _ _) ?_
  refine ccons (cont_getR _ _ _) ?_
  refine ccons (cont_iload _ _) ?_
  refine ccons (cont_ald _ _) ?_
  refine ccons (cont_ast _) ?_
  refine ccons (cont_iinc _ _ _) ?_
  refine ccons (cont_goto _) ?_
  refine ccons (cont_aload _ _) ?_
  refine ccons (cont_dup _) ?_
  refine ccons (cont_getI _ _ _) ?_
  refine ccons (cont_push _ _) ?_
  refine ccons (cont_bin _ _) ?_
  refine ccons (cont_put _ _ _) ?_
  refine ccons (cont_aload _ _) ?_
  refine ccons (cont_getR _ _ _) ?_
  refine ccons (cont_aload _ _) ?_
  refine ccons (cont_getI _ _ _) ?_
  refine ccons (cont_aload _ _) ?_
  refine ccons (cont_getI _ _ _) ?_
  refine ccons (cont_ast _) ?_
  refine ccons (cont_aload _ _) ?_
  refine ccons (cont_dup _) ?_
  refine ccons (cont_getI _ _ _) ?_
  refine ccons (cont_push _ _) ?_
  refine ccons (cont_bin _ _) ?_
  refine ccons (cont_put _ _ _) ?_
  refine ccons (cont_aload _ _) ?_
  refine ccons (cont_iload _ _) ?_
  refine ccons (cont_put _ _ _) ?_
  refine ccons (cont_vret) ?_
  exact cnil
theorem mgs_gX10_comesNow (cut : List Nat) (n : Nat) : mgs (zlook tX10_comesNow) cut gX10_comesNow n = gX10_comesNow := mgs_mev (ctab ctX10_comesNow) cut n
def nX10_comesNow : List Nat := [0, 27, 63]
set_option maxRecDepth 100000 in
theorem eX10_comesNow_0 (M : MM) (x1 : Int32) : gX10_comesNow 0 [some (.inr (some 19)), some (.inl x1), none] [] M = (if x1 = (M 19 29) then some (none, M) else (if (M 19 29) < 0 then some (none, (st2 M 19 29 x1)) else (if (M 19 31) = (20 : Int32) then gX10_comesNow 27 [some (.inr (some 19)), some (.inl x1), some (.inl (1 : Int32))] [] M else gX10_comesNow 63 [some (.inr (some 19)), some (.inl x1), none] [] M))) := by
  have h : ∀ k : KT, mgs (zlook tX10_comesNow) nX10_comesNow k 13 0 [some (.inr (some 19)), some (.inl x1), none] [] M = (if x1 = (M 19 29) then some (none, M) else (if (M 19 29) < 0 then some (none, (st2 M 19 29 x1)) else (if (M 19 31) = (20 : Int32) then k 27 [some (.inr (some 19)), some (.inl x1), some (.inl (1 : Int32))] [] M else k 63 [some (.inr (some 19)), some (.inl x1), none] [] M))) := fun k => rfl
  have h := h gX10_comesNow
  rw [mgs_gX10_comesNow] at h
  exact h
set_option maxRecDepth 100000 in
theorem eX10_comesNow_27 (M : MM) (x1 : Int32) (x2 : Int32) : gX10_comesNow 27 [some (.inr (some 19)), some (.inl x1), some (.inl x2)] [] M = (if (20 : Int32) ≤ x2 then gX10_comesNow 63 [some (.inr (some 19)), some (.inl x1), some (.inl x2)] [] (st2 M 19 31 ((M 19 31) - (1 : Int32))) else (if x2 < 0 ∨ 20 ≤ x2.toNatClampNeg then none else (if (x2 - (1 : Int32)) < 0 ∨ 20 ≤ (x2 - (1 : Int32)).toNatClampNeg then none else gX10_comesNow 27 [some (.inr (some 19)), some (.inl x1), some (.inl (x2 + (1 : Int32)))] [] (st2 M 40 (x2 - (1 : Int32)).toNatClampNeg (M 40 x2.toNatClampNeg))))) := by
  have h : ∀ k : KT, mgs (zlook tX10_comesNow) nX10_comesNow k 15 27 [some (.inr (some 19)), some (.inl x1), some (.inl x2)] [] M = (if (20 : Int32) ≤ x2 then k 63 [some (.inr (some 19)), some (.inl x1), some (.inl x2)] [] (st2 M 19 31 ((M 19 31) - (1 : Int32))) else (if x2 < 0 ∨ 20 ≤ x2.toNatClampNeg then none else (if (x2 - (1 : Int32)) < 0 ∨ 20 ≤ (x2 - (1 : Int32)).toNatClampNeg then none else k 27 [some (.inr (some 19)), some (.inl x1), some (.inl (x2 + (1 : Int32)))] [] (st2 M 40 (x2 - (1 : Int32)).toNatClampNeg (M 40 x2.toNatClampNeg))))) := fun k => rfl
  have h := h gX10_comesNow
  rw [mgs_gX10_comesNow] at h
  exact h
set_option maxRecDepth 100000 in
theorem eX10_comesNow_63 (M : MM) (x1 : Int32) (d2 : Option AV) : gX10_comesNow 63 [some (.inr (some 19)), some (.inl x1), d2] [] M = (if (M 19 31) < 0 ∨ 20 ≤ (M 19 31).toNatClampNeg then none else some (none, (st2 (st2 (st2 M 40 (M 19 31).toNatClampNeg (M 19 29)) 19 31 (((st2 M 40 (M 19 31).toNatClampNeg (M 19 29)) 19 31) + (1 : Int32))) 19 29 x1))) := by
  have h : ∀ k : KT, mgs (zlook tX10_comesNow) nX10_comesNow k 17 63 [some (.inr (some 19)), some (.inl x1), d2] [] M = (if (M 19 31) < 0 ∨ 20 ≤ (M 19 31).toNatClampNeg then none else some (none, (st2 (st2 (st2 M 40 (M 19 31).toNatClampNeg (M 19 29)) 19 31 (((st2 M 40 (M 19 31).toNatClampNeg (M 19 29)) 19 31) + (1 : Int32))) 19 29 x1))) := fun k => rfl
  have h := h gX10_comesNow
  rw [mgs_gX10_comesNow] at h
  exact h
theorem iX10_comesNow (M : MM) (x1 : Int32) : mX10_comesNow [.inr (some 19), .inl x1] M = gX10_comesNow 0 [some (.inr (some 19)), some (.inl x1), none] [] M := rfl
noncomputable def gX10_isOpen : KT := mev (zlook tX10_isOpen)
theorem ctX10_isOpen : ∀ q ∈ tX10_isOpen, Cont q.2 := by
  refine ccons (cont_aload _ _) ?_
  refine ccons (cont_iload _ _) ?_
  refine ccons (cont_callV _ _ _ _) ?_
  refine ccons (cont_if_eq _ _) ?_
  refine ccons (cont_aload _ _) ?_
  refine ccons (cont_getR _ _ _) ?_
  refine ccons (cont_iload _ _) ?_
  refine ccons (cont_ald _ _) ?_
  refine ccons (cont_if_ge _ _) ?_
  refine ccons (cont_aload _ _) ?_
  refine ccons (cont_getR _ _ _) ?_
  refine ccons (cont_iload _ _) ?_
  refine ccons (cont_ald _ _) ?_
  refine ccons (cont_if_ne _ _) ?_
  refine ccons (cont_push _ _) ?_
  refine ccons (cont_goto _) ?_
  refine ccons (cont_push _ _) ?_
  refine ccons (cont_zret) ?_
  exact cnil
theorem mgs_gX10_isOpen (cut : List Nat) (n : Nat) : mgs (zlook tX10_isOpen) cut gX10_isOpen n = gX10_isOpen := mgs_mev (ctab ctX10_isOpen) cut n
def nX10_isOpen : List Nat := [0, 5]
set_option maxRecDepth 100000 in
theorem eX10_isOpen_0 (M : MM) (x1 : Int32) : gX10_isOpen 0 [some (.inr (some 19)), some (.inl x1)] [] M = (mX10_isAsked [.inr (some 19), .inl x1] M).bind (fun r => gX10_isOpen 5 [some (.inr (some 19)), some (.inl x1)] (r.1.toList ++ []) r.2) := by
  have h : ∀ k : KT, mgs (zlook tX10_isOpen) nX10_isOpen k 3 0 [some (.inr (some 19)), some (.inl x1)] [] M = (mX10_isAsked [.inr (some 19), .inl x1] M).bind (fun r => k 5 [some (.inr (some 19)), some (.inl x1)] (r.1.toList ++ []) r.2) := fun k => rfl
  have h := h gX10_isOpen
  rw [mgs_gX10_isOpen] at h
  exact h
set_option maxRecDepth 100000 in
theorem eX10_isOpen_5 (M : MM) (x1 : Int32) (xs0 : Int32) : gX10_isOpen 5 [some (.inr (some 19)), some (.inl x1)] [.inl xs0] M = (if xs0 = 0 then some ((some (.inl (0 : Int32))), M) else (if x1 < 0 ∨ 12 ≤ x1.toNatClampNeg then none else (if 0 ≤ (M 28 x1.toNatClampNeg) then some ((some (.inl (0 : Int32))), M) else (if x1 < 0 ∨ 12 ≤ x1.toNatClampNeg then none else (if (M 30 x1.toNatClampNeg) = 0 then some ((some (.inl (1 : Int32))), M) else some ((some (.inl (0 : Int32))), M)))))) := by
  have h : ∀ k : KT, mgs (zlook tX10_isOpen) nX10_isOpen k 14 5 [some (.inr (some 19)), some (.inl x1)] [.inl xs0] M = (if xs0 = 0 then some ((some (.inl (0 : Int32))), M) else (if x1 < 0 ∨ 12 ≤ x1.toNatClampNeg then none else (if 0 ≤ (M 28 x1.toNatClampNeg) then some ((some (.inl (0 : Int32))), M) else (if x1 < 0 ∨ 12 ≤ x1.toNatClampNeg then none else (if (M 30 x1.toNatClampNeg) = 0 then some ((some (.inl (1 : Int32))), M) else some ((some (.inl (0 : Int32))), M)))))) := fun k => rfl
  have h := h gX10_isOpen
  rw [mgs_gX10_isOpen] at h
  exact h
theorem iX10_isOpen (M : MM) (x1 : Int32) : mX10_isOpen [.inr (some 19), .inl x1] M = gX10_isOpen 0 [some (.inr (some 19)), some (.inl x1)] [] M := rfl
noncomputable def gX10_nextBehind : KT := mev (zlook tX10_nextBehind)
theorem ctX10_nextBehind : ∀ q ∈ tX10_nextBehind, Cont q.2 := by
  refine ccons (cont_iload _ _) ?_
  refine ccons (cont_push _ _) ?_
  refine ccons (cont_bin _ _) ?_
  refine ccons (cont_istore _ _) ?_
  refine ccons (cont_iload _ _) ?_
  refine ccons (cont_aload _ _) ?_
  refine ccons (cont_getI _ _ _) ?_
  refine ccons (cont_c_ge _ _) ?_
  refine ccons (cont_aload _ _) ?_
  refine ccons (cont_iload _ _) ?_
  refine ccons (cont_callV _ _ _ _) ?_
  refine ccons (cont_if_eq _ _) ?_
  refine ccons (cont_iload _ _) ?_
  refine ccons (cont_iret) ?_
  refine ccons (cont_iinc _ _ _) ?_
  refine ccons (cont_goto _) ?_
  refine ccons (cont_push _ _) ?_
  refine ccons (cont_istore _ _) ?_
  refine ccons (cont_iload _ _) ?_
  refine ccons (cont_aload _ _) ?_
  refine ccons (cont_getI _ _ _) ?_
  refine ccons (cont_c_ge _ _) ?_
  refine ccons (cont_aload _ _) ?_
  refine ccons (cont_iload _ _) ?_
  refine ccons (cont_callV _ _ _ _) ?_
  refine ccons (cont_if_eq _ _) ?_
  refine ccons (cont_iload _ _) ?_
  refine ccons (cont_iret) ?_
  refine ccons (cont_iinc _ _ _) ?_
  refine ccons (cont_goto _) ?_
  refine ccons (cont_push _ _) ?_
  refine ccons (cont_iret) ?_
  exact cnil
theorem mgs_gX10_nextBehind (cut : List Nat) (n : Nat) : mgs (zlook tX10_nextBehind) cut gX10_nextBehind n = gX10_nextBehind := mgs_mev (ctab ctX10_nextBehind) cut n
def nX10_nextBehind : List Nat := [0, 4, 17, 30, 43]
set_option maxRecDepth 100000 in
theorem eX10_nextBehind_0 (M : MM) (x1 : Int32) : gX10_nextBehind 0 [some (.inr (some 19)), some (.inl x1), none] [] M = gX10_nextBehind 4 [some (.inr (some 19)), some (.inl x1), some (.inl (x1 + (1 : Int32)))] [] M := by
  have h : ∀ k : KT, mgs (zlook tX10_nextBehind) nX10_nextBehind k 4 0 [some (.inr (some 19)), some (.inl x1), none] [] M = k 4 [some (.inr (some 19)), some (.inl x1), some (.inl (x1 + (1 : Int32)))] [] M := fun k => rfl
  have h := h gX10_nextBehind
  rw [mgs_gX10_nextBehind] at h
  exact h
set_option maxRecDepth 100000 in
theorem eX10_nextBehind_4 (M : MM) (x1 : Int32) (x2 : Int32) : gX10_nextBehind 4 [some (.inr (some 19)), some (.inl x1), some (.inl x2)] [] M = (if (M 19 0) ≤ x2 then gX10_nextBehind 30 [some (.inr (some 19)), some (.inl x1), some (.inl (0 : Int32))] [] M else (mX10_isOpen [.inr (some 19), .inl x2] M).bind (fun r => gX10_nextBehind 17 [some (.inr (some 19)), some (.inl x1), some (.inl x2)] (r.1.toList ++ []) r.2)) := by
  have h : ∀ k : KT, mgs (zlook tX10_nextBehind) nX10_nextBehind k 7 4 [some (.inr (some 19)), some (.inl x1), some (.inl x2)] [] M = (if (M 19 0) ≤ x2 then k 30 [some (.inr (some 19)), some (.inl x1), some (.inl (0 : Int32))] [] M else (mX10_isOpen [.inr (some 19), .inl x2] M).bind (fun r => k 17 [some (.inr (some 19)), some (.inl x1), some (.inl x2)] (r.1.toList ++ []) r.2)) := fun k => rfl
  have h := h gX10_nextBehind
  rw [mgs_gX10_nextBehind] at h
  exact h
set_option maxRecDepth 100000 in
theorem eX10_nextBehind_17 (M : MM) (x1 : Int32) (x2 : Int32) (xs0 : Int32) : gX10_nextBehind 17 [some (.inr (some 19)), some (.inl x1), some (.inl x2)] [.inl xs0] M = (if xs0 = 0 then gX10_nextBehind 4 [some (.inr (some 19)), some (.inl x1), some (.inl (x2 + (1 : Int32)))] [] M else some ((some (.inl x2)), M)) := by
  have h : ∀ k : KT, mgs (zlook tX10_nextBehind) nX10_nextBehind k 3 17 [some (.inr (some 19)), some (.inl x1), some (.inl x2)] [.inl xs0] M = (if xs0 = 0 then k 4 [some (.inr (some 19)), some (.inl x1), some (.inl (x2 + (1 : Int32)))] [] M else some ((some (.inl x2)), M)) := fun k => rfl
  have h := h gX10_nextBehind
  rw [mgs_gX10_nextBehind] at h
  exact h
set_option maxRecDepth 100000 in
theorem eX10_nextBehind_30 (M : MM) (x1 : Int32) (x2 : Int32) : gX10_nextBehind 30 [some (.inr (some 19)), some (.inl x1), some (.inl x2)] [] M = (if (M 19 0) ≤ x2 then some ((some (.inl (-1 : Int32))), M) else (mX10_isOpen [.inr (some 19), .inl x2] M).bind (fun r => gX10_nextBehind 43 [some (.inr (some 19)), some (.inl x1), some (.inl x2)] (r.1.toList ++ []) r.2)) := by
  have h : ∀ k : KT, mgs (zlook tX10_nextBehind) nX10_nextBehind k 7 30 [some (.inr (some 19)), some (.inl x1), some (.inl x2)] [] M = (if (M 19 0) ≤ x2 then some ((some (.inl (-1 : Int32))), M) else (mX10_isOpen [.inr (some 19), .inl x2] M).bind (fun r => k 43 [some (.inr (some 19)), some (.inl x1), some (.inl x2)] (r.1.toList ++ []) r.2)) := fun k => rfl
  have h := h gX10_nextBehind
  rw [mgs_gX10_nextBehind] at h
  exact h
set_option maxRecDepth 100000 in
theorem eX10_nextBehind_43 (M : MM) (x1 : Int32) (x2 : Int32) (xs0 : Int32) : gX10_nextBehind 43 [some (.inr (some 19)), some (.inl x1), some (.inl x2)] [.inl xs0] M = (if xs0 = 0 then gX10_nextBehind 30 [some (.inr (some 19)), some (.inl x1), some (.inl (x2 + (1 : Int32)))] [] M else some ((some (.inl x2)), M)) := by
  have h : ∀ k : KT, mgs (zlook tX10_nextBehind) nX10_nextBehind k 3 43 [some (.inr (some 19)), some (.inl x1), some (.inl x2)] [.inl xs0] M = (if xs0 = 0 then k 30 [some (.inr (some 19)), some (.inl x1), some (.inl (x2 + (1 : Int32)))] [] M else some ((some (.inl x2)), M)) := fun k => rfl
  have h := h gX10_nextBehind
  rw [mgs_gX10_nextBehind] at h
  exact h
theorem iX10_nextBehind (M : MM) (x1 : Int32) : mX10_nextBehind [.inr (some 19), .inl x1] M = gX10_nextBehind 0 [some (.inr (some 19)), some (.inl x1), none] [] M := rfl
noncomputable def gX10_keep : KT := mev (zlook tX10_keep)
theorem ctX10_keep : ∀ q ∈ tX10_keep, Cont q.2 := by
  refine ccons (cont_aload _ _) ?_
  refine ccons (cont_getR _ _ _) ?_
  refine ccons (cont_iload _ _) ?_
  refine ccons (cont_iload _ _) ?_
  refine ccons (cont_ast _) ?_
  refine ccons (cont_aload _ _) ?_
  refine ccons (cont_getR _ _ _) ?_
  refine ccons (cont_iload _ _) ?_
  refine ccons (cont_iload _ _) ?_
  refine ccons (cont_zst _) ?_
  refine ccons (cont_aload _ _) ?_
  refine ccons (cont_iload _ _) ?_
  refine ccons (cont_put _ _ _) ?_
  refine ccons (cont_aload _ _) ?_
  refine ccons (cont_push _ _) ?_
  refine ccons (cont_putZ _ _ _) ?_
  refine ccons (cont_push _ _) ?_
  refine ccons (cont_istore _ _) ?_
  refine ccons (cont_iload _ _) ?_
  refine ccons (cont_aload _ _) ?_
  refine ccons (cont_getI _ _ _) ?_
  refine ccons (cont_c_ge _ _) ?_
  refine ccons (cont_aload _ _) ?_
  refine ccons (cont_getR _ _ _) ?_
  refine ccons (cont_iload _ _) ?_
  refine ccons (cont_ald _ _) ?_
  refine ccons (cont_if_lt _ _) ?_
  refine ccons (cont_aload _ _) ?_
  refine ccons (cont_iload _ _) ?_
  refine ccons (cont_callV _ _ _ _) ?_
  refine ccons (cont_if_eq _ _) ?_
  refine ccons (cont_goto _) ?_
  refine ccons (cont_aload _ _) ?_
  refine ccons (cont_getR _ _ _) ?_
  refine ccons (cont_iload _ _) ?_
  refine ccons (cont_push _ _) ?_
  refine ccons (cont_ast _) ?_
  refine ccons (cont_aload _ _) ?_
  refine ccons (cont_getR _ _ _) ?_
  refine ccons (cont_iload _ _) ?_
  refine ccons (cont_push _ _) ?_
  refine ccons (cont_zst _) ?_
  refine ccons (cont_aload _ _) ?_
  refine ccons (cont_dup _) ?_
  refine ccons (cont_getI _ _ _) ?_
  refine ccons (cont_push _ _) ?_
  refine ccons (cont_bin _ _) ?_
  refine ccons (cont_put _ _ _) ?_
  refine ccons (cont_aload _ _) ?_
  refine ccons (cont_getI _ _ _) ?_
  refine ccons (cont_iload _ _) ?_
  refine ccons (cont_c_ne _ _) ?_
  refine ccons (cont_aload _ _) ?_
  refine ccons (cont_push _ _) ?_
  refine ccons (cont_put _ _ _) ?_
  refine ccons (cont_iinc _ _ _) ?_
  refine ccons (cont_goto _) ?_
  refine ccons (cont_aload _ _) ?_
  refine ccons (cont_getI _ _ _) ?_
  refine ccons (cont_if_lt _ _) ?_
  refine ccons (cont_iload _ _) ?_
  refine ccons (cont_aload _ _) ?_
  refine ccons (cont_getI _ _ _) ?_
  refine ccons (cont_c_eq _ _) ?_
  refine ccons (cont_aload _ _) ?_
  refine ccons (cont_aload _ _) ?_
  refine ccons (cont_getI _ _ _) ?_
  refine ccons (cont_callV _ _ _ _) ?_
  refine ccons (cont_if_ne _ _) ?_
  refine ccons (cont_aload _ _) ?_
  refine ccons (cont_aload _ _) ?_
  refine ccons (cont_aload _ _) ?_
  refine ccons (cont_getI _ _ _) ?_
  refine ccons (cont_callV _ _ _ _) ?_
  refine ccons (cont_callV _ _ _ _) ?_
  refine ccons (cont_push _ _) ?_
  refine ccons (cont_iret) ?_
  exact cnil
theorem mgs_gX10_keep (cut : List Nat) (n : Nat) : mgs (zlook tX10_keep) cut gX10_keep n = gX10_keep := mgs_mev (ctab ctX10_keep) cut n
def nX10_keep : List Nat := [0, 27, 52, 127, 130, 139, 142]
set_option maxRecDepth 100000 in
theorem eX10_keep_0 (M : MM) (x1 : Int32) (x2 : Int32) (x3 : Int32) : gX10_keep 0 [some (.inr (some 19)), some (.inl x1), some (.inl x2), some (.inl x3), none] [] M = (if x1 < 0 ∨ 12 ≤ x1.toNatClampNeg then none else (if x1 < 0 ∨ 12 ≤ x1.toNatClampNeg then none else (if x3 = 0 ∨ x3 = 1 then gX10_keep 27 [some (.inr (some 19)), some (.inl x1), some (.inl x2), some (.inl x3), some (.inl (0 : Int32))] [] (st2 (st2 (st2 (st2 M 28 x1.toNatClampNeg x2) 29 x1.toNatClampNeg x3) 19 30 x1) 19 28 (0 : Int32)) else none))) := by
  have h : ∀ k : KT, mgs (zlook tX10_keep) nX10_keep k 18 0 [some (.inr (some 19)), some (.inl x1), some (.inl x2), some (.inl x3), none] [] M = (if x1 < 0 ∨ 12 ≤ x1.toNatClampNeg then none else (if x1 < 0 ∨ 12 ≤ x1.toNatClampNeg then none else (if x3 = 0 ∨ x3 = 1 then k 27 [some (.inr (some 19)), some (.inl x1), some (.inl x2), some (.inl x3), some (.inl (0 : Int32))] [] (st2 (st2 (st2 (st2 M 28 x1.toNatClampNeg x2) 29 x1.toNatClampNeg x3) 19 30 x1) 19 28 (0 : Int32)) else none))) := fun k => rfl
  have h := h gX10_keep
  rw [mgs_gX10_keep] at h
  exact h
set_option maxRecDepth 100000 in
theorem eX10_keep_27 (M : MM) (x1 : Int32) (x2 : Int32) (x3 : Int32) (x4 : Int32) : gX10_keep 27 [some (.inr (some 19)), some (.inl x1), some (.inl x2), some (.inl x3), some (.inl x4)] [] M = (if (M 19 0) ≤ x4 then (if (M 19 29) < 0 then gX10_keep 142 [some (.inr (some 19)), some (.inl x1), some (.inl x2), some (.inl x3), some (.inl x4)] [] M else (if x1 = (M 19 29) then gX10_keep 130 [some (.inr (some 19)), some (.inl x1), some (.inl x2), some (.inl x3), some (.inl x4)] [] M else (mX10_isAsked [.inr (some 19), .inl (M 19 29)] M).bind (fun r => gX10_keep 127 [some (.inr (some 19)), some (.inl x1), some (.inl x2), some (.inl x3), some (.inl x4)] (r.1.toList ++ []) r.2))) else (if x4 < 0 ∨ 12 ≤ x4.toNatClampNeg then none else (if (M 28 x4.toNatClampNeg) < 0 then gX10_keep 27 [some (.inr (some 19)), some (.inl x1), some (.inl x2), some (.inl x3), some (.inl (x4 + (1 : Int32)))] [] M else (mX10_isAsked [.inr (some 19), .inl x4] M).bind (fun r => gX10_keep 52 [some (.inr (some 19)), some (.inl x1), some (.inl x2), some (.inl x3), some (.inl x4)] (r.1.toList ++ []) r.2)))) := by
  have h : ∀ k : KT, mgs (zlook tX10_keep) nX10_keep k 15 27 [some (.inr (some 19)), some (.inl x1), some (.inl x2), some (.inl x3), some (.inl x4)] [] M = (if (M 19 0) ≤ x4 then (if (M 19 29) < 0 then k 142 [some (.inr (some 19)), some (.inl x1), some (.inl x2), some (.inl x3), some (.inl x4)] [] M else (if x1 = (M 19 29) then k 130 [some (.inr (some 19)), some (.inl x1), some (.inl x2), some (.inl x3), some (.inl x4)] [] M else (mX10_isAsked [.inr (some 19), .inl (M 19 29)] M).bind (fun r => k 127 [some (.inr (some 19)), some (.inl x1), some (.inl x2), some (.inl x3), some (.inl x4)] (r.1.toList ++ []) r.2))) else (if x4 < 0 ∨ 12 ≤ x4.toNatClampNeg then none else (if (M 28 x4.toNatClampNeg) < 0 then k 27 [some (.inr (some 19)), some (.inl x1), some (.inl x2), some (.inl x3), some (.inl (x4 + (1 : Int32)))] [] M else (mX10_isAsked [.inr (some 19), .inl x4] M).bind (fun r => k 52 [some (.inr (some 19)), some (.inl x1), some (.inl x2), some (.inl x3), some (.inl x4)] (r.1.toList ++ []) r.2)))) := fun k => rfl
  have h := h gX10_keep
  rw [mgs_gX10_keep] at h
  exact h
set_option maxRecDepth 100000 in
theorem eX10_keep_52 (M : MM) (x1 : Int32) (x2 : Int32) (x3 : Int32) (x4 : Int32) (xs0 : Int32) : gX10_keep 52 [some (.inr (some 19)), some (.inl x1), some (.inl x2), some (.inl x3), some (.inl x4)] [.inl xs0] M = (if xs0 = 0 then (if x4 < 0 ∨ 12 ≤ x4.toNatClampNeg then none else (if x4 < 0 ∨ 12 ≤ x4.toNatClampNeg then none else (if ((st2 (st2 (st2 M 28 x4.toNatClampNeg (-1 : Int32)) 29 x4.toNatClampNeg (0 : Int32)) 19 34 (((st2 (st2 M 28 x4.toNatClampNeg (-1 : Int32)) 29 x4.toNatClampNeg (0 : Int32)) 19 34) + (1 : Int32))) 19 30) = x4 then gX10_keep 27 [some (.inr (some 19)), some (.inl x1), some (.inl x2), some (.inl x3), some (.inl (x4 + (1 : Int32)))] [] (st2 (st2 (st2 (st2 M 28 x4.toNatClampNeg (-1 : Int32)) 29 x4.toNatClampNeg (0 : Int32)) 19 34 (((st2 (st2 M 28 x4.toNatClampNeg (-1 : Int32)) 29 x4.toNatClampNeg (0 : Int32)) 19 34) + (1 : Int32))) 19 30 (-1 : Int32)) else gX10_keep 27 [some (.inr (some 19)), some (.inl x1), some (.inl x2), some (.inl x3), some (.inl (x4 + (1 : Int32)))] [] (st2 (st2 (st2 M 28 x4.toNatClampNeg (-1 : Int32)) 29 x4.toNatClampNeg (0 : Int32)) 19 34 (((st2 (st2 M 28 x4.toNatClampNeg (-1 : Int32)) 29 x4.toNatClampNeg (0 : Int32)) 19 34) + (1 : Int32)))))) else gX10_keep 27 [some (.inr (some 19)), some (.inl x1), some (.inl x2), some (.inl x3), some (.inl (x4 + (1 : Int32)))] [] M) := by
  have h : ∀ k : KT, mgs (zlook tX10_keep) nX10_keep k 26 52 [some (.inr (some 19)), some (.inl x1), some (.inl x2), some (.inl x3), some (.inl x4)] [.inl xs0] M = (if xs0 = 0 then (if x4 < 0 ∨ 12 ≤ x4.toNatClampNeg then none else (if x4 < 0 ∨ 12 ≤ x4.toNatClampNeg then none else (if ((st2 (st2 (st2 M 28 x4.toNatClampNeg (-1 : Int32)) 29 x4.toNatClampNeg (0 : Int32)) 19 34 (((st2 (st2 M 28 x4.toNatClampNeg (-1 : Int32)) 29 x4.toNatClampNeg (0 : Int32)) 19 34) + (1 : Int32))) 19 30) = x4 then k 27 [some (.inr (some 19)), some (.inl x1), some (.inl x2), some (.inl x3), some (.inl (x4 + (1 : Int32)))] [] (st2 (st2 (st2 (st2 M 28 x4.toNatClampNeg (-1 : Int32)) 29 x4.toNatClampNeg (0 : Int32)) 19 34 (((st2 (st2 M 28 x4.toNatClampNeg (-1 : Int32)) 29 x4.toNatClampNeg (0 : Int32)) 19 34) + (1 : Int32))) 19 30 (-1 : Int32)) else k 27 [some (.inr (some 19)), some (.inl x1), some (.inl x2), some (.inl x3), some (.inl (x4 + (1 : Int32)))] [] (st2 (st2 (st2 M 28 x4.toNatClampNeg (-1 : Int32)) 29 x4.toNatClampNeg (0 : Int32)) 19 34 (((st2 (st2 M 28 x4.toNatClampNeg (-1 : Int32)) 29 x4.toNatClampNeg (0 : Int32)) 19 34) + (1 : Int32)))))) else k 27 [some (.inr (some 19)), some (.inl x1), some (.inl x2), some (.inl x3), some (.inl (x4 + (1 : Int32)))] [] M) := fun k => rfl
  have h := h gX10_keep
  rw [mgs_gX10_keep] at h
  exact h
set_option maxRecDepth 100000 in
theorem eX10_keep_127 (M : MM) (x1 : Int32) (x2 : Int32) (x3 : Int32) (x4 : Int32) (xs0 : Int32) : gX10_keep 127 [some (.inr (some 19)), some (.inl x1), some (.inl x2), some (.inl x3), some (.inl x4)] [.inl xs0] M = (if xs0 = 0 then gX10_keep 130 [some (.inr (some 19)), some (.inl x1), some (.inl x2), some (.inl x3), some (.inl x4)] [] M else gX10_keep 142 [some (.inr (some 19)), some (.inl x1), some (.inl x2), some (.inl x3), some (.inl x4)] [] M) := by
  have h : ∀ k : KT, mgs (zlook tX10_keep) nX10_keep k 1 127 [some (.inr (some 19)), some (.inl x1), some (.inl x2), some (.inl x3), some (.inl x4)] [.inl xs0] M = (if xs0 = 0 then k 130 [some (.inr (some 19)), some (.inl x1), some (.inl x2), some (.inl x3), some (.inl x4)] [] M else k 142 [some (.inr (some 19)), some (.inl x1), some (.inl x2), some (.inl x3), some (.inl x4)] [] M) := fun k => rfl
  have h := h gX10_keep
  rw [mgs_gX10_keep] at h
  exact h
set_option maxRecDepth 100000 in
theorem eX10_keep_130 (M : MM) (x1 : Int32) (x2 : Int32) (x3 : Int32) (x4 : Int32) : gX10_keep 130 [some (.inr (some 19)), some (.inl x1), some (.inl x2), some (.inl x3), some (.inl x4)] [] M = (mX10_nextBehind [.inr (some 19), .inl (M 19 29)] M).bind (fun r => gX10_keep 139 [some (.inr (some 19)), some (.inl x1), some (.inl x2), some (.inl x3), some (.inl x4)] (r.1.toList ++ [.inr (some 19)]) r.2) := by
  have h : ∀ k : KT, mgs (zlook tX10_keep) nX10_keep k 5 130 [some (.inr (some 19)), some (.inl x1), some (.inl x2), some (.inl x3), some (.inl x4)] [] M = (mX10_nextBehind [.inr (some 19), .inl (M 19 29)] M).bind (fun r => k 139 [some (.inr (some 19)), some (.inl x1), some (.inl x2), some (.inl x3), some (.inl x4)] (r.1.toList ++ [.inr (some 19)]) r.2) := fun k => rfl
  have h := h gX10_keep
  rw [mgs_gX10_keep] at h
  exact h
set_option maxRecDepth 100000 in
theorem eX10_keep_139 (M : MM) (x1 : Int32) (x2 : Int32) (x3 : Int32) (x4 : Int32) (xs0 : Int32) : gX10_keep 139 [some (.inr (some 19)), some (.inl x1), some (.inl x2), some (.inl x3), some (.inl x4)] [.inl xs0, .inr (some 19)] M = (mX10_comesNow [.inr (some 19), .inl xs0] M).bind (fun r => gX10_keep 142 [some (.inr (some 19)), some (.inl x1), some (.inl x2), some (.inl x3), some (.inl x4)] (r.1.toList ++ []) r.2) := by
  have h : ∀ k : KT, mgs (zlook tX10_keep) nX10_keep k 1 139 [some (.inr (some 19)), some (.inl x1), some (.inl x2), some (.inl x3), some (.inl x4)] [.inl xs0, .inr (some 19)] M = (mX10_comesNow [.inr (some 19), .inl xs0] M).bind (fun r => k 142 [some (.inr (some 19)), some (.inl x1), some (.inl x2), some (.inl x3), some (.inl x4)] (r.1.toList ++ []) r.2) := fun k => rfl
  have h := h gX10_keep
  rw [mgs_gX10_keep] at h
  exact h
set_option maxRecDepth 100000 in
theorem eX10_keep_142 (M : MM) (x1 : Int32) (x2 : Int32) (x3 : Int32) (x4 : Int32) : gX10_keep 142 [some (.inr (some 19)), some (.inl x1), some (.inl x2), some (.inl x3), some (.inl x4)] [] M = some ((some (.inl (4 : Int32))), M) := by
  have h : ∀ k : KT, mgs (zlook tX10_keep) nX10_keep k 2 142 [some (.inr (some 19)), some (.inl x1), some (.inl x2), some (.inl x3), some (.inl x4)] [] M = some ((some (.inl (4 : Int32))), M) := fun k => rfl
  have h := h gX10_keep
  rw [mgs_gX10_keep] at h
  exact h
theorem iX10_keep (M : MM) (x1 : Int32) (x2 : Int32) (x3 : Int32) : mX10_keep [.inr (some 19), .inl x1, .inl x2, .inl x3] M = gX10_keep 0 [some (.inr (some 19)), some (.inl x1), some (.inl x2), some (.inl x3), none] [] M := rfl
