/-! Segments of runs: what a run from a cut point on comes to (written by wip/whole/seg.py). -/
noncomputable def gJ7_fill_53178 : KT := mev (zlook tJ7_fill_53178)
theorem ctJ7_fill_53178 : ∀ q ∈ tJ7_fill_53178, Cont q.2 := by
  refine ccons (cont_push _ _) ?_
  refine ccons (cont_istore _ _) ?_
  refine ccons (cont_aload _ _) ?_
  refine ccons (cont_len _) ?_
  refine ccons (cont_istore _ _) ?_
  refine ccons (cont_iload _ _) ?_
  refine ccons (cont_iload _ _) ?_
  refine ccons (cont_c_ge _ _) ?_
  refine ccons (cont_aload _ _) ?_
  refine ccons (cont_iload _ _) ?_
  refine ccons (cont_iload _ _) ?_
  refine ccons (cont_ast _) ?_
  refine ccons (cont_iinc _ _ _) ?_
  refine ccons (cont_goto _) ?_
  refine ccons (cont_vret) ?_
  exact cnil
theorem mgs_gJ7_fill_53178 (cut : List Nat) (n : Nat) : mgs (zlook tJ7_fill_53178) cut gJ7_fill_53178 n = gJ7_fill_53178 := mgs_mev (ctab ctJ7_fill_53178) cut n
def nJ7_fill_53178 : List Nat := [0, 5]
set_option maxRecDepth 100000 in
theorem eJ7_fill_53178_0 (M : MM) (c : Nat) (x1 : Int32) : gJ7_fill_53178 0 [some (.inr (some c)), some (.inl x1), none, none] [] M = (if 10 ≤ zkd c ∧ zkd c ≤ 12 then gJ7_fill_53178 5 [some (.inr (some c)), some (.inl x1), some (.inl (0 : Int32)), some (.inl (Int32.ofNat (zln c)))] [] M else none) := by
  have h : ∀ k : KT, mgs (zlook tJ7_fill_53178) nJ7_fill_53178 k 5 0 [some (.inr (some c)), some (.inl x1), none, none] [] M = (if 10 ≤ zkd c ∧ zkd c ≤ 12 then k 5 [some (.inr (some c)), some (.inl x1), some (.inl (0 : Int32)), some (.inl (Int32.ofNat (zln c)))] [] M else none) := fun k => rfl
  have h := h gJ7_fill_53178
  rw [mgs_gJ7_fill_53178] at h
  exact h
set_option maxRecDepth 100000 in
theorem eJ7_fill_53178_5 (M : MM) (c : Nat) (x1 : Int32) (x2 : Int32) (x3 : Int32) : gJ7_fill_53178 5 [some (.inr (some c)), some (.inl x1), some (.inl x2), some (.inl x3)] [] M = (if x3 ≤ x2 then some (none, M) else (if zkd c = 10 then (if x2 < 0 ∨ zln c ≤ x2.toNatClampNeg then none else gJ7_fill_53178 5 [some (.inr (some c)), some (.inl x1), some (.inl (x2 + (1 : Int32))), some (.inl x3)] [] (st2 M c x2.toNatClampNeg x1)) else none)) := by
  have h : ∀ k : KT, mgs (zlook tJ7_fill_53178) nJ7_fill_53178 k 9 5 [some (.inr (some c)), some (.inl x1), some (.inl x2), some (.inl x3)] [] M = (if x3 ≤ x2 then some (none, M) else (if zkd c = 10 then (if x2 < 0 ∨ zln c ≤ x2.toNatClampNeg then none else k 5 [some (.inr (some c)), some (.inl x1), some (.inl (x2 + (1 : Int32))), some (.inl x3)] [] (st2 M c x2.toNatClampNeg x1)) else none)) := fun k => rfl
  have h := h gJ7_fill_53178
  rw [mgs_gJ7_fill_53178] at h
  exact h
theorem iJ7_fill_53178 (M : MM) (c : Nat) (x1 : Int32) : mJ7_fill_53178 [.inr (some c), .inl x1] M = gJ7_fill_53178 0 [some (.inr (some c)), some (.inl x1), none, none] [] M := rfl
noncomputable def gX7_clear : KT := mev (zlook tX7_clear)
theorem ctX7_clear : ∀ q ∈ tX7_clear, Cont q.2 := by
  refine ccons (cont_aload _ _) ?_
  refine ccons (cont_getR _ _ _) ?_
  refine ccons (cont_push _ _) ?_
  refine ccons (cont_callS _ _ _) ?_
  refine ccons (cont_aload _ _) ?_
  refine ccons (cont_getR _ _ _) ?_
  refine ccons (cont_push _ _) ?_
  refine ccons (cont_callS _ _ _) ?_
  refine ccons (cont_vret) ?_
  exact cnil
theorem mgs_gX7_clear (cut : List Nat) (n : Nat) : mgs (zlook tX7_clear) cut gX7_clear n = gX7_clear := mgs_mev (ctab ctX7_clear) cut n
def nX7_clear_a : List Nat := [0, 9, 17]
set_option maxRecDepth 100000 in
theorem eX7_clear_a_0 (M : MM) : gX7_clear 0 [some (.inr (some 10))] [] M = (mJ7_fill_53178 [.inr (some 11), .inl (1000000 : Int32)] M).bind (fun r => gX7_clear 9 [some (.inr (some 10))] (r.1.toList ++ []) r.2) := by
  have h : ∀ k : KT, mgs (zlook tX7_clear) nX7_clear_a k 4 0 [some (.inr (some 10))] [] M = (mJ7_fill_53178 [.inr (some 11), .inl (1000000 : Int32)] M).bind (fun r => k 9 [some (.inr (some 10))] (r.1.toList ++ []) r.2) := fun k => rfl
  have h := h gX7_clear
  rw [mgs_gX7_clear] at h
  exact h
set_option maxRecDepth 100000 in
theorem eX7_clear_a_9 (M : MM) : gX7_clear 9 [some (.inr (some 10))] [] M = (mJ7_fill_53178 [.inr (some 12), .inl (-1 : Int32)] M).bind (fun r => gX7_clear 17 [some (.inr (some 10))] (r.1.toList ++ []) r.2) := by
  have h : ∀ k : KT, mgs (zlook tX7_clear) nX7_clear_a k 4 9 [some (.inr (some 10))] [] M = (mJ7_fill_53178 [.inr (some 12), .inl (-1 : Int32)] M).bind (fun r => k 17 [some (.inr (some 10))] (r.1.toList ++ []) r.2) := fun k => rfl
  have h := h gX7_clear
  rw [mgs_gX7_clear] at h
  exact h
set_option maxRecDepth 100000 in
theorem eX7_clear_a_17 (M : MM) : gX7_clear 17 [some (.inr (some 10))] [] M = some (none, M) := by
  have h : ∀ k : KT, mgs (zlook tX7_clear) nX7_clear_a k 1 17 [some (.inr (some 10))] [] M = some (none, M) := fun k => rfl
  have h := h gX7_clear
  rw [mgs_gX7_clear] at h
  exact h
theorem iX7_clear_a (M : MM) : mX7_clear [.inr (some 10)] M = gX7_clear 0 [some (.inr (some 10))] [] M := rfl
def nX7_clear_b : List Nat := [0, 9, 17]
set_option maxRecDepth 100000 in
theorem eX7_clear_b_0 (M : MM) : gX7_clear 0 [some (.inr (some 15))] [] M = (mJ7_fill_53178 [.inr (some 16), .inl (1000000 : Int32)] M).bind (fun r => gX7_clear 9 [some (.inr (some 15))] (r.1.toList ++ []) r.2) := by
  have h : ∀ k : KT, mgs (zlook tX7_clear) nX7_clear_b k 4 0 [some (.inr (some 15))] [] M = (mJ7_fill_53178 [.inr (some 16), .inl (1000000 : Int32)] M).bind (fun r => k 9 [some (.inr (some 15))] (r.1.toList ++ []) r.2) := fun k => rfl
  have h := h gX7_clear
  rw [mgs_gX7_clear] at h
  exact h
set_option maxRecDepth 100000 in
theorem eX7_clear_b_9 (M : MM) : gX7_clear 9 [some (.inr (some 15))] [] M = (mJ7_fill_53178 [.inr (some 17), .inl (-1 : Int32)] M).bind (fun r => gX7_clear 17 [some (.inr (some 15))] (r.1.toList ++ []) r.2) := by
  have h : ∀ k : KT, mgs (zlook tX7_clear) nX7_clear_b k 4 9 [some (.inr (some 15))] [] M = (mJ7_fill_53178 [.inr (some 17), .inl (-1 : Int32)] M).bind (fun r => k 17 [some (.inr (some 15))] (r.1.toList ++ []) r.2) := fun k => rfl
  have h := h gX7_clear
  rw [mgs_gX7_clear] at h
  exact h
set_option maxRecDepth 100000 in
theorem eX7_clear_b_17 (M : MM) : gX7_clear 17 [some (.inr (some 15))] [] M = some (none, M) := by
  have h : ∀ k : KT, mgs (zlook tX7_clear) nX7_clear_b k 1 17 [some (.inr (some 15))] [] M = some (none, M) := fun k => rfl
  have h := h gX7_clear
  rw [mgs_gX7_clear] at h
  exact h
theorem iX7_clear_b (M : MM) : mX7_clear [.inr (some 15)] M = gX7_clear 0 [some (.inr (some 15))] [] M := rfl
noncomputable def gX0_clear : KT := mev (zlook tX0_clear)
theorem ctX0_clear : ∀ q ∈ tX0_clear, Cont q.2 := by
  refine ccons (cont_aload _ _) ?_
  refine ccons (cont_getR _ _ _) ?_
  refine ccons (cont_callV _ _ _ _) ?_
  refine ccons (cont_aload _ _) ?_
  refine ccons (cont_iload _ _) ?_
  refine ccons (cont_put _ _ _) ?_
  refine ccons (cont_aload _ _) ?_
  refine ccons (cont_iload _ _) ?_
  refine ccons (cont_putZ _ _ _) ?_
  refine ccons (cont_vret) ?_
  exact cnil
theorem mgs_gX0_clear (cut : List Nat) (n : Nat) : mgs (zlook tX0_clear) cut gX0_clear n = gX0_clear := mgs_mev (ctab ctX0_clear) cut n
def nX0_clear : List Nat := [0, 7]
set_option maxRecDepth 100000 in
theorem eX0_clear_0 (M : MM) (x1 : Int32) (x2 : Int32) : gX0_clear 0 [some (.inr (some 13)), some (.inl x1), some (.inl x2)] [] M = (mX7_clear [.inr (some 15)] M).bind (fun r => gX0_clear 7 [some (.inr (some 13)), some (.inl x1), some (.inl x2)] (r.1.toList ++ []) r.2) := by
  have h : ∀ k : KT, mgs (zlook tX0_clear) nX0_clear k 3 0 [some (.inr (some 13)), some (.inl x1), some (.inl x2)] [] M = (mX7_clear [.inr (some 15)] M).bind (fun r => k 7 [some (.inr (some 13)), some (.inl x1), some (.inl x2)] (r.1.toList ++ []) r.2) := fun k => rfl
  have h := h gX0_clear
  rw [mgs_gX0_clear] at h
  exact h
set_option maxRecDepth 100000 in
theorem eX0_clear_7 (M : MM) (x1 : Int32) (x2 : Int32) : gX0_clear 7 [some (.inr (some 13)), some (.inl x1), some (.inl x2)] [] M = (if x2 = 0 ∨ x2 = 1 then some (none, (st2 (st2 M 13 1 x1) 13 2 x2)) else none) := by
  have h : ∀ k : KT, mgs (zlook tX0_clear) nX0_clear k 7 7 [some (.inr (some 13)), some (.inl x1), some (.inl x2)] [] M = (if x2 = 0 ∨ x2 = 1 then some (none, (st2 (st2 M 13 1 x1) 13 2 x2)) else none) := fun k => rfl
  have h := h gX0_clear
  rw [mgs_gX0_clear] at h
  exact h
theorem iX0_clear (M : MM) (x1 : Int32) (x2 : Int32) : mX0_clear [.inr (some 13), .inl x1, .inl x2] M = gX0_clear 0 [some (.inr (some 13)), some (.inl x1), some (.inl x2)] [] M := rfl
noncomputable def gX7_offer : KT := mev (zlook tX7_offer)
theorem ctX7_offer : ∀ q ∈ tX7_offer, Cont q.2 := by
  refine ccons (cont_push _ _) ?_
  refine ccons (cont_iload _ _) ?_
  refine ccons (cont_bin _ _) ?_
  refine ccons (cont_istore _ _) ?_
  refine ccons (cont_iload _ _) ?_
  refine ccons (cont_push _ _) ?_
  refine ccons (cont_bin _ _) ?_
  refine ccons (cont_istore _ _) ?_
  refine ccons (cont_iload _ _) ?_
  refine ccons (cont_if_lt _ _) ?_
  refine ccons (cont_iload _ _) ?_
  refine ccons (cont_aload _ _) ?_
  refine ccons (cont_getR _ _ _) ?_
  refine ccons (cont_len _) ?_
  refine ccons (cont_c_ge _ _) ?_
  refine ccons (cont_iload _ _) ?_
  refine ccons (cont_aload _ _) ?_
  refine ccons (cont_getR _ _ _) ?_
  refine ccons (cont_len _) ?_
  refine ccons (cont_c_lt _ _) ?_
  refine ccons (cont_vret) ?_
  refine ccons (cont_iload _ _) ?_
  refine ccons (cont_aload _ _) ?_
  refine ccons (cont_getR _ _ _) ?_
  refine ccons (cont_iload _ _) ?_
  refine ccons (cont_ald _ _) ?_
  refine ccons (cont_c_ne _ _) ?_
  refine ccons (cont_aload _ _) ?_
  refine ccons (cont_getR _ _ _) ?_
  refine ccons (cont_iload _ _) ?_
  refine ccons (cont_iload _ _) ?_
  refine ccons (cont_aload _ _) ?_
  refine ccons (cont_getR _ _ _) ?_
  refine ccons (cont_iload _ _) ?_
  refine ccons (cont_ald _ _) ?_
  refine ccons (cont_min _) ?_
  refine ccons (cont_ast _) ?_
  refine ccons (cont_goto _) ?_
  refine ccons (cont_iload _ _) ?_
  refine ccons (cont_aload _ _) ?_
  refine ccons (cont_getR _ _ _) ?_
  refine ccons (cont_iload _ _) ?_
  refine ccons (cont_ald _ _) ?_
  refine ccons (cont_c_lt _ _) ?_
  refine ccons (cont_iload _ _) ?_
  refine ccons (cont_aload _ _) ?_
  refine ccons (cont_getR _ _ _) ?_
  refine ccons (cont_iload _ _) ?_
  refine ccons (cont_ald _ _) ?_
  refine ccons (cont_c_ne _ _) ?_
  refine ccons (cont_iload _ _) ?_
  refine ccons (cont_aload _ _) ?_
  refine ccons (cont_getR _ _ _) ?_
  refine ccons (cont_iload _ _) ?_
  refine ccons (cont_ald _ _) ?_
  refine ccons (cont_c_ge _ _) ?_
  refine ccons (cont_aload _ _) ?_
  refine ccons (cont_getR _ _ _) ?_
  refine ccons (cont_iload _ _) ?_
  refine ccons (cont_aload _ _) ?_
  refine ccons (cont_getR _ _ _) ?_
  refine ccons (cont_iload _ _) ?_
  refine ccons (cont_ald _ _) ?_
  refine ccons (cont_ast _) ?_
  refine ccons (cont_aload _ _) ?_
  refine ccons (cont_getR _ _ _) ?_
  refine ccons (cont_iload _ _) ?_
  refine ccons (cont_aload _ _) ?_
  refine ccons (cont_getR _ _ _) ?_
  refine ccons (cont_iload _ _) ?_
  refine ccons (cont_ald _ _) ?_
  refine ccons (cont_ast _) ?_
  refine ccons (cont_aload _ _) ?_
  refine ccons (cont_getR _ _ _) ?_
  refine ccons (cont_iload _ _) ?_
  refine ccons (cont_iload _ _) ?_
  refine ccons (cont_ast _) ?_
  refine ccons (cont_aload _ _) ?_
  refine ccons (cont_getR _ _ _) ?_
  refine ccons (cont_iload _ _) ?_
  refine ccons (cont_iload _ _) ?_
  refine ccons (cont_ast _) ?_
  refine ccons (cont_goto _) ?_
  refine ccons (cont_iload _ _) ?_
  refine ccons (cont_aload _ _) ?_
  refine ccons (cont_getR _ _ _) ?_
  refine ccons (cont_iload _ _) ?_
  refine ccons (cont_ald _ _) ?_
  refine ccons (cont_c_lt _ _) ?_
  refine ccons (cont_iload _ _) ?_
  refine ccons (cont_aload _ _) ?_
  refine ccons (cont_getR _ _ _) ?_
  refine ccons (cont_iload _ _) ?_
  refine ccons (cont_ald _ _) ?_
  refine ccons (cont_c_ne _ _) ?_
  refine ccons (cont_iload _ _) ?_
  refine ccons (cont_aload _ _) ?_
  refine ccons (cont_getR _ _ _) ?_
  refine ccons (cont_iload _ _) ?_
  refine ccons (cont_ald _ _) ?_
  refine ccons (cont_c_ge _ _) ?_
  refine ccons (cont_aload _ _) ?_
  refine ccons (cont_getR _ _ _) ?_
  refine ccons (cont_iload _ _) ?_
  refine ccons (cont_iload _ _) ?_
  refine ccons (cont_ast _) ?_
  refine ccons (cont_aload _ _) ?_
  refine ccons (cont_getR _ _ _) ?_
  refine ccons (cont_iload _ _) ?_
  refine ccons (cont_iload _ _) ?_
  refine ccons (cont_ast _) ?_
  refine ccons (cont_vret) ?_
  exact cnil
theorem mgs_gX7_offer (cut : List Nat) (n : Nat) : mgs (zlook tX7_offer) cut gX7_offer n = gX7_offer := mgs_mev (ctab ctX7_offer) cut n
def nX7_offer_a : List Nat := [0, 102, 149, 182]
set_option maxRecDepth 100000 in
theorem eX7_offer_a_0 (M : MM) (x1 : Int32) (x2 : Int32) (x3 : Int32) : gX7_offer 0 [some (.inr (some 10)), some (.inl x1), some (.inl x2), some (.inl x3), none, none] [] M = (if ((2 : Int32) * x1) < 0 then some (none, M) else (if (2 : Int32) ≤ (((2 : Int32) * x1) + (1 : Int32)) then some (none, M) else (if (((2 : Int32) * x1) + (1 : Int32)) < (2 : Int32) then (if ((2 : Int32) * x1) < 0 ∨ 2 ≤ ((2 : Int32) * x1).toNatClampNeg then none else (if x3 = (M 12 ((2 : Int32) * x1).toNatClampNeg) then (if ((2 : Int32) * x1) < 0 ∨ 2 ≤ ((2 : Int32) * x1).toNatClampNeg then none else (if ((2 : Int32) * x1) < 0 ∨ 2 ≤ ((2 : Int32) * x1).toNatClampNeg then none else some (none, (st2 M 11 ((2 : Int32) * x1).toNatClampNeg (if (M 11 ((2 : Int32) * x1).toNatClampNeg) < x2 then (M 11 ((2 : Int32) * x1).toNatClampNeg) else x2))))) else (if ((2 : Int32) * x1) < 0 ∨ 2 ≤ ((2 : Int32) * x1).toNatClampNeg then none else (if x2 < (M 11 ((2 : Int32) * x1).toNatClampNeg) then gX7_offer 102 [some (.inr (some 10)), some (.inl x1), some (.inl x2), some (.inl x3), some (.inl ((2 : Int32) * x1)), some (.inl (((2 : Int32) * x1) + (1 : Int32)))] [] M else (if ((2 : Int32) * x1) < 0 ∨ 2 ≤ ((2 : Int32) * x1).toNatClampNeg then none else (if x2 = (M 11 ((2 : Int32) * x1).toNatClampNeg) then (if ((2 : Int32) * x1) < 0 ∨ 2 ≤ ((2 : Int32) * x1).toNatClampNeg then none else (if (M 12 ((2 : Int32) * x1).toNatClampNeg) ≤ x3 then gX7_offer 149 [some (.inr (some 10)), some (.inl x1), some (.inl x2), some (.inl x3), some (.inl ((2 : Int32) * x1)), some (.inl (((2 : Int32) * x1) + (1 : Int32)))] [] M else gX7_offer 102 [some (.inr (some 10)), some (.inl x1), some (.inl x2), some (.inl x3), some (.inl ((2 : Int32) * x1)), some (.inl (((2 : Int32) * x1) + (1 : Int32)))] [] M)) else gX7_offer 149 [some (.inr (some 10)), some (.inl x1), some (.inl x2), some (.inl x3), some (.inl ((2 : Int32) * x1)), some (.inl (((2 : Int32) * x1) + (1 : Int32)))] [] M)))))) else some (none, M)))) := by
  have h : ∀ k : KT, mgs (zlook tX7_offer) nX7_offer_a k 44 0 [some (.inr (some 10)), some (.inl x1), some (.inl x2), some (.inl x3), none, none] [] M = (if ((2 : Int32) * x1) < 0 then some (none, M) else (if (2 : Int32) ≤ (((2 : Int32) * x1) + (1 : Int32)) then some (none, M) else (if (((2 : Int32) * x1) + (1 : Int32)) < (2 : Int32) then (if ((2 : Int32) * x1) < 0 ∨ 2 ≤ ((2 : Int32) * x1).toNatClampNeg then none else (if x3 = (M 12 ((2 : Int32) * x1).toNatClampNeg) then (if ((2 : Int32) * x1) < 0 ∨ 2 ≤ ((2 : Int32) * x1).toNatClampNeg then none else (if ((2 : Int32) * x1) < 0 ∨ 2 ≤ ((2 : Int32) * x1).toNatClampNeg then none else some (none, (st2 M 11 ((2 : Int32) * x1).toNatClampNeg (if (M 11 ((2 : Int32) * x1).toNatClampNeg) < x2 then (M 11 ((2 : Int32) * x1).toNatClampNeg) else x2))))) else (if ((2 : Int32) * x1) < 0 ∨ 2 ≤ ((2 : Int32) * x1).toNatClampNeg then none else (if x2 < (M 11 ((2 : Int32) * x1).toNatClampNeg) then k 102 [some (.inr (some 10)), some (.inl x1), some (.inl x2), some (.inl x3), some (.inl ((2 : Int32) * x1)), some (.inl (((2 : Int32) * x1) + (1 : Int32)))] [] M else (if ((2 : Int32) * x1) < 0 ∨ 2 ≤ ((2 : Int32) * x1).toNatClampNeg then none else (if x2 = (M 11 ((2 : Int32) * x1).toNatClampNeg) then (if ((2 : Int32) * x1) < 0 ∨ 2 ≤ ((2 : Int32) * x1).toNatClampNeg then none else (if (M 12 ((2 : Int32) * x1).toNatClampNeg) ≤ x3 then k 149 [some (.inr (some 10)), some (.inl x1), some (.inl x2), some (.inl x3), some (.inl ((2 : Int32) * x1)), some (.inl (((2 : Int32) * x1) + (1 : Int32)))] [] M else k 102 [some (.inr (some 10)), some (.inl x1), some (.inl x2), some (.inl x3), some (.inl ((2 : Int32) * x1)), some (.inl (((2 : Int32) * x1) + (1 : Int32)))] [] M)) else k 149 [some (.inr (some 10)), some (.inl x1), some (.inl x2), some (.inl x3), some (.inl ((2 : Int32) * x1)), some (.inl (((2 : Int32) * x1) + (1 : Int32)))] [] M)))))) else some (none, M)))) := fun k => rfl
  have h := h gX7_offer
  rw [mgs_gX7_offer] at h
  exact h
set_option maxRecDepth 100000 in
theorem eX7_offer_a_102 (M : MM) (x1 : Int32) (x2 : Int32) (x3 : Int32) (x4 : Int32) (x5 : Int32) : gX7_offer 102 [some (.inr (some 10)), some (.inl x1), some (.inl x2), some (.inl x3), some (.inl x4), some (.inl x5)] [] M = (if x4 < 0 ∨ 2 ≤ x4.toNatClampNeg then none else (if x5 < 0 ∨ 2 ≤ x5.toNatClampNeg then none else (if x4 < 0 ∨ 2 ≤ x4.toNatClampNeg then none else (if x5 < 0 ∨ 2 ≤ x5.toNatClampNeg then none else (if x4 < 0 ∨ 2 ≤ x4.toNatClampNeg then none else (if x4 < 0 ∨ 2 ≤ x4.toNatClampNeg then none else some (none, (st2 (st2 (st2 (st2 M 11 x5.toNatClampNeg (M 11 x4.toNatClampNeg)) 12 x5.toNatClampNeg ((st2 M 11 x5.toNatClampNeg (M 11 x4.toNatClampNeg)) 12 x4.toNatClampNeg)) 11 x4.toNatClampNeg x2) 12 x4.toNatClampNeg x3)))))))) := by
  have h : ∀ k : KT, mgs (zlook tX7_offer) nX7_offer_a k 28 102 [some (.inr (some 10)), some (.inl x1), some (.inl x2), some (.inl x3), some (.inl x4), some (.inl x5)] [] M = (if x4 < 0 ∨ 2 ≤ x4.toNatClampNeg then none else (if x5 < 0 ∨ 2 ≤ x5.toNatClampNeg then none else (if x4 < 0 ∨ 2 ≤ x4.toNatClampNeg then none else (if x5 < 0 ∨ 2 ≤ x5.toNatClampNeg then none else (if x4 < 0 ∨ 2 ≤ x4.toNatClampNeg then none else (if x4 < 0 ∨ 2 ≤ x4.toNatClampNeg then none else some (none, (st2 (st2 (st2 (st2 M 11 x5.toNatClampNeg (M 11 x4.toNatClampNeg)) 12 x5.toNatClampNeg ((st2 M 11 x5.toNatClampNeg (M 11 x4.toNatClampNeg)) 12 x4.toNatClampNeg)) 11 x4.toNatClampNeg x2) 12 x4.toNatClampNeg x3)))))))) := fun k => rfl
  have h := h gX7_offer
  rw [mgs_gX7_offer] at h
  exact h
set_option maxRecDepth 100000 in
theorem eX7_offer_a_149 (M : MM) (x1 : Int32) (x2 : Int32) (x3 : Int32) (x4 : Int32) (x5 : Int32) : gX7_offer 149 [some (.inr (some 10)), some (.inl x1), some (.inl x2), some (.inl x3), some (.inl x4), some (.inl x5)] [] M = (if x5 < 0 ∨ 2 ≤ x5.toNatClampNeg then none else (if x2 < (M 11 x5.toNatClampNeg) then gX7_offer 182 [some (.inr (some 10)), some (.inl x1), some (.inl x2), some (.inl x3), some (.inl x4), some (.inl x5)] [] M else (if x5 < 0 ∨ 2 ≤ x5.toNatClampNeg then none else (if x2 = (M 11 x5.toNatClampNeg) then (if x5 < 0 ∨ 2 ≤ x5.toNatClampNeg then none else (if (M 12 x5.toNatClampNeg) ≤ x3 then some (none, M) else gX7_offer 182 [some (.inr (some 10)), some (.inl x1), some (.inl x2), some (.inl x3), some (.inl x4), some (.inl x5)] [] M)) else some (none, M))))) := by
  have h : ∀ k : KT, mgs (zlook tX7_offer) nX7_offer_a k 19 149 [some (.inr (some 10)), some (.inl x1), some (.inl x2), some (.inl x3), some (.inl x4), some (.inl x5)] [] M = (if x5 < 0 ∨ 2 ≤ x5.toNatClampNeg then none else (if x2 < (M 11 x5.toNatClampNeg) then k 182 [some (.inr (some 10)), some (.inl x1), some (.inl x2), some (.inl x3), some (.inl x4), some (.inl x5)] [] M else (if x5 < 0 ∨ 2 ≤ x5.toNatClampNeg then none else (if x2 = (M 11 x5.toNatClampNeg) then (if x5 < 0 ∨ 2 ≤ x5.toNatClampNeg then none else (if (M 12 x5.toNatClampNeg) ≤ x3 then some (none, M) else k 182 [some (.inr (some 10)), some (.inl x1), some (.inl x2), some (.inl x3), some (.inl x4), some (.inl x5)] [] M)) else some (none, M))))) := fun k => rfl
  have h := h gX7_offer
  rw [mgs_gX7_offer] at h
  exact h
set_option maxRecDepth 100000 in
theorem eX7_offer_a_182 (M : MM) (x1 : Int32) (x2 : Int32) (x3 : Int32) (x4 : Int32) (x5 : Int32) : gX7_offer 182 [some (.inr (some 10)), some (.inl x1), some (.inl x2), some (.inl x3), some (.inl x4), some (.inl x5)] [] M = (if x5 < 0 ∨ 2 ≤ x5.toNatClampNeg then none else (if x5 < 0 ∨ 2 ≤ x5.toNatClampNeg then none else some (none, (st2 (st2 M 11 x5.toNatClampNeg x2) 12 x5.toNatClampNeg x3)))) := by
  have h : ∀ k : KT, mgs (zlook tX7_offer) nX7_offer_a k 11 182 [some (.inr (some 10)), some (.inl x1), some (.inl x2), some (.inl x3), some (.inl x4), some (.inl x5)] [] M = (if x5 < 0 ∨ 2 ≤ x5.toNatClampNeg then none else (if x5 < 0 ∨ 2 ≤ x5.toNatClampNeg then none else some (none, (st2 (st2 M 11 x5.toNatClampNeg x2) 12 x5.toNatClampNeg x3)))) := fun k => rfl
  have h := h gX7_offer
  rw [mgs_gX7_offer] at h
  exact h
theorem iX7_offer_a (M : MM) (x1 : Int32) (x2 : Int32) (x3 : Int32) : mX7_offer [.inr (some 10), .inl x1, .inl x2, .inl x3] M = gX7_offer 0 [some (.inr (some 10)), some (.inl x1), some (.inl x2), some (.inl x3), none, none] [] M := rfl
def nX7_offer_b : List Nat := [0, 102, 149, 182]
set_option maxRecDepth 100000 in
theorem eX7_offer_b_0 (M : MM) (x1 : Int32) (x2 : Int32) (x3 : Int32) : gX7_offer 0 [some (.inr (some 15)), some (.inl x1), some (.inl x2), some (.inl x3), none, none] [] M = (if ((2 : Int32) * x1) < 0 then some (none, M) else (if (360 : Int32) ≤ (((2 : Int32) * x1) + (1 : Int32)) then some (none, M) else (if (((2 : Int32) * x1) + (1 : Int32)) < (360 : Int32) then (if ((2 : Int32) * x1) < 0 ∨ 360 ≤ ((2 : Int32) * x1).toNatClampNeg then none else (if x3 = (M 17 ((2 : Int32) * x1).toNatClampNeg) then (if ((2 : Int32) * x1) < 0 ∨ 360 ≤ ((2 : Int32) * x1).toNatClampNeg then none else (if ((2 : Int32) * x1) < 0 ∨ 360 ≤ ((2 : Int32) * x1).toNatClampNeg then none else some (none, (st2 M 16 ((2 : Int32) * x1).toNatClampNeg (if (M 16 ((2 : Int32) * x1).toNatClampNeg) < x2 then (M 16 ((2 : Int32) * x1).toNatClampNeg) else x2))))) else (if ((2 : Int32) * x1) < 0 ∨ 360 ≤ ((2 : Int32) * x1).toNatClampNeg then none else (if x2 < (M 16 ((2 : Int32) * x1).toNatClampNeg) then gX7_offer 102 [some (.inr (some 15)), some (.inl x1), some (.inl x2), some (.inl x3), some (.inl ((2 : Int32) * x1)), some (.inl (((2 : Int32) * x1) + (1 : Int32)))] [] M else (if ((2 : Int32) * x1) < 0 ∨ 360 ≤ ((2 : Int32) * x1).toNatClampNeg then none else (if x2 = (M 16 ((2 : Int32) * x1).toNatClampNeg) then (if ((2 : Int32) * x1) < 0 ∨ 360 ≤ ((2 : Int32) * x1).toNatClampNeg then none else (if (M 17 ((2 : Int32) * x1).toNatClampNeg) ≤ x3 then gX7_offer 149 [some (.inr (some 15)), some (.inl x1), some (.inl x2), some (.inl x3), some (.inl ((2 : Int32) * x1)), some (.inl (((2 : Int32) * x1) + (1 : Int32)))] [] M else gX7_offer 102 [some (.inr (some 15)), some (.inl x1), some (.inl x2), some (.inl x3), some (.inl ((2 : Int32) * x1)), some (.inl (((2 : Int32) * x1) + (1 : Int32)))] [] M)) else gX7_offer 149 [some (.inr (some 15)), some (.inl x1), some (.inl x2), some (.inl x3), some (.inl ((2 : Int32) * x1)), some (.inl (((2 : Int32) * x1) + (1 : Int32)))] [] M)))))) else some (none, M)))) := by
  have h : ∀ k : KT, mgs (zlook tX7_offer) nX7_offer_b k 44 0 [some (.inr (some 15)), some (.inl x1), some (.inl x2), some (.inl x3), none, none] [] M = (if ((2 : Int32) * x1) < 0 then some (none, M) else (if (360 : Int32) ≤ (((2 : Int32) * x1) + (1 : Int32)) then some (none, M) else (if (((2 : Int32) * x1) + (1 : Int32)) < (360 : Int32) then (if ((2 : Int32) * x1) < 0 ∨ 360 ≤ ((2 : Int32) * x1).toNatClampNeg then none else (if x3 = (M 17 ((2 : Int32) * x1).toNatClampNeg) then (if ((2 : Int32) * x1) < 0 ∨ 360 ≤ ((2 : Int32) * x1).toNatClampNeg then none else (if ((2 : Int32) * x1) < 0 ∨ 360 ≤ ((2 : Int32) * x1).toNatClampNeg then none else some (none, (st2 M 16 ((2 : Int32) * x1).toNatClampNeg (if (M 16 ((2 : Int32) * x1).toNatClampNeg) < x2 then (M 16 ((2 : Int32) * x1).toNatClampNeg) else x2))))) else (if ((2 : Int32) * x1) < 0 ∨ 360 ≤ ((2 : Int32) * x1).toNatClampNeg then none else (if x2 < (M 16 ((2 : Int32) * x1).toNatClampNeg) then k 102 [some (.inr (some 15)), some (.inl x1), some (.inl x2), some (.inl x3), some (.inl ((2 : Int32) * x1)), some (.inl (((2 : Int32) * x1) + (1 : Int32)))] [] M else (if ((2 : Int32) * x1) < 0 ∨ 360 ≤ ((2 : Int32) * x1).toNatClampNeg then none else (if x2 = (M 16 ((2 : Int32) * x1).toNatClampNeg) then (if ((2 : Int32) * x1) < 0 ∨ 360 ≤ ((2 : Int32) * x1).toNatClampNeg then none else (if (M 17 ((2 : Int32) * x1).toNatClampNeg) ≤ x3 then k 149 [some (.inr (some 15)), some (.inl x1), some (.inl x2), some (.inl x3), some (.inl ((2 : Int32) * x1)), some (.inl (((2 : Int32) * x1) + (1 : Int32)))] [] M else k 102 [some (.inr (some 15)), some (.inl x1), some (.inl x2), some (.inl x3), some (.inl ((2 : Int32) * x1)), some (.inl (((2 : Int32) * x1) + (1 : Int32)))] [] M)) else k 149 [some (.inr (some 15)), some (.inl x1), some (.inl x2), some (.inl x3), some (.inl ((2 : Int32) * x1)), some (.inl (((2 : Int32) * x1) + (1 : Int32)))] [] M)))))) else some (none, M)))) := fun k => rfl
  have h := h gX7_offer
  rw [mgs_gX7_offer] at h
  exact h
set_option maxRecDepth 100000 in
theorem eX7_offer_b_102 (M : MM) (x1 : Int32) (x2 : Int32) (x3 : Int32) (x4 : Int32) (x5 : Int32) : gX7_offer 102 [some (.inr (some 15)), some (.inl x1), some (.inl x2), some (.inl x3), some (.inl x4), some (.inl x5)] [] M = (if x4 < 0 ∨ 360 ≤ x4.toNatClampNeg then none else (if x5 < 0 ∨ 360 ≤ x5.toNatClampNeg then none else (if x4 < 0 ∨ 360 ≤ x4.toNatClampNeg then none else (if x5 < 0 ∨ 360 ≤ x5.toNatClampNeg then none else (if x4 < 0 ∨ 360 ≤ x4.toNatClampNeg then none else (if x4 < 0 ∨ 360 ≤ x4.toNatClampNeg then none else some (none, (st2 (st2 (st2 (st2 M 16 x5.toNatClampNeg (M 16 x4.toNatClampNeg)) 17 x5.toNatClampNeg ((st2 M 16 x5.toNatClampNeg (M 16 x4.toNatClampNeg)) 17 x4.toNatClampNeg)) 16 x4.toNatClampNeg x2) 17 x4.toNatClampNeg x3)))))))) := by
  have h : ∀ k : KT, mgs (zlook tX7_offer) nX7_offer_b k 28 102 [some (.inr (some 15)), some (.inl x1), some (.inl x2), some (.inl x3), some (.inl x4), some (.inl x5)] [] M = (if x4 < 0 ∨ 360 ≤ x4.toNatClampNeg then none else (if x5 < 0 ∨ 360 ≤ x5.toNatClampNeg then none else (if x4 < 0 ∨ 360 ≤ x4.toNatClampNeg then none else (if x5 < 0 ∨ 360 ≤ x5.toNatClampNeg then none else (if x4 < 0 ∨ 360 ≤ x4.toNatClampNeg then none else (if x4 < 0 ∨ 360 ≤ x4.toNatClampNeg then none else some (none, (st2 (st2 (st2 (st2 M 16 x5.toNatClampNeg (M 16 x4.toNatClampNeg)) 17 x5.toNatClampNeg ((st2 M 16 x5.toNatClampNeg (M 16 x4.toNatClampNeg)) 17 x4.toNatClampNeg)) 16 x4.toNatClampNeg x2) 17 x4.toNatClampNeg x3)))))))) := fun k => rfl
  have h := h gX7_offer
  rw [mgs_gX7_offer] at h
  exact h
set_option maxRecDepth 100000 in
theorem eX7_offer_b_149 (M : MM) (x1 : Int32) (x2 : Int32) (x3 : Int32) (x4 : Int32) (x5 : Int32) : gX7_offer 149 [some (.inr (some 15)), some (.inl x1), some (.inl x2), some (.inl x3), some (.inl x4), some (.inl x5)] [] M = (if x5 < 0 ∨ 360 ≤ x5.toNatClampNeg then none else (if x2 < (M 16 x5.toNatClampNeg) then gX7_offer 182 [some (.inr (some 15)), some (.inl x1), some (.inl x2), some (.inl x3), some (.inl x4), some (.inl x5)] [] M else (if x5 < 0 ∨ 360 ≤ x5.toNatClampNeg then none else (if x2 = (M 16 x5.toNatClampNeg) then (if x5 < 0 ∨ 360 ≤ x5.toNatClampNeg then none else (if (M 17 x5.toNatClampNeg) ≤ x3 then some (none, M) else gX7_offer 182 [some (.inr (some 15)), some (.inl x1), some (.inl x2), some (.inl x3), some (.inl x4), some (.inl x5)] [] M)) else some (none, M))))) := by
  have h : ∀ k : KT, mgs (zlook tX7_offer) nX7_offer_b k 19 149 [some (.inr (some 15)), some (.inl x1), some (.inl x2), some (.inl x3), some (.inl x4), some (.inl x5)] [] M = (if x5 < 0 ∨ 360 ≤ x5.toNatClampNeg then none else (if x2 < (M 16 x5.toNatClampNeg) then k 182 [some (.inr (some 15)), some (.inl x1), some (.inl x2), some (.inl x3), some (.inl x4), some (.inl x5)] [] M else (if x5 < 0 ∨ 360 ≤ x5.toNatClampNeg then none else (if x2 = (M 16 x5.toNatClampNeg) then (if x5 < 0 ∨ 360 ≤ x5.toNatClampNeg then none else (if (M 17 x5.toNatClampNeg) ≤ x3 then some (none, M) else k 182 [some (.inr (some 15)), some (.inl x1), some (.inl x2), some (.inl x3), some (.inl x4), some (.inl x5)] [] M)) else some (none, M))))) := fun k => rfl
  have h := h gX7_offer
  rw [mgs_gX7_offer] at h
  exact h
set_option maxRecDepth 100000 in
theorem eX7_offer_b_182 (M : MM) (x1 : Int32) (x2 : Int32) (x3 : Int32) (x4 : Int32) (x5 : Int32) : gX7_offer 182 [some (.inr (some 15)), some (.inl x1), some (.inl x2), some (.inl x3), some (.inl x4), some (.inl x5)] [] M = (if x5 < 0 ∨ 360 ≤ x5.toNatClampNeg then none else (if x5 < 0 ∨ 360 ≤ x5.toNatClampNeg then none else some (none, (st2 (st2 M 16 x5.toNatClampNeg x2) 17 x5.toNatClampNeg x3)))) := by
  have h : ∀ k : KT, mgs (zlook tX7_offer) nX7_offer_b k 11 182 [some (.inr (some 15)), some (.inl x1), some (.inl x2), some (.inl x3), some (.inl x4), some (.inl x5)] [] M = (if x5 < 0 ∨ 360 ≤ x5.toNatClampNeg then none else (if x5 < 0 ∨ 360 ≤ x5.toNatClampNeg then none else some (none, (st2 (st2 M 16 x5.toNatClampNeg x2) 17 x5.toNatClampNeg x3)))) := fun k => rfl
  have h := h gX7_offer
  rw [mgs_gX7_offer] at h
  exact h
theorem iX7_offer_b (M : MM) (x1 : Int32) (x2 : Int32) (x3 : Int32) : mX7_offer [.inr (some 15), .inl x1, .inl x2, .inl x3] M = gX7_offer 0 [some (.inr (some 15)), some (.inl x1), some (.inl x2), some (.inl x3), none, none] [] M := rfl
noncomputable def gX0_begin : KT := mev (zlook tX0_begin)
theorem ctX0_begin : ∀ q ∈ tX0_begin, Cont q.2 := by
  refine ccons (cont_aload _ _) ?_
  refine ccons (cont_getR _ _ _) ?_
  refine ccons (cont_push _ _) ?_
  refine ccons (cont_iload _ _) ?_
  refine ccons (cont_push _ _) ?_
  refine ccons (cont_callV _ _ _ _) ?_
  refine ccons (cont_vret) ?_
  exact cnil
theorem mgs_gX0_begin (cut : List Nat) (n : Nat) : mgs (zlook tX0_begin) cut gX0_begin n = gX0_begin := mgs_mev (ctab ctX0_begin) cut n
def nX0_begin : List Nat := [0, 10]
set_option maxRecDepth 100000 in
theorem eX0_begin_0 (M : MM) (x1 : Int32) : gX0_begin 0 [some (.inr (some 13)), some (.inl x1)] [] M = (mX7_offer [.inr (some 15), .inl (0 : Int32), .inl x1, .inl (0 : Int32)] M).bind (fun r => gX0_begin 10 [some (.inr (some 13)), some (.inl x1)] (r.1.toList ++ []) r.2) := by
  have h : ∀ k : KT, mgs (zlook tX0_begin) nX0_begin k 6 0 [some (.inr (some 13)), some (.inl x1)] [] M = (mX7_offer [.inr (some 15), .inl (0 : Int32), .inl x1, .inl (0 : Int32)] M).bind (fun r => k 10 [some (.inr (some 13)), some (.inl x1)] (r.1.toList ++ []) r.2) := fun k => rfl
  have h := h gX0_begin
  rw [mgs_gX0_begin] at h
  exact h
set_option maxRecDepth 100000 in
theorem eX0_begin_10 (M : MM) (x1 : Int32) : gX0_begin 10 [some (.inr (some 13)), some (.inl x1)] [] M = some (none, M) := by
  have h : ∀ k : KT, mgs (zlook tX0_begin) nX0_begin k 1 10 [some (.inr (some 13)), some (.inl x1)] [] M = some (none, M) := fun k => rfl
  have h := h gX0_begin
  rw [mgs_gX0_begin] at h
  exact h
theorem iX0_begin (M : MM) (x1 : Int32) : mX0_begin [.inr (some 13), .inl x1] M = gX0_begin 0 [some (.inr (some 13)), some (.inl x1)] [] M := rfl
noncomputable def gX2_wordsIn : KT := mev (zlook tX2_wordsIn)
theorem ctX2_wordsIn : ∀ q ∈ tX2_wordsIn, Cont q.2 := by
  refine ccons (cont_iload _ _) ?_
  refine ccons (cont_if_lt _ _) ?_
  refine ccons (cont_iload _ _) ?_
  refine ccons (cont_aload _ _) ?_
  refine ccons (cont_getI _ _ _) ?_
  refine ccons (cont_c_ge _ _) ?_
  refine ccons (cont_iload _ _) ?_
  refine ccons (cont_aload _ _) ?_
  refine ccons (cont_getR _ _ _) ?_
  refine ccons (cont_len _) ?_
  refine ccons (cont_c_ge _ _) ?_
  refine ccons (cont_aload _ _) ?_
  refine ccons (cont_getR _ _ _) ?_
  refine ccons (cont_iload _ _) ?_
  refine ccons (cont_ald _ _) ?_
  refine ccons (cont_goto _) ?_
  refine ccons (cont_push _ _) ?_
  refine ccons (cont_iret) ?_
  exact cnil
theorem mgs_gX2_wordsIn (cut : List Nat) (n : Nat) : mgs (zlook tX2_wordsIn) cut gX2_wordsIn n = gX2_wordsIn := mgs_mev (ctab ctX2_wordsIn) cut n
def nX2_wordsIn : List Nat := [0]
set_option maxRecDepth 100000 in
theorem eX2_wordsIn_0 (M : MM) (x1 : Int32) : gX2_wordsIn 0 [some (.inr (some 2)), some (.inl x1)] [] M = (if x1 < 0 then some ((some (.inl (0 : Int32))), M) else (if (M 2 3) ≤ x1 then some ((some (.inl (0 : Int32))), M) else (if (8 : Int32) ≤ x1 then some ((some (.inl (0 : Int32))), M) else (if x1 < 0 ∨ 8 ≤ x1.toNatClampNeg then none else some ((some (.inl (M 9 x1.toNatClampNeg))), M))))) := by
  have h : ∀ k : KT, mgs (zlook tX2_wordsIn) nX2_wordsIn k 17 0 [some (.inr (some 2)), some (.inl x1)] [] M = (if x1 < 0 then some ((some (.inl (0 : Int32))), M) else (if (M 2 3) ≤ x1 then some ((some (.inl (0 : Int32))), M) else (if (8 : Int32) ≤ x1 then some ((some (.inl (0 : Int32))), M) else (if x1 < 0 ∨ 8 ≤ x1.toNatClampNeg then none else some ((some (.inl (M 9 x1.toNatClampNeg))), M))))) := fun k => rfl
  have h := h gX2_wordsIn
  rw [mgs_gX2_wordsIn] at h
  exact h
theorem iX2_wordsIn (M : MM) (x1 : Int32) : mX2_wordsIn [.inr (some 2), .inl x1] M = gX2_wordsIn 0 [some (.inr (some 2)), some (.inl x1)] [] M := rfl
noncomputable def gX2_wordAt : KT := mev (zlook tX2_wordAt)
theorem ctX2_wordAt : ∀ q ∈ tX2_wordAt, Cont q.2 := by
  refine ccons (cont_iload _ _) ?_
  refine ccons (cont_push _ _) ?_
  refine ccons (cont_bin _ _) ?_
  refine ccons (cont_iload _ _) ?_
  refine ccons (cont_bin _ _) ?_
  refine ccons (cont_istore _ _) ?_
  refine ccons (cont_iload _ _) ?_
  refine ccons (cont_if_lt _ _) ?_
  refine ccons (cont_iload _ _) ?_
  refine ccons (cont_aload _ _) ?_
  refine ccons (cont_iload _ _) ?_
  refine ccons (cont_callV _ _ _ _) ?_
  refine ccons (cont_c_ge _ _) ?_
  refine ccons (cont_iload _ _) ?_
  refine ccons (cont_aload _ _) ?_
  refine ccons (cont_getR _ _ _) ?_
  refine ccons (cont_len _) ?_
  refine ccons (cont_c_ge _ _) ?_
  refine ccons (cont_aload _ _) ?_
  refine ccons (cont_getR _ _ _) ?_
  refine ccons (cont_iload _ _) ?_
  refine ccons (cont_ald _ _) ?_
  refine ccons (cont_goto _) ?_
  refine ccons (cont_push _ _) ?_
  refine ccons (cont_iret) ?_
  exact cnil
theorem mgs_gX2_wordAt (cut : List Nat) (n : Nat) : mgs (zlook tX2_wordAt) cut gX2_wordAt n = gX2_wordAt := mgs_mev (ctab ctX2_wordAt) cut n
def nX2_wordAt : List Nat := [0, 16]
set_option maxRecDepth 100000 in
theorem eX2_wordAt_0 (M : MM) (x1 : Int32) (x2 : Int32) : gX2_wordAt 0 [some (.inr (some 2)), some (.inl x1), some (.inl x2), none] [] M = (if x2 < 0 then some ((some (.inl (-1 : Int32))), M) else (mX2_wordsIn [.inr (some 2), .inl x1] M).bind (fun r => gX2_wordAt 16 [some (.inr (some 2)), some (.inl x1), some (.inl x2), some (.inl ((x1 * (4 : Int32)) + x2))] (r.1.toList ++ [.inl x2]) r.2)) := by
  have h : ∀ k : KT, mgs (zlook tX2_wordAt) nX2_wordAt k 12 0 [some (.inr (some 2)), some (.inl x1), some (.inl x2), none] [] M = (if x2 < 0 then some ((some (.inl (-1 : Int32))), M) else (mX2_wordsIn [.inr (some 2), .inl x1] M).bind (fun r => k 16 [some (.inr (some 2)), some (.inl x1), some (.inl x2), some (.inl ((x1 * (4 : Int32)) + x2))] (r.1.toList ++ [.inl x2]) r.2)) := fun k => rfl
  have h := h gX2_wordAt
  rw [mgs_gX2_wordAt] at h
  exact h
set_option maxRecDepth 100000 in
theorem eX2_wordAt_16 (M : MM) (x1 : Int32) (x2 : Int32) (x3 : Int32) (xs0 : Int32) (xs1 : Int32) : gX2_wordAt 16 [some (.inr (some 2)), some (.inl x1), some (.inl x2), some (.inl x3)] [.inl xs0, .inl xs1] M = (if xs0 ≤ xs1 then some ((some (.inl (-1 : Int32))), M) else (if (32 : Int32) ≤ x3 then some ((some (.inl (-1 : Int32))), M) else (if x3 < 0 ∨ 32 ≤ x3.toNatClampNeg then none else some ((some (.inl (M 7 x3.toNatClampNeg))), M)))) := by
  have h : ∀ k : KT, mgs (zlook tX2_wordAt) nX2_wordAt k 12 16 [some (.inr (some 2)), some (.inl x1), some (.inl x2), some (.inl x3)] [.inl xs0, .inl xs1] M = (if xs0 ≤ xs1 then some ((some (.inl (-1 : Int32))), M) else (if (32 : Int32) ≤ x3 then some ((some (.inl (-1 : Int32))), M) else (if x3 < 0 ∨ 32 ≤ x3.toNatClampNeg then none else some ((some (.inl (M 7 x3.toNatClampNeg))), M)))) := fun k => rfl
  have h := h gX2_wordAt
  rw [mgs_gX2_wordAt] at h
  exact h
theorem iX2_wordAt (M : MM) (x1 : Int32) (x2 : Int32) : mX2_wordAt [.inr (some 2), .inl x1, .inl x2] M = gX2_wordAt 0 [some (.inr (some 2)), some (.inl x1), some (.inl x2), none] [] M := rfl
noncomputable def gX9_isWithin : KT := mev (zlook tX9_isWithin)
theorem ctX9_isWithin : ∀ q ∈ tX9_isWithin, Cont q.2 := by
  refine ccons (cont_iload _ _) ?_
  refine ccons (cont_if_lt _ _) ?_
  refine ccons (cont_iload _ _) ?_
  refine ccons (cont_iload _ _) ?_
  refine ccons (cont_c_gt _ _) ?_
  refine ccons (cont_push _ _) ?_
  refine ccons (cont_goto _) ?_
  refine ccons (cont_push _ _) ?_
  refine ccons (cont_zret) ?_
  exact cnil
theorem mgs_gX9_isWithin (cut : List Nat) (n : Nat) : mgs (zlook tX9_isWithin) cut gX9_isWithin n = gX9_isWithin := mgs_mev (ctab ctX9_isWithin) cut n
def nX9_isWithin : List Nat := [0]
set_option maxRecDepth 100000 in
theorem eX9_isWithin_0 (M : MM) (x0 : Int32) (x1 : Int32) : gX9_isWithin 0 [some (.inl x0), some (.inl x1)] [] M = (if x0 < 0 then some ((some (.inl (0 : Int32))), M) else (if x1 < x0 then some ((some (.inl (0 : Int32))), M) else some ((some (.inl (1 : Int32))), M))) := by
  have h : ∀ k : KT, mgs (zlook tX9_isWithin) nX9_isWithin k 8 0 [some (.inl x0), some (.inl x1)] [] M = (if x0 < 0 then some ((some (.inl (0 : Int32))), M) else (if x1 < x0 then some ((some (.inl (0 : Int32))), M) else some ((some (.inl (1 : Int32))), M))) := fun k => rfl
  have h := h gX9_isWithin
  rw [mgs_gX9_isWithin] at h
  exact h
theorem iX9_isWithin (M : MM) (x0 : Int32) (x1 : Int32) : mX9_isWithin [.inl x0, .inl x1] M = gX9_isWithin 0 [some (.inl x0), some (.inl x1)] [] M := rfl
noncomputable def gX0_standBehind : KT := mev (zlook tX0_standBehind)
theorem ctX0_standBehind : ∀ q ∈ tX0_standBehind, Cont q.2 := by
  refine ccons (cont_iload _ _) ?_
  refine ccons (cont_push _ _) ?_
  refine ccons (cont_rem _) ?_
  refine ccons (cont_push _ _) ?_
  refine ccons (cont_c_ne _ _) ?_
  refine ccons (cont_push _ _) ?_
  refine ccons (cont_goto _) ?_
  refine ccons (cont_push _ _) ?_
  refine ccons (cont_istore _ _) ?_
  refine ccons (cont_iload _ _) ?_
  refine ccons (cont_push _ _) ?_
  refine ccons (cont_c_ne _ _) ?_
  refine ccons (cont_iload _ _) ?_
  refine ccons (cont_if_ne _ _) ?_
  refine ccons (cont_iload _ _) ?_
  refine ccons (cont_push _ _) ?_
  refine ccons (cont_bin _ _) ?_
  refine ccons (cont_push _ _) ?_
  refine ccons (cont_aload _ _) ?_
  refine ccons (cont_getI _ _ _) ?_
  refine ccons (cont_bin _ _) ?_
  refine ccons (cont_c_gt _ _) ?_
  refine ccons (cont_iload _ _) ?_
  refine ccons (cont_push _ _) ?_
  refine ccons (cont_bin _ _) ?_
  refine ccons (cont_iret) ?_
  refine ccons (cont_iload _ _) ?_
  refine ccons (cont_if_eq _ _) ?_
  refine ccons (cont_iload _ _) ?_
  refine ccons (cont_push _ _) ?_
  refine ccons (cont_bin _ _) ?_
  refine ccons (cont_goto _) ?_
  refine ccons (cont_iload _ _) ?_
  refine ccons (cont_push _ _) ?_
  refine ccons (cont_bin _ _) ?_
  refine ccons (cont_istore _ _) ?_
  refine ccons (cont_iload _ _) ?_
  refine ccons (cont_push _ _) ?_
  refine ccons (cont_callS _ _ _) ?_
  refine ccons (cont_if_eq _ _) ?_
  refine ccons (cont_iload _ _) ?_
  refine ccons (cont_push _ _) ?_
  refine ccons (cont_aload _ _) ?_
  refine ccons (cont_getI _ _ _) ?_
  refine ccons (cont_bin _ _) ?_
  refine ccons (cont_c_gt _ _) ?_
  refine ccons (cont_iload _ _) ?_
  refine ccons (cont_goto _) ?_
  refine ccons (cont_push _ _) ?_
  refine ccons (cont_iret) ?_
  exact cnil
theorem mgs_gX0_standBehind (cut : List Nat) (n : Nat) : mgs (zlook tX0_standBehind) cut gX0_standBehind n = gX0_standBehind := mgs_mev (ctab ctX0_standBehind) cut n
def nX0_standBehind : List Nat := [0, 12, 52, 60]
set_option maxRecDepth 100000 in
theorem eX0_standBehind_0 (M : MM) (x1 : Int32) (x2 : Int32) : gX0_standBehind 0 [some (.inr (some 13)), some (.inl x1), some (.inl x2), none, none] [] M = (if (x1 - x1 / (2 : Int32) * (2 : Int32)) = (1 : Int32) then gX0_standBehind 12 [some (.inr (some 13)), some (.inl x1), some (.inl x2), none, none] [.inl (1 : Int32)] M else gX0_standBehind 12 [some (.inr (some 13)), some (.inl x1), some (.inl x2), none, none] [.inl (0 : Int32)] M) := by
  have h : ∀ k : KT, mgs (zlook tX0_standBehind) nX0_standBehind k 7 0 [some (.inr (some 13)), some (.inl x1), some (.inl x2), none, none] [] M = (if (x1 - x1 / (2 : Int32) * (2 : Int32)) = (1 : Int32) then k 12 [some (.inr (some 13)), some (.inl x1), some (.inl x2), none, none] [.inl (1 : Int32)] M else k 12 [some (.inr (some 13)), some (.inl x1), some (.inl x2), none, none] [.inl (0 : Int32)] M) := fun k => rfl
  have h := h gX0_standBehind
  rw [mgs_gX0_standBehind] at h
  exact h
set_option maxRecDepth 100000 in
theorem eX0_standBehind_12 (M : MM) (x1 : Int32) (x2 : Int32) (xs0 : Int32) : gX0_standBehind 12 [some (.inr (some 13)), some (.inl x1), some (.inl x2), none, none] [.inl xs0] M = (if x2 = (10 : Int32) then (if xs0 = 0 then (if ((2 : Int32) * (M 13 1)) < (x1 + (4 : Int32)) then (if xs0 = 0 then gX0_standBehind 52 [some (.inr (some 13)), some (.inl x1), some (.inl x2), some (.inl xs0), none] [.inl (x1 + (2 : Int32))] M else gX0_standBehind 52 [some (.inr (some 13)), some (.inl x1), some (.inl x2), some (.inl xs0), none] [.inl (x1 + (3 : Int32))] M) else some ((some (.inl (x1 + (1 : Int32)))), M)) else (if xs0 = 0 then gX0_standBehind 52 [some (.inr (some 13)), some (.inl x1), some (.inl x2), some (.inl xs0), none] [.inl (x1 + (2 : Int32))] M else gX0_standBehind 52 [some (.inr (some 13)), some (.inl x1), some (.inl x2), some (.inl xs0), none] [.inl (x1 + (3 : Int32))] M)) else (if xs0 = 0 then gX0_standBehind 52 [some (.inr (some 13)), some (.inl x1), some (.inl x2), some (.inl xs0), none] [.inl (x1 + (2 : Int32))] M else gX0_standBehind 52 [some (.inr (some 13)), some (.inl x1), some (.inl x2), some (.inl xs0), none] [.inl (x1 + (3 : Int32))] M)) := by
  have h : ∀ k : KT, mgs (zlook tX0_standBehind) nX0_standBehind k 20 12 [some (.inr (some 13)), some (.inl x1), some (.inl x2), none, none] [.inl xs0] M = (if x2 = (10 : Int32) then (if xs0 = 0 then (if ((2 : Int32) * (M 13 1)) < (x1 + (4 : Int32)) then (if xs0 = 0 then k 52 [some (.inr (some 13)), some (.inl x1), some (.inl x2), some (.inl xs0), none] [.inl (x1 + (2 : Int32))] M else k 52 [some (.inr (some 13)), some (.inl x1), some (.inl x2), some (.inl xs0), none] [.inl (x1 + (3 : Int32))] M) else some ((some (.inl (x1 + (1 : Int32)))), M)) else (if xs0 = 0 then k 52 [some (.inr (some 13)), some (.inl x1), some (.inl x2), some (.inl xs0), none] [.inl (x1 + (2 : Int32))] M else k 52 [some (.inr (some 13)), some (.inl x1), some (.inl x2), some (.inl xs0), none] [.inl (x1 + (3 : Int32))] M)) else (if xs0 = 0 then k 52 [some (.inr (some 13)), some (.inl x1), some (.inl x2), some (.inl xs0), none] [.inl (x1 + (2 : Int32))] M else k 52 [some (.inr (some 13)), some (.inl x1), some (.inl x2), some (.inl xs0), none] [.inl (x1 + (3 : Int32))] M)) := fun k => rfl
  have h := h gX0_standBehind
  rw [mgs_gX0_standBehind] at h
  exact h
set_option maxRecDepth 100000 in
theorem eX0_standBehind_52 (M : MM) (x1 : Int32) (x2 : Int32) (x3 : Int32) (xs0 : Int32) : gX0_standBehind 52 [some (.inr (some 13)), some (.inl x1), some (.inl x2), some (.inl x3), none] [.inl xs0] M = (mX9_isWithin [.inl x2, .inl (9 : Int32)] M).bind (fun r => gX0_standBehind 60 [some (.inr (some 13)), some (.inl x1), some (.inl x2), some (.inl x3), some (.inl xs0)] (r.1.toList ++ []) r.2) := by
  have h : ∀ k : KT, mgs (zlook tX0_standBehind) nX0_standBehind k 4 52 [some (.inr (some 13)), some (.inl x1), some (.inl x2), some (.inl x3), none] [.inl xs0] M = (mX9_isWithin [.inl x2, .inl (9 : Int32)] M).bind (fun r => k 60 [some (.inr (some 13)), some (.inl x1), some (.inl x2), some (.inl x3), some (.inl xs0)] (r.1.toList ++ []) r.2) := fun k => rfl
  have h := h gX0_standBehind
  rw [mgs_gX0_standBehind] at h
  exact h
set_option maxRecDepth 100000 in
theorem eX0_standBehind_60 (M : MM) (x1 : Int32) (x2 : Int32) (x3 : Int32) (x4 : Int32) (xs0 : Int32) : gX0_standBehind 60 [some (.inr (some 13)), some (.inl x1), some (.inl x2), some (.inl x3), some (.inl x4)] [.inl xs0] M = (if xs0 = 0 then some ((some (.inl (-1 : Int32))), M) else (if ((2 : Int32) * (M 13 1)) < x4 then some ((some (.inl (-1 : Int32))), M) else some ((some (.inl x4)), M))) := by
  have h : ∀ k : KT, mgs (zlook tX0_standBehind) nX0_standBehind k 10 60 [some (.inr (some 13)), some (.inl x1), some (.inl x2), some (.inl x3), some (.inl x4)] [.inl xs0] M = (if xs0 = 0 then some ((some (.inl (-1 : Int32))), M) else (if ((2 : Int32) * (M 13 1)) < x4 then some ((some (.inl (-1 : Int32))), M) else some ((some (.inl x4)), M))) := fun k => rfl
  have h := h gX0_standBehind
  rw [mgs_gX0_standBehind] at h
  exact h
theorem iX0_standBehind (M : MM) (x1 : Int32) (x2 : Int32) : mX0_standBehind [.inr (some 13), .inl x1, .inl x2] M = gX0_standBehind 0 [some (.inr (some 13)), some (.inl x1), some (.inl x2), none, none] [] M := rfl
noncomputable def gX2_costAt : KT := mev (zlook tX2_costAt)
theorem ctX2_costAt : ∀ q ∈ tX2_costAt, Cont q.2 := by
  refine ccons (cont_iload _ _) ?_
  refine ccons (cont_push _ _) ?_
  refine ccons (cont_bin _ _) ?_
  refine ccons (cont_iload _ _) ?_
  refine ccons (cont_bin _ _) ?_
  refine ccons (cont_istore _ _) ?_
  refine ccons (cont_iload _ _) ?_
  refine ccons (cont_if_lt _ _) ?_
  refine ccons (cont_iload _ _) ?_
  refine ccons (cont_aload _ _) ?_
  refine ccons (cont_iload _ _) ?_
  refine ccons (cont_callV _ _ _ _) ?_
  refine ccons (cont_c_ge _ _) ?_
  refine ccons (cont_iload _ _) ?_
  refine ccons (cont_aload _ _) ?_
  refine ccons (cont_getR _ _ _) ?_
  refine ccons (cont_len _) ?_
  refine ccons (cont_c_ge _ _) ?_
  refine ccons (cont_aload _ _) ?_
  refine ccons (cont_getR _ _ _) ?_
  refine ccons (cont_iload _ _) ?_
  refine ccons (cont_ald _ _) ?_
  refine ccons (cont_goto _) ?_
  refine ccons (cont_push _ _) ?_
  refine ccons (cont_iret) ?_
  exact cnil
theorem mgs_gX2_costAt (cut : List Nat) (n : Nat) : mgs (zlook tX2_costAt) cut gX2_costAt n = gX2_costAt := mgs_mev (ctab ctX2_costAt) cut n
def nX2_costAt : List Nat := [0, 16]
set_option maxRecDepth 100000 in
theorem eX2_costAt_0 (M : MM) (x1 : Int32) (x2 : Int32) : gX2_costAt 0 [some (.inr (some 2)), some (.inl x1), some (.inl x2), none] [] M = (if x2 < 0 then some ((some (.inl (-1 : Int32))), M) else (mX2_wordsIn [.inr (some 2), .inl x1] M).bind (fun r => gX2_costAt 16 [some (.inr (some 2)), some (.inl x1), some (.inl x2), some (.inl ((x1 * (4 : Int32)) + x2))] (r.1.toList ++ [.inl x2]) r.2)) := by
  have h : ∀ k : KT, mgs (zlook tX2_costAt) nX2_costAt k 12 0 [some (.inr (some 2)), some (.inl x1), some (.inl x2), none] [] M = (if x2 < 0 then some ((some (.inl (-1 : Int32))), M) else (mX2_wordsIn [.inr (some 2), .inl x1] M).bind (fun r => k 16 [some (.inr (some 2)), some (.inl x1), some (.inl x2), some (.inl ((x1 * (4 : Int32)) + x2))] (r.1.toList ++ [.inl x2]) r.2)) := fun k => rfl
  have h := h gX2_costAt
  rw [mgs_gX2_costAt] at h
  exact h
set_option maxRecDepth 100000 in
theorem eX2_costAt_16 (M : MM) (x1 : Int32) (x2 : Int32) (x3 : Int32) (xs0 : Int32) (xs1 : Int32) : gX2_costAt 16 [some (.inr (some 2)), some (.inl x1), some (.inl x2), some (.inl x3)] [.inl xs0, .inl xs1] M = (if xs0 ≤ xs1 then some ((some (.inl (-1 : Int32))), M) else (if (32 : Int32) ≤ x3 then some ((some (.inl (-1 : Int32))), M) else (if x3 < 0 ∨ 32 ≤ x3.toNatClampNeg then none else some ((some (.inl (M 8 x3.toNatClampNeg))), M)))) := by
  have h : ∀ k : KT, mgs (zlook tX2_costAt) nX2_costAt k 12 16 [some (.inr (some 2)), some (.inl x1), some (.inl x2), some (.inl x3)] [.inl xs0, .inl xs1] M = (if xs0 ≤ xs1 then some ((some (.inl (-1 : Int32))), M) else (if (32 : Int32) ≤ x3 then some ((some (.inl (-1 : Int32))), M) else (if x3 < 0 ∨ 32 ≤ x3.toNatClampNeg then none else some ((some (.inl (M 8 x3.toNatClampNeg))), M)))) := fun k => rfl
  have h := h gX2_costAt
  rw [mgs_gX2_costAt] at h
  exact h
theorem iX2_costAt (M : MM) (x1 : Int32) (x2 : Int32) : mX2_costAt [.inr (some 2), .inl x1, .inl x2] M = gX2_costAt 0 [some (.inr (some 2)), some (.inl x1), some (.inl x2), none] [] M := rfl
noncomputable def gX0_weight : KT := mev (zlook tX0_weight)
theorem ctX0_weight : ∀ q ∈ tX0_weight, Cont q.2 := by
  refine ccons (cont_aload _ _) ?_
  refine ccons (cont_getI _ _ _) ?_
  refine ccons (cont_if_ne _ _) ?_
  refine ccons (cont_push _ _) ?_
  refine ccons (cont_iret) ?_
  refine ccons (cont_aload _ _) ?_
  refine ccons (cont_getI _ _ _) ?_
  refine ccons (cont_push _ _) ?_
  refine ccons (cont_bin _ _) ?_
  refine ccons (cont_iload _ _) ?_
  refine ccons (cont_bin _ _) ?_
  refine ccons (cont_push _ _) ?_
  refine ccons (cont_rem _) ?_
  refine ccons (cont_if_ne _ _) ?_
  refine ccons (cont_iload _ _) ?_
  refine ccons (cont_iret) ?_
  refine ccons (cont_iload _ _) ?_
  refine ccons (cont_push _ _) ?_
  refine ccons (cont_c_le _ _) ?_
  refine ccons (cont_push _ _) ?_
  refine ccons (cont_iload _ _) ?_
  refine ccons (cont_bin _ _) ?_
  refine ccons (cont_push _ _) ?_
  refine ccons (cont_bin _ _) ?_
  refine ccons (cont_goto _) ?_
  refine ccons (cont_push _ _) ?_
  refine ccons (cont_iload _ _) ?_
  refine ccons (cont_bin _ _) ?_
  refine ccons (cont_iret) ?_
  exact cnil
theorem mgs_gX0_weight (cut : List Nat) (n : Nat) : mgs (zlook tX0_weight) cut gX0_weight n = gX0_weight := mgs_mev (ctab ctX0_weight) cut n
def nX0_weight : List Nat := [0]
set_option maxRecDepth 100000 in
theorem eX0_weight_0 (M : MM) (x1 : Int32) (x2 : Int32) : gX0_weight 0 [some (.inr (some 13)), some (.inl x1), some (.inl x2)] [] M = (if (M 13 2) = 0 then some ((some (.inl (0 : Int32))), M) else (if ((((M 13 1) - (1 : Int32)) - x1) - (((M 13 1) - (1 : Int32)) - x1) / (2 : Int32) * (2 : Int32)) = 0 then some ((some (.inl x2)), M) else (if x2 ≤ (4 : Int32) then some ((some (.inl ((2 : Int32) * x2))), M) else some ((some (.inl (((2 : Int32) * x2) - (9 : Int32)))), M)))) := by
  have h : ∀ k : KT, mgs (zlook tX0_weight) nX0_weight k 22 0 [some (.inr (some 13)), some (.inl x1), some (.inl x2)] [] M = (if (M 13 2) = 0 then some ((some (.inl (0 : Int32))), M) else (if ((((M 13 1) - (1 : Int32)) - x1) - (((M 13 1) - (1 : Int32)) - x1) / (2 : Int32) * (2 : Int32)) = 0 then some ((some (.inl x2)), M) else (if x2 ≤ (4 : Int32) then some ((some (.inl ((2 : Int32) * x2))), M) else some ((some (.inl (((2 : Int32) * x2) - (9 : Int32)))), M)))) := fun k => rfl
  have h := h gX0_weight
  rw [mgs_gX0_weight] at h
  exact h
theorem iX0_weight (M : MM) (x1 : Int32) (x2 : Int32) : mX0_weight [.inr (some 13), .inl x1, .inl x2] M = gX0_weight 0 [some (.inr (some 13)), some (.inl x1), some (.inl x2)] [] M := rfl
noncomputable def gX7_cost : KT := mev (zlook tX7_cost)
theorem ctX7_cost : ∀ q ∈ tX7_cost, Cont q.2 := by
  refine ccons (cont_push _ _) ?_
  refine ccons (cont_iload _ _) ?_
  refine ccons (cont_bin _ _) ?_
  refine ccons (cont_iload _ _) ?_
  refine ccons (cont_bin _ _) ?_
  refine ccons (cont_istore _ _) ?_
  refine ccons (cont_iload _ _) ?_
  refine ccons (cont_if_lt _ _) ?_
  refine ccons (cont_iload _ _) ?_
  refine ccons (cont_aload _ _) ?_
  refine ccons (cont_getR _ _ _) ?_
  refine ccons (cont_len _) ?_
  refine ccons (cont_c_ge _ _) ?_
  refine ccons (cont_aload _ _) ?_
  refine ccons (cont_getR _ _ _) ?_
  refine ccons (cont_iload _ _) ?_
  refine ccons (cont_ald _ _) ?_
  refine ccons (cont_goto _) ?_
  refine ccons (cont_push _ _) ?_
  refine ccons (cont_iret) ?_
  exact cnil
theorem mgs_gX7_cost (cut : List Nat) (n : Nat) : mgs (zlook tX7_cost) cut gX7_cost n = gX7_cost := mgs_mev (ctab ctX7_cost) cut n
def nX7_cost_a : List Nat := [0]
set_option maxRecDepth 100000 in
theorem eX7_cost_a_0 (M : MM) (x1 : Int32) (x2 : Int32) : gX7_cost 0 [some (.inr (some 10)), some (.inl x1), some (.inl x2), none] [] M = (if (((2 : Int32) * x1) + x2) < 0 then some ((some (.inl (1000000 : Int32))), M) else (if (2 : Int32) ≤ (((2 : Int32) * x1) + x2) then some ((some (.inl (1000000 : Int32))), M) else (if (((2 : Int32) * x1) + x2) < 0 ∨ 2 ≤ (((2 : Int32) * x1) + x2).toNatClampNeg then none else some ((some (.inl (M 11 (((2 : Int32) * x1) + x2).toNatClampNeg))), M)))) := by
  have h : ∀ k : KT, mgs (zlook tX7_cost) nX7_cost_a k 19 0 [some (.inr (some 10)), some (.inl x1), some (.inl x2), none] [] M = (if (((2 : Int32) * x1) + x2) < 0 then some ((some (.inl (1000000 : Int32))), M) else (if (2 : Int32) ≤ (((2 : Int32) * x1) + x2) then some ((some (.inl (1000000 : Int32))), M) else (if (((2 : Int32) * x1) + x2) < 0 ∨ 2 ≤ (((2 : Int32) * x1) + x2).toNatClampNeg then none else some ((some (.inl (M 11 (((2 : Int32) * x1) + x2).toNatClampNeg))), M)))) := fun k => rfl
  have h := h gX7_cost
  rw [mgs_gX7_cost] at h
  exact h
theorem iX7_cost_a (M : MM) (x1 : Int32) (x2 : Int32) : mX7_cost [.inr (some 10), .inl x1, .inl x2] M = gX7_cost 0 [some (.inr (some 10)), some (.inl x1), some (.inl x2), none] [] M := rfl
def nX7_cost_b : List Nat := [0]
set_option maxRecDepth 100000 in
theorem eX7_cost_b_0 (M : MM) (x1 : Int32) (x2 : Int32) : gX7_cost 0 [some (.inr (some 15)), some (.inl x1), some (.inl x2), none] [] M = (if (((2 : Int32) * x1) + x2) < 0 then some ((some (.inl (1000000 : Int32))), M) else (if (360 : Int32) ≤ (((2 : Int32) * x1) + x2) then some ((some (.inl (1000000 : Int32))), M) else (if (((2 : Int32) * x1) + x2) < 0 ∨ 360 ≤ (((2 : Int32) * x1) + x2).toNatClampNeg then none else some ((some (.inl (M 16 (((2 : Int32) * x1) + x2).toNatClampNeg))), M)))) := by
  have h : ∀ k : KT, mgs (zlook tX7_cost) nX7_cost_b k 19 0 [some (.inr (some 15)), some (.inl x1), some (.inl x2), none] [] M = (if (((2 : Int32) * x1) + x2) < 0 then some ((some (.inl (1000000 : Int32))), M) else (if (360 : Int32) ≤ (((2 : Int32) * x1) + x2) then some ((some (.inl (1000000 : Int32))), M) else (if (((2 : Int32) * x1) + x2) < 0 ∨ 360 ≤ (((2 : Int32) * x1) + x2).toNatClampNeg then none else some ((some (.inl (M 16 (((2 : Int32) * x1) + x2).toNatClampNeg))), M)))) := fun k => rfl
  have h := h gX7_cost
  rw [mgs_gX7_cost] at h
  exact h
theorem iX7_cost_b (M : MM) (x1 : Int32) (x2 : Int32) : mX7_cost [.inr (some 15), .inl x1, .inl x2] M = gX7_cost 0 [some (.inr (some 15)), some (.inl x1), some (.inl x2), none] [] M := rfl
noncomputable def gX7_key : KT := mev (zlook tX7_key)
theorem ctX7_key : ∀ q ∈ tX7_key, Cont q.2 := by
  refine ccons (cont_push _ _) ?_
  refine ccons (cont_iload _ _) ?_
  refine ccons (cont_bin _ _) ?_
  refine ccons (cont_iload _ _) ?_
  refine ccons (cont_bin _ _) ?_
  refine ccons (cont_istore _ _) ?_
  refine ccons (cont_iload _ _) ?_
  refine ccons (cont_if_lt _ _) ?_
  refine ccons (cont_iload _ _) ?_
  refine ccons (cont_aload _ _) ?_
  refine ccons (cont_getR _ _ _) ?_
  refine ccons (cont_len _) ?_
  refine ccons (cont_c_ge _ _) ?_
  refine ccons (cont_aload _ _) ?_
  refine ccons (cont_getR _ _ _) ?_
  refine ccons (cont_iload _ _) ?_
  refine ccons (cont_ald _ _) ?_
  refine ccons (cont_goto _) ?_
  refine ccons (cont_push _ _) ?_
  refine ccons (cont_iret) ?_
  exact cnil
theorem mgs_gX7_key (cut : List Nat) (n : Nat) : mgs (zlook tX7_key) cut gX7_key n = gX7_key := mgs_mev (ctab ctX7_key) cut n
def nX7_key_a : List Nat := [0]
set_option maxRecDepth 100000 in
theorem eX7_key_a_0 (M : MM) (x1 : Int32) (x2 : Int32) : gX7_key 0 [some (.inr (some 10)), some (.inl x1), some (.inl x2), none] [] M = (if (((2 : Int32) * x1) + x2) < 0 then some ((some (.inl (-1 : Int32))), M) else (if (2 : Int32) ≤ (((2 : Int32) * x1) + x2) then some ((some (.inl (-1 : Int32))), M) else (if (((2 : Int32) * x1) + x2) < 0 ∨ 2 ≤ (((2 : Int32) * x1) + x2).toNatClampNeg then none else some ((some (.inl (M 12 (((2 : Int32) * x1) + x2).toNatClampNeg))), M)))) := by
  have h : ∀ k : KT, mgs (zlook tX7_key) nX7_key_a k 19 0 [some (.inr (some 10)), some (.inl x1), some (.inl x2), none] [] M = (if (((2 : Int32) * x1) + x2) < 0 then some ((some (.inl (-1 : Int32))), M) else (if (2 : Int32) ≤ (((2 : Int32) * x1) + x2) then some ((some (.inl (-1 : Int32))), M) else (if (((2 : Int32) * x1) + x2) < 0 ∨ 2 ≤ (((2 : Int32) * x1) + x2).toNatClampNeg then none else some ((some (.inl (M 12 (((2 : Int32) * x1) + x2).toNatClampNeg))), M)))) := fun k => rfl
  have h := h gX7_key
  rw [mgs_gX7_key] at h
  exact h
theorem iX7_key_a (M : MM) (x1 : Int32) (x2 : Int32) : mX7_key [.inr (some 10), .inl x1, .inl x2] M = gX7_key 0 [some (.inr (some 10)), some (.inl x1), some (.inl x2), none] [] M := rfl
def nX7_key_b : List Nat := [0]
set_option maxRecDepth 100000 in
theorem eX7_key_b_0 (M : MM) (x1 : Int32) (x2 : Int32) : gX7_key 0 [some (.inr (some 15)), some (.inl x1), some (.inl x2), none] [] M = (if (((2 : Int32) * x1) + x2) < 0 then some ((some (.inl (-1 : Int32))), M) else (if (360 : Int32) ≤ (((2 : Int32) * x1) + x2) then some ((some (.inl (-1 : Int32))), M) else (if (((2 : Int32) * x1) + x2) < 0 ∨ 360 ≤ (((2 : Int32) * x1) + x2).toNatClampNeg then none else some ((some (.inl (M 17 (((2 : Int32) * x1) + x2).toNatClampNeg))), M)))) := by
  have h : ∀ k : KT, mgs (zlook tX7_key) nX7_key_b k 19 0 [some (.inr (some 15)), some (.inl x1), some (.inl x2), none] [] M = (if (((2 : Int32) * x1) + x2) < 0 then some ((some (.inl (-1 : Int32))), M) else (if (360 : Int32) ≤ (((2 : Int32) * x1) + x2) then some ((some (.inl (-1 : Int32))), M) else (if (((2 : Int32) * x1) + x2) < 0 ∨ 360 ≤ (((2 : Int32) * x1) + x2).toNatClampNeg then none else some ((some (.inl (M 17 (((2 : Int32) * x1) + x2).toNatClampNeg))), M)))) := fun k => rfl
  have h := h gX7_key
  rw [mgs_gX7_key] at h
  exact h
theorem iX7_key_b (M : MM) (x1 : Int32) (x2 : Int32) : mX7_key [.inr (some 15), .inl x1, .inl x2] M = gX7_key 0 [some (.inr (some 15)), some (.inl x1), some (.inl x2), none] [] M := rfl
noncomputable def gX0_grow : KT := mev (zlook tX0_grow)
theorem ctX0_grow : ∀ q ∈ tX0_grow, Cont q.2 := by
  refine ccons (cont_push _ _) ?_
  refine ccons (cont_istore _ _) ?_
  refine ccons (cont_push _ _) ?_
  refine ccons (cont_istore _ _) ?_
  refine ccons (cont_push _ _) ?_
  refine ccons (cont_istore _ _) ?_
  refine ccons (cont_iload _ _) ?_
  refine ccons (cont_push _ _) ?_
  refine ccons (cont_div _) ?_
  refine ccons (cont_istore _ _) ?_
  refine ccons (cont_iload _ _) ?_
  refine ccons (cont_iload _ _) ?_
  refine ccons (cont_push _ _) ?_
  refine ccons (cont_div _) ?_
  refine ccons (cont_c_ge _ _) ?_
  refine ccons (cont_iload _ _) ?_
  refine ccons (cont_aload _ _) ?_
  refine ccons (cont_iload _ _) ?_
  refine ccons (cont_iload _ _) ?_
  refine ccons (cont_callV _ _ _ _) ?_
  refine ccons (cont_bin _ _) ?_
  refine ccons (cont_istore _ _) ?_
  refine ccons (cont_iload _ _) ?_
  refine ccons (cont_push _ _) ?_
  refine ccons (cont_bin _ _) ?_
  refine ccons (cont_istore _ _) ?_
  refine ccons (cont_push _ _) ?_
  refine ccons (cont_iload _ _) ?_
  refine ccons (cont_bin _ _) ?_
  refine ccons (cont_iload _ _) ?_
  refine ccons (cont_bin _ _) ?_
  refine ccons (cont_istore _ _) ?_
  refine ccons (cont_iinc _ _ _) ?_
  refine ccons (cont_goto _) ?_
  refine ccons (cont_aload _ _) ?_
  refine ccons (cont_getI _ _ _) ?_
  refine ccons (cont_if_eq _ _) ?_
  refine ccons (cont_push _ _) ?_
  refine ccons (cont_goto _) ?_
  refine ccons (cont_push _ _) ?_
  refine ccons (cont_istore _ _) ?_
  refine ccons (cont_push _ _) ?_
  refine ccons (cont_istore _ _) ?_
  refine ccons (cont_iload _ _) ?_
  refine ccons (cont_iload _ _) ?_
  refine ccons (cont_c_ge _ _) ?_
  refine ccons (cont_push _ _) ?_
  refine ccons (cont_istore _ _) ?_
  refine ccons (cont_iload _ _) ?_
  refine ccons (cont_push _ _) ?_
  refine ccons (cont_c_ge _ _) ?_
  refine ccons (cont_aload _ _) ?_
  refine ccons (cont_getR _ _ _) ?_
  refine ccons (cont_iload _ _) ?_
  refine ccons (cont_push _ _) ?_
  refine ccons (cont_bin _ _) ?_
  refine ccons (cont_iload _ _) ?_
  refine ccons (cont_bin _ _) ?_
  refine ccons (cont_iload _ _) ?_
  refine ccons (cont_callV _ _ _ _) ?_
  refine ccons (cont_istore _ _) ?_
  refine ccons (cont_iload _ _) ?_
  refine ccons (cont_push _ _) ?_
  refine ccons (cont_c_ge _ _) ?_
  refine ccons (cont_aload _ _) ?_
  refine ccons (cont_getR _ _ _) ?_
  refine ccons (cont_iload _ _) ?_
  refine ccons (cont_push _ _) ?_
  refine ccons (cont_bin _ _) ?_
  refine ccons (cont_iload _ _) ?_
  refine ccons (cont_bin _ _) ?_
  refine ccons (cont_iload _ _) ?_
  refine ccons (cont_callV _ _ _ _) ?_
  refine ccons (cont_iload _ _) ?_
  refine ccons (cont_bin _ _) ?_
  refine ccons (cont_iload _ _) ?_
  refine ccons (cont_bin _ _) ?_
  refine ccons (cont_istore _ _) ?_
  refine ccons (cont_aload _ _) ?_
  refine ccons (cont_getR _ _ _) ?_
  refine ccons (cont_iload _ _) ?_
  refine ccons (cont_push _ _) ?_
  refine ccons (cont_bin _ _) ?_
  refine ccons (cont_iload _ _) ?_
  refine ccons (cont_iload _ _) ?_
  refine ccons (cont_bin _ _) ?_
  refine ccons (cont_push _ _) ?_
  refine ccons (cont_rem _) ?_
  refine ccons (cont_bin _ _) ?_
  refine ccons (cont_iload _ _) ?_
  refine ccons (cont_iload _ _) ?_
  refine ccons (cont_bin _ _) ?_
  refine ccons (cont_iload _ _) ?_
  refine ccons (cont_callV _ _ _ _) ?_
  refine ccons (cont_iinc _ _ _) ?_
  refine ccons (cont_goto _) ?_
  refine ccons (cont_iinc _ _ _) ?_
  refine ccons (cont_goto _) ?_
  refine ccons (cont_vret) ?_
  exact cnil
theorem mgs_gX0_grow (cut : List Nat) (n : Nat) : mgs (zlook tX0_grow) cut gX0_grow n = gX0_grow := mgs_mev (ctab ctX0_grow) cut n
def nX0_grow : List Nat := [0, 14, 31, 69, 74, 84, 106, 131, 166]
set_option maxRecDepth 100000 in
theorem eX0_grow_0 (M : MM) (x1 : Int32) (x2 : Int32) (x3 : Int32) (x4 : Int32) : gX0_grow 0 [some (.inr (some 13)), some (.inl x1), some (.inl x2), some (.inl x3), some (.inl x4), none, none, none, none, none, none, none, none] [] M = gX0_grow 14 [some (.inr (some 13)), some (.inl x1), some (.inl x2), some (.inl x3), some (.inl x4), some (.inl (0 : Int32)), some (.inl (1 : Int32)), some (.inl (0 : Int32)), some (.inl (x1 / (2 : Int32))), none, none, none, none] [] M := by
  have h : ∀ k : KT, mgs (zlook tX0_grow) nX0_grow k 10 0 [some (.inr (some 13)), some (.inl x1), some (.inl x2), some (.inl x3), some (.inl x4), none, none, none, none, none, none, none, none] [] M = k 14 [some (.inr (some 13)), some (.inl x1), some (.inl x2), some (.inl x3), some (.inl x4), some (.inl (0 : Int32)), some (.inl (1 : Int32)), some (.inl (0 : Int32)), some (.inl (x1 / (2 : Int32))), none, none, none, none] [] M := fun k => rfl
  have h := h gX0_grow
  rw [mgs_gX0_grow] at h
  exact h
set_option maxRecDepth 100000 in
theorem eX0_grow_14 (M : MM) (x1 : Int32) (x2 : Int32) (x3 : Int32) (x4 : Int32) (x5 : Int32) (x6 : Int32) (x7 : Int32) (x8 : Int32) : gX0_grow 14 [some (.inr (some 13)), some (.inl x1), some (.inl x2), some (.inl x3), some (.inl x4), some (.inl x5), some (.inl x6), some (.inl x7), some (.inl x8), none, none, none, none] [] M = (if (x2 / (2 : Int32)) ≤ x8 then (if (M 13 2) = 0 then gX0_grow 69 [some (.inr (some 13)), some (.inl x1), some (.inl x2), some (.inl x3), some (.inl x4), some (.inl x5), some (.inl x6), some (.inl x7), some (.inl x8), none, none, none, none] [.inl (1 : Int32)] M else gX0_grow 69 [some (.inr (some 13)), some (.inl x1), some (.inl x2), some (.inl x3), some (.inl x4), some (.inl x5), some (.inl x6), some (.inl x7), some (.inl x8), none, none, none, none] [.inl (10 : Int32)] M) else (mX0_weight [.inr (some 13), .inl x8, .inl x3] M).bind (fun r => gX0_grow 31 [some (.inr (some 13)), some (.inl x1), some (.inl x2), some (.inl x3), some (.inl x4), some (.inl x5), some (.inl x6), some (.inl x7), some (.inl x8), none, none, none, none] (r.1.toList ++ [.inl x5]) r.2)) := by
  have h : ∀ k : KT, mgs (zlook tX0_grow) nX0_grow k 10 14 [some (.inr (some 13)), some (.inl x1), some (.inl x2), some (.inl x3), some (.inl x4), some (.inl x5), some (.inl x6), some (.inl x7), some (.inl x8), none, none, none, none] [] M = (if (x2 / (2 : Int32)) ≤ x8 then (if (M 13 2) = 0 then k 69 [some (.inr (some 13)), some (.inl x1), some (.inl x2), some (.inl x3), some (.inl x4), some (.inl x5), some (.inl x6), some (.inl x7), some (.inl x8), none, none, none, none] [.inl (1 : Int32)] M else k 69 [some (.inr (some 13)), some (.inl x1), some (.inl x2), some (.inl x3), some (.inl x4), some (.inl x5), some (.inl x6), some (.inl x7), some (.inl x8), none, none, none, none] [.inl (10 : Int32)] M) else (mX0_weight [.inr (some 13), .inl x8, .inl x3] M).bind (fun r => k 31 [some (.inr (some 13)), some (.inl x1), some (.inl x2), some (.inl x3), some (.inl x4), some (.inl x5), some (.inl x6), some (.inl x7), some (.inl x8), none, none, none, none] (r.1.toList ++ [.inl x5]) r.2)) := fun k => rfl
  have h := h gX0_grow
  rw [mgs_gX0_grow] at h
  exact h
set_option maxRecDepth 100000 in
theorem eX0_grow_31 (M : MM) (x1 : Int32) (x2 : Int32) (x3 : Int32) (x4 : Int32) (x5 : Int32) (x6 : Int32) (x7 : Int32) (x8 : Int32) (xs0 : Int32) (xs1 : Int32) : gX0_grow 31 [some (.inr (some 13)), some (.inl x1), some (.inl x2), some (.inl x3), some (.inl x4), some (.inl x5), some (.inl x6), some (.inl x7), some (.inl x8), none, none, none, none] [.inl xs0, .inl xs1] M = gX0_grow 14 [some (.inr (some 13)), some (.inl x1), some (.inl x2), some (.inl x3), some (.inl x4), some (.inl (xs1 + xs0)), some (.inl (x6 * (10 : Int32))), some (.inl (((10 : Int32) * x7) + x3)), some (.inl (x8 + (1 : Int32))), none, none, none, none] [] M := by
  have h : ∀ k : KT, mgs (zlook tX0_grow) nX0_grow k 14 31 [some (.inr (some 13)), some (.inl x1), some (.inl x2), some (.inl x3), some (.inl x4), some (.inl x5), some (.inl x6), some (.inl x7), some (.inl x8), none, none, none, none] [.inl xs0, .inl xs1] M = k 14 [some (.inr (some 13)), some (.inl x1), some (.inl x2), some (.inl x3), some (.inl x4), some (.inl (xs1 + xs0)), some (.inl (x6 * (10 : Int32))), some (.inl (((10 : Int32) * x7) + x3)), some (.inl (x8 + (1 : Int32))), none, none, none, none] [] M := fun k => rfl
  have h := h gX0_grow
  rw [mgs_gX0_grow] at h
  exact h
set_option maxRecDepth 100000 in
theorem eX0_grow_69 (M : MM) (x1 : Int32) (x2 : Int32) (x3 : Int32) (x4 : Int32) (x5 : Int32) (x6 : Int32) (x7 : Int32) (x8 : Int32) (xs0 : Int32) : gX0_grow 69 [some (.inr (some 13)), some (.inl x1), some (.inl x2), some (.inl x3), some (.inl x4), some (.inl x5), some (.inl x6), some (.inl x7), some (.inl x8), none, none, none, none] [.inl xs0] M = gX0_grow 74 [some (.inr (some 13)), some (.inl x1), some (.inl x2), some (.inl x3), some (.inl x4), some (.inl x5), some (.inl x6), some (.inl x7), some (.inl xs0), some (.inl (0 : Int32)), none, none, none] [] M := by
  have h : ∀ k : KT, mgs (zlook tX0_grow) nX0_grow k 3 69 [some (.inr (some 13)), some (.inl x1), some (.inl x2), some (.inl x3), some (.inl x4), some (.inl x5), some (.inl x6), some (.inl x7), some (.inl x8), none, none, none, none] [.inl xs0] M = k 74 [some (.inr (some 13)), some (.inl x1), some (.inl x2), some (.inl x3), some (.inl x4), some (.inl x5), some (.inl x6), some (.inl x7), some (.inl xs0), some (.inl (0 : Int32)), none, none, none] [] M := fun k => rfl
  have h := h gX0_grow
  rw [mgs_gX0_grow] at h
  exact h
set_option maxRecDepth 100000 in
theorem eX0_grow_74 (M : MM) (x1 : Int32) (x2 : Int32) (x3 : Int32) (x4 : Int32) (x5 : Int32) (x6 : Int32) (x7 : Int32) (x8 : Int32) (x9 : Int32) (d10 : Option AV) (d11 : Option AV) (d12 : Option AV) : gX0_grow 74 [some (.inr (some 13)), some (.inl x1), some (.inl x2), some (.inl x3), some (.inl x4), some (.inl x5), some (.inl x6), some (.inl x7), some (.inl x8), some (.inl x9), d10, d11, d12] [] M = (if x8 ≤ x9 then some (none, M) else gX0_grow 84 [some (.inr (some 13)), some (.inl x1), some (.inl x2), some (.inl x3), some (.inl x4), some (.inl x5), some (.inl x6), some (.inl x7), some (.inl x8), some (.inl x9), some (.inl (0 : Int32)), d11, d12] [] M) := by
  have h : ∀ k : KT, mgs (zlook tX0_grow) nX0_grow k 5 74 [some (.inr (some 13)), some (.inl x1), some (.inl x2), some (.inl x3), some (.inl x4), some (.inl x5), some (.inl x6), some (.inl x7), some (.inl x8), some (.inl x9), d10, d11, d12] [] M = (if x8 ≤ x9 then some (none, M) else k 84 [some (.inr (some 13)), some (.inl x1), some (.inl x2), some (.inl x3), some (.inl x4), some (.inl x5), some (.inl x6), some (.inl x7), some (.inl x8), some (.inl x9), some (.inl (0 : Int32)), d11, d12] [] M) := fun k => rfl
  have h := h gX0_grow
  rw [mgs_gX0_grow] at h
  exact h
set_option maxRecDepth 100000 in
theorem eX0_grow_84 (M : MM) (x1 : Int32) (x2 : Int32) (x3 : Int32) (x4 : Int32) (x5 : Int32) (x6 : Int32) (x7 : Int32) (x8 : Int32) (x9 : Int32) (x10 : Int32) (d11 : Option AV) (d12 : Option AV) : gX0_grow 84 [some (.inr (some 13)), some (.inl x1), some (.inl x2), some (.inl x3), some (.inl x4), some (.inl x5), some (.inl x6), some (.inl x7), some (.inl x8), some (.inl x9), some (.inl x10), d11, d12] [] M = (if (2 : Int32) ≤ x10 then gX0_grow 74 [some (.inr (some 13)), some (.inl x1), some (.inl x2), some (.inl x3), some (.inl x4), some (.inl x5), some (.inl x6), some (.inl x7), some (.inl x8), some (.inl (x9 + (1 : Int32))), some (.inl x10), d11, d12] [] M else (mX7_cost [.inr (some 15), .inl ((x1 * (10 : Int32)) + x9), .inl x10] M).bind (fun r => gX0_grow 106 [some (.inr (some 13)), some (.inl x1), some (.inl x2), some (.inl x3), some (.inl x4), some (.inl x5), some (.inl x6), some (.inl x7), some (.inl x8), some (.inl x9), some (.inl x10), d11, d12] (r.1.toList ++ []) r.2)) := by
  have h : ∀ k : KT, mgs (zlook tX0_grow) nX0_grow k 12 84 [some (.inr (some 13)), some (.inl x1), some (.inl x2), some (.inl x3), some (.inl x4), some (.inl x5), some (.inl x6), some (.inl x7), some (.inl x8), some (.inl x9), some (.inl x10), d11, d12] [] M = (if (2 : Int32) ≤ x10 then k 74 [some (.inr (some 13)), some (.inl x1), some (.inl x2), some (.inl x3), some (.inl x4), some (.inl x5), some (.inl x6), some (.inl x7), some (.inl x8), some (.inl (x9 + (1 : Int32))), some (.inl x10), d11, d12] [] M else (mX7_cost [.inr (some 15), .inl ((x1 * (10 : Int32)) + x9), .inl x10] M).bind (fun r => k 106 [some (.inr (some 13)), some (.inl x1), some (.inl x2), some (.inl x3), some (.inl x4), some (.inl x5), some (.inl x6), some (.inl x7), some (.inl x8), some (.inl x9), some (.inl x10), d11, d12] (r.1.toList ++ []) r.2)) := fun k => rfl
  have h := h gX0_grow
  rw [mgs_gX0_grow] at h
  exact h
set_option maxRecDepth 100000 in
theorem eX0_grow_106 (M : MM) (x1 : Int32) (x2 : Int32) (x3 : Int32) (x4 : Int32) (x5 : Int32) (x6 : Int32) (x7 : Int32) (x8 : Int32) (x9 : Int32) (x10 : Int32) (d11 : Option AV) (d12 : Option AV) (xs0 : Int32) : gX0_grow 106 [some (.inr (some 13)), some (.inl x1), some (.inl x2), some (.inl x3), some (.inl x4), some (.inl x5), some (.inl x6), some (.inl x7), some (.inl x8), some (.inl x9), some (.inl x10), d11, d12] [.inl xs0] M = (if (1000000 : Int32) ≤ xs0 then gX0_grow 166 [some (.inr (some 13)), some (.inl x1), some (.inl x2), some (.inl x3), some (.inl x4), some (.inl x5), some (.inl x6), some (.inl x7), some (.inl x8), some (.inl x9), some (.inl x10), some (.inl xs0), d12] [] M else (mX7_key [.inr (some 15), .inl ((x1 * (10 : Int32)) + x9), .inl x10] M).bind (fun r => gX0_grow 131 [some (.inr (some 13)), some (.inl x1), some (.inl x2), some (.inl x3), some (.inl x4), some (.inl x5), some (.inl x6), some (.inl x7), some (.inl x8), some (.inl x9), some (.inl x10), some (.inl xs0), d12] (r.1.toList ++ []) r.2)) := by
  have h : ∀ k : KT, mgs (zlook tX0_grow) nX0_grow k 13 106 [some (.inr (some 13)), some (.inl x1), some (.inl x2), some (.inl x3), some (.inl x4), some (.inl x5), some (.inl x6), some (.inl x7), some (.inl x8), some (.inl x9), some (.inl x10), d11, d12] [.inl xs0] M = (if (1000000 : Int32) ≤ xs0 then k 166 [some (.inr (some 13)), some (.inl x1), some (.inl x2), some (.inl x3), some (.inl x4), some (.inl x5), some (.inl x6), some (.inl x7), some (.inl x8), some (.inl x9), some (.inl x10), some (.inl xs0), d12] [] M else (mX7_key [.inr (some 15), .inl ((x1 * (10 : Int32)) + x9), .inl x10] M).bind (fun r => k 131 [some (.inr (some 13)), some (.inl x1), some (.inl x2), some (.inl x3), some (.inl x4), some (.inl x5), some (.inl x6), some (.inl x7), some (.inl x8), some (.inl x9), some (.inl x10), some (.inl xs0), d12] (r.1.toList ++ []) r.2)) := fun k => rfl
  have h := h gX0_grow
  rw [mgs_gX0_grow] at h
  exact h
set_option maxRecDepth 100000 in
theorem eX0_grow_131 (M : MM) (x1 : Int32) (x2 : Int32) (x3 : Int32) (x4 : Int32) (x5 : Int32) (x6 : Int32) (x7 : Int32) (x8 : Int32) (x9 : Int32) (x10 : Int32) (x11 : Int32) (d12 : Option AV) (xs0 : Int32) : gX0_grow 131 [some (.inr (some 13)), some (.inl x1), some (.inl x2), some (.inl x3), some (.inl x4), some (.inl x5), some (.inl x6), some (.inl x7), some (.inl x8), some (.inl x9), some (.inl x10), some (.inl x11), d12] [.inl xs0] M = (mX7_offer [.inr (some 15), .inl ((x2 * (10 : Int32)) + ((x9 + x5) - (x9 + x5) / (10 : Int32) * (10 : Int32))), .inl (x11 + x4), .inl ((xs0 * x6) + x7)] M).bind (fun r => gX0_grow 166 [some (.inr (some 13)), some (.inl x1), some (.inl x2), some (.inl x3), some (.inl x4), some (.inl x5), some (.inl x6), some (.inl x7), some (.inl x8), some (.inl x9), some (.inl x10), some (.inl x11), some (.inl ((xs0 * x6) + x7))] (r.1.toList ++ []) r.2) := by
  have h : ∀ k : KT, mgs (zlook tX0_grow) nX0_grow k 21 131 [some (.inr (some 13)), some (.inl x1), some (.inl x2), some (.inl x3), some (.inl x4), some (.inl x5), some (.inl x6), some (.inl x7), some (.inl x8), some (.inl x9), some (.inl x10), some (.inl x11), d12] [.inl xs0] M = (mX7_offer [.inr (some 15), .inl ((x2 * (10 : Int32)) + ((x9 + x5) - (x9 + x5) / (10 : Int32) * (10 : Int32))), .inl (x11 + x4), .inl ((xs0 * x6) + x7)] M).bind (fun r => k 166 [some (.inr (some 13)), some (.inl x1), some (.inl x2), some (.inl x3), some (.inl x4), some (.inl x5), some (.inl x6), some (.inl x7), some (.inl x8), some (.inl x9), some (.inl x10), some (.inl x11), some (.inl ((xs0 * x6) + x7))] (r.1.toList ++ []) r.2) := fun k => rfl
  have h := h gX0_grow
  rw [mgs_gX0_grow] at h
  exact h
set_option maxRecDepth 100000 in
theorem eX0_grow_166 (M : MM) (x1 : Int32) (x2 : Int32) (x3 : Int32) (x4 : Int32) (x5 : Int32) (x6 : Int32) (x7 : Int32) (x8 : Int32) (x9 : Int32) (x10 : Int32) (x11 : Int32) (d12 : Option AV) : gX0_grow 166 [some (.inr (some 13)), some (.inl x1), some (.inl x2), some (.inl x3), some (.inl x4), some (.inl x5), some (.inl x6), some (.inl x7), some (.inl x8), some (.inl x9), some (.inl x10), some (.inl x11), d12] [] M = gX0_grow 84 [some (.inr (some 13)), some (.inl x1), some (.inl x2), some (.inl x3), some (.inl x4), some (.inl x5), some (.inl x6), some (.inl x7), some (.inl x8), some (.inl x9), some (.inl (x10 + (1 : Int32))), some (.inl x11), d12] [] M := by
  have h : ∀ k : KT, mgs (zlook tX0_grow) nX0_grow k 2 166 [some (.inr (some 13)), some (.inl x1), some (.inl x2), some (.inl x3), some (.inl x4), some (.inl x5), some (.inl x6), some (.inl x7), some (.inl x8), some (.inl x9), some (.inl x10), some (.inl x11), d12] [] M = k 84 [some (.inr (some 13)), some (.inl x1), some (.inl x2), some (.inl x3), some (.inl x4), some (.inl x5), some (.inl x6), some (.inl x7), some (.inl x8), some (.inl x9), some (.inl (x10 + (1 : Int32))), some (.inl x11), d12] [] M := fun k => rfl
  have h := h gX0_grow
  rw [mgs_gX0_grow] at h
  exact h
theorem iX0_grow (M : MM) (x1 : Int32) (x2 : Int32) (x3 : Int32) (x4 : Int32) : mX0_grow [.inr (some 13), .inl x1, .inl x2, .inl x3, .inl x4] M = gX0_grow 0 [some (.inr (some 13)), some (.inl x1), some (.inl x2), some (.inl x3), some (.inl x4), none, none, none, none, none, none, none, none] [] M := rfl
noncomputable def gX0_hearPlace : KT := mev (zlook tX0_hearPlace)
theorem ctX0_hearPlace : ∀ q ∈ tX0_hearPlace, Cont q.2 := by
  refine ccons (cont_push _ _) ?_
  refine ccons (cont_aload _ _) ?_
  refine ccons (cont_getI _ _ _) ?_
  refine ccons (cont_bin _ _) ?_
  refine ccons (cont_push _ _) ?_
  refine ccons (cont_bin _ _) ?_
  refine ccons (cont_istore _ _) ?_
  refine ccons (cont_iload _ _) ?_
  refine ccons (cont_if_lt _ _) ?_
  refine ccons (cont_push _ _) ?_
  refine ccons (cont_istore _ _) ?_
  refine ccons (cont_iload _ _) ?_
  refine ccons (cont_aload _ _) ?_
  refine ccons (cont_iload _ _) ?_
  refine ccons (cont_callV _ _ _ _) ?_
  refine ccons (cont_c_ge _ _) ?_
  refine ccons (cont_aload _ _) ?_
  refine ccons (cont_iload _ _) ?_
  refine ccons (cont_iload _ _) ?_
  refine ccons (cont_callV _ _ _ _) ?_
  refine ccons (cont_istore _ _) ?_
  refine ccons (cont_aload _ _) ?_
  refine ccons (cont_iload _ _) ?_
  refine ccons (cont_iload _ _) ?_
  refine ccons (cont_callV _ _ _ _) ?_
  refine ccons (cont_istore _ _) ?_
  refine ccons (cont_iload _ _) ?_
  refine ccons (cont_push _ _) ?_
  refine ccons (cont_c_eq _ _) ?_
  refine ccons (cont_aload _ _) ?_
  refine ccons (cont_iload _ _) ?_
  refine ccons (cont_iload _ _) ?_
  refine ccons (cont_iload _ _) ?_
  refine ccons (cont_aload _ _) ?_
  refine ccons (cont_iload _ _) ?_
  refine ccons (cont_iload _ _) ?_
  refine ccons (cont_callV _ _ _ _) ?_
  refine ccons (cont_iload _ _) ?_
  refine ccons (cont_bin _ _) ?_
  refine ccons (cont_callV _ _ _ _) ?_
  refine ccons (cont_iinc _ _ _) ?_
  refine ccons (cont_goto _) ?_
  refine ccons (cont_iinc _ _ _) ?_
  refine ccons (cont_goto _) ?_
  refine ccons (cont_vret) ?_
  exact cnil
theorem mgs_gX0_hearPlace (cut : List Nat) (n : Nat) : mgs (zlook tX0_hearPlace) cut gX0_hearPlace n = gX0_hearPlace := mgs_mev (ctab ctX0_hearPlace) cut n
def nX0_hearPlace : List Nat := [0, 10, 18, 25, 35, 45, 67, 72]
set_option maxRecDepth 100000 in
theorem eX0_hearPlace_0 (M : MM) (x2 : Int32) (x3 : Int32) : gX0_hearPlace 0 [some (.inr (some 13)), some (.inr (some 2)), some (.inl x2), some (.inl x3), none, none, none, none] [] M = gX0_hearPlace 10 [some (.inr (some 13)), some (.inr (some 2)), some (.inl x2), some (.inl x3), some (.inl (((2 : Int32) * (M 13 1)) - (1 : Int32))), none, none, none] [] M := by
  have h : ∀ k : KT, mgs (zlook tX0_hearPlace) nX0_hearPlace k 7 0 [some (.inr (some 13)), some (.inr (some 2)), some (.inl x2), some (.inl x3), none, none, none, none] [] M = k 10 [some (.inr (some 13)), some (.inr (some 2)), some (.inl x2), some (.inl x3), some (.inl (((2 : Int32) * (M 13 1)) - (1 : Int32))), none, none, none] [] M := fun k => rfl
  have h := h gX0_hearPlace
  rw [mgs_gX0_hearPlace] at h
  exact h
set_option maxRecDepth 100000 in
theorem eX0_hearPlace_10 (M : MM) (x2 : Int32) (x3 : Int32) (x4 : Int32) (d5 : Option AV) (d6 : Option AV) (d7 : Option AV) : gX0_hearPlace 10 [some (.inr (some 13)), some (.inr (some 2)), some (.inl x2), some (.inl x3), some (.inl x4), d5, d6, d7] [] M = (if x4 < 0 then some (none, M) else gX0_hearPlace 18 [some (.inr (some 13)), some (.inr (some 2)), some (.inl x2), some (.inl x3), some (.inl x4), some (.inl (0 : Int32)), d6, d7] [] M) := by
  have h : ∀ k : KT, mgs (zlook tX0_hearPlace) nX0_hearPlace k 4 10 [some (.inr (some 13)), some (.inr (some 2)), some (.inl x2), some (.inl x3), some (.inl x4), d5, d6, d7] [] M = (if x4 < 0 then some (none, M) else k 18 [some (.inr (some 13)), some (.inr (some 2)), some (.inl x2), some (.inl x3), some (.inl x4), some (.inl (0 : Int32)), d6, d7] [] M) := fun k => rfl
  have h := h gX0_hearPlace
  rw [mgs_gX0_hearPlace] at h
  exact h
set_option maxRecDepth 100000 in
theorem eX0_hearPlace_18 (M : MM) (x2 : Int32) (x3 : Int32) (x4 : Int32) (x5 : Int32) (d6 : Option AV) (d7 : Option AV) : gX0_hearPlace 18 [some (.inr (some 13)), some (.inr (some 2)), some (.inl x2), some (.inl x3), some (.inl x4), some (.inl x5), d6, d7] [] M = (mX2_wordsIn [.inr (some 2), .inl x2] M).bind (fun r => gX0_hearPlace 25 [some (.inr (some 13)), some (.inr (some 2)), some (.inl x2), some (.inl x3), some (.inl x4), some (.inl x5), d6, d7] (r.1.toList ++ [.inl x5]) r.2) := by
  have h : ∀ k : KT, mgs (zlook tX0_hearPlace) nX0_hearPlace k 4 18 [some (.inr (some 13)), some (.inr (some 2)), some (.inl x2), some (.inl x3), some (.inl x4), some (.inl x5), d6, d7] [] M = (mX2_wordsIn [.inr (some 2), .inl x2] M).bind (fun r => k 25 [some (.inr (some 13)), some (.inr (some 2)), some (.inl x2), some (.inl x3), some (.inl x4), some (.inl x5), d6, d7] (r.1.toList ++ [.inl x5]) r.2) := fun k => rfl
  have h := h gX0_hearPlace
  rw [mgs_gX0_hearPlace] at h
  exact h
set_option maxRecDepth 100000 in
theorem eX0_hearPlace_25 (M : MM) (x2 : Int32) (x3 : Int32) (x4 : Int32) (x5 : Int32) (d6 : Option AV) (d7 : Option AV) (xs0 : Int32) (xs1 : Int32) : gX0_hearPlace 25 [some (.inr (some 13)), some (.inr (some 2)), some (.inl x2), some (.inl x3), some (.inl x4), some (.inl x5), d6, d7] [.inl xs0, .inl xs1] M = (if xs0 ≤ xs1 then gX0_hearPlace 10 [some (.inr (some 13)), some (.inr (some 2)), some (.inl x2), some (.inl x3), some (.inl (x4 + (-1 : Int32))), some (.inl x5), d6, d7] [] M else (mX2_wordAt [.inr (some 2), .inl x2, .inl x5] M).bind (fun r => gX0_hearPlace 35 [some (.inr (some 13)), some (.inr (some 2)), some (.inl x2), some (.inl x3), some (.inl x4), some (.inl x5), d6, d7] (r.1.toList ++ []) r.2)) := by
  have h : ∀ k : KT, mgs (zlook tX0_hearPlace) nX0_hearPlace k 5 25 [some (.inr (some 13)), some (.inr (some 2)), some (.inl x2), some (.inl x3), some (.inl x4), some (.inl x5), d6, d7] [.inl xs0, .inl xs1] M = (if xs0 ≤ xs1 then k 10 [some (.inr (some 13)), some (.inr (some 2)), some (.inl x2), some (.inl x3), some (.inl (x4 + (-1 : Int32))), some (.inl x5), d6, d7] [] M else (mX2_wordAt [.inr (some 2), .inl x2, .inl x5] M).bind (fun r => k 35 [some (.inr (some 13)), some (.inr (some 2)), some (.inl x2), some (.inl x3), some (.inl x4), some (.inl x5), d6, d7] (r.1.toList ++ []) r.2)) := fun k => rfl
  have h := h gX0_hearPlace
  rw [mgs_gX0_hearPlace] at h
  exact h
set_option maxRecDepth 100000 in
theorem eX0_hearPlace_35 (M : MM) (x2 : Int32) (x3 : Int32) (x4 : Int32) (x5 : Int32) (d6 : Option AV) (d7 : Option AV) (xs0 : Int32) : gX0_hearPlace 35 [some (.inr (some 13)), some (.inr (some 2)), some (.inl x2), some (.inl x3), some (.inl x4), some (.inl x5), d6, d7] [.inl xs0] M = (mX0_standBehind [.inr (some 13), .inl x4, .inl xs0] M).bind (fun r => gX0_hearPlace 45 [some (.inr (some 13)), some (.inr (some 2)), some (.inl x2), some (.inl x3), some (.inl x4), some (.inl x5), some (.inl xs0), d7] (r.1.toList ++ []) r.2) := by
  have h : ∀ k : KT, mgs (zlook tX0_hearPlace) nX0_hearPlace k 5 35 [some (.inr (some 13)), some (.inr (some 2)), some (.inl x2), some (.inl x3), some (.inl x4), some (.inl x5), d6, d7] [.inl xs0] M = (mX0_standBehind [.inr (some 13), .inl x4, .inl xs0] M).bind (fun r => k 45 [some (.inr (some 13)), some (.inr (some 2)), some (.inl x2), some (.inl x3), some (.inl x4), some (.inl x5), some (.inl xs0), d7] (r.1.toList ++ []) r.2) := fun k => rfl
  have h := h gX0_hearPlace
  rw [mgs_gX0_hearPlace] at h
  exact h
set_option maxRecDepth 100000 in
theorem eX0_hearPlace_45 (M : MM) (x2 : Int32) (x3 : Int32) (x4 : Int32) (x5 : Int32) (x6 : Int32) (d7 : Option AV) (xs0 : Int32) : gX0_hearPlace 45 [some (.inr (some 13)), some (.inr (some 2)), some (.inl x2), some (.inl x3), some (.inl x4), some (.inl x5), some (.inl x6), d7] [.inl xs0] M = (if xs0 = (-1 : Int32) then gX0_hearPlace 72 [some (.inr (some 13)), some (.inr (some 2)), some (.inl x2), some (.inl x3), some (.inl x4), some (.inl x5), some (.inl x6), some (.inl xs0)] [] M else (mX2_costAt [.inr (some 2), .inl x2, .inl x5] M).bind (fun r => gX0_hearPlace 67 [some (.inr (some 13)), some (.inr (some 2)), some (.inl x2), some (.inl x3), some (.inl x4), some (.inl x5), some (.inl x6), some (.inl xs0)] (r.1.toList ++ [.inl x6, .inl xs0, .inl x4, .inr (some 13)]) r.2)) := by
  have h : ∀ k : KT, mgs (zlook tX0_hearPlace) nX0_hearPlace k 12 45 [some (.inr (some 13)), some (.inr (some 2)), some (.inl x2), some (.inl x3), some (.inl x4), some (.inl x5), some (.inl x6), d7] [.inl xs0] M = (if xs0 = (-1 : Int32) then k 72 [some (.inr (some 13)), some (.inr (some 2)), some (.inl x2), some (.inl x3), some (.inl x4), some (.inl x5), some (.inl x6), some (.inl xs0)] [] M else (mX2_costAt [.inr (some 2), .inl x2, .inl x5] M).bind (fun r => k 67 [some (.inr (some 13)), some (.inr (some 2)), some (.inl x2), some (.inl x3), some (.inl x4), some (.inl x5), some (.inl x6), some (.inl xs0)] (r.1.toList ++ [.inl x6, .inl xs0, .inl x4, .inr (some 13)]) r.2)) := fun k => rfl
  have h := h gX0_hearPlace
  rw [mgs_gX0_hearPlace] at h
  exact h
set_option maxRecDepth 100000 in
theorem eX0_hearPlace_67 (M : MM) (x2 : Int32) (x3 : Int32) (x4 : Int32) (x5 : Int32) (x6 : Int32) (x7 : Int32) (xs0 : Int32) (xs1 : Int32) (xs2 : Int32) (xs3 : Int32) : gX0_hearPlace 67 [some (.inr (some 13)), some (.inr (some 2)), some (.inl x2), some (.inl x3), some (.inl x4), some (.inl x5), some (.inl x6), some (.inl x7)] [.inl xs0, .inl xs1, .inl xs2, .inl xs3, .inr (some 13)] M = (mX0_grow [.inr (some 13), .inl xs3, .inl xs2, .inl xs1, .inl (xs0 - x3)] M).bind (fun r => gX0_hearPlace 72 [some (.inr (some 13)), some (.inr (some 2)), some (.inl x2), some (.inl x3), some (.inl x4), some (.inl x5), some (.inl x6), some (.inl x7)] (r.1.toList ++ []) r.2) := by
  have h : ∀ k : KT, mgs (zlook tX0_hearPlace) nX0_hearPlace k 3 67 [some (.inr (some 13)), some (.inr (some 2)), some (.inl x2), some (.inl x3), some (.inl x4), some (.inl x5), some (.inl x6), some (.inl x7)] [.inl xs0, .inl xs1, .inl xs2, .inl xs3, .inr (some 13)] M = (mX0_grow [.inr (some 13), .inl xs3, .inl xs2, .inl xs1, .inl (xs0 - x3)] M).bind (fun r => k 72 [some (.inr (some 13)), some (.inr (some 2)), some (.inl x2), some (.inl x3), some (.inl x4), some (.inl x5), some (.inl x6), some (.inl x7)] (r.1.toList ++ []) r.2) := fun k => rfl
  have h := h gX0_hearPlace
  rw [mgs_gX0_hearPlace] at h
  exact h
set_option maxRecDepth 100000 in
theorem eX0_hearPlace_72 (M : MM) (x2 : Int32) (x3 : Int32) (x4 : Int32) (x5 : Int32) (x6 : Int32) (x7 : Int32) : gX0_hearPlace 72 [some (.inr (some 13)), some (.inr (some 2)), some (.inl x2), some (.inl x3), some (.inl x4), some (.inl x5), some (.inl x6), some (.inl x7)] [] M = gX0_hearPlace 18 [some (.inr (some 13)), some (.inr (some 2)), some (.inl x2), some (.inl x3), some (.inl x4), some (.inl (x5 + (1 : Int32))), some (.inl x6), some (.inl x7)] [] M := by
  have h : ∀ k : KT, mgs (zlook tX0_hearPlace) nX0_hearPlace k 2 72 [some (.inr (some 13)), some (.inr (some 2)), some (.inl x2), some (.inl x3), some (.inl x4), some (.inl x5), some (.inl x6), some (.inl x7)] [] M = k 18 [some (.inr (some 13)), some (.inr (some 2)), some (.inl x2), some (.inl x3), some (.inl x4), some (.inl (x5 + (1 : Int32))), some (.inl x6), some (.inl x7)] [] M := fun k => rfl
  have h := h gX0_hearPlace
  rw [mgs_gX0_hearPlace] at h
  exact h
theorem iX0_hearPlace (M : MM) (x2 : Int32) (x3 : Int32) : mX0_hearPlace [.inr (some 13), .inr (some 2), .inl x2, .inl x3] M = gX0_hearPlace 0 [some (.inr (some 13)), some (.inr (some 2)), some (.inl x2), some (.inl x3), none, none, none, none] [] M := rfl
noncomputable def gX0_cost : KT := mev (zlook tX0_cost)
theorem ctX0_cost : ∀ q ∈ tX0_cost, Cont q.2 := by
  refine ccons (cont_aload _ _) ?_
  refine ccons (cont_getR _ _ _) ?_
  refine ccons (cont_push _ _) ?_
  refine ccons (cont_aload _ _) ?_
  refine ccons (cont_getI _ _ _) ?_
  refine ccons (cont_bin _ _) ?_
  refine ccons (cont_push _ _) ?_
  refine ccons (cont_bin _ _) ?_
  refine ccons (cont_iload _ _) ?_
  refine ccons (cont_callV _ _ _ _) ?_
  refine ccons (cont_iret) ?_
  exact cnil
theorem mgs_gX0_cost (cut : List Nat) (n : Nat) : mgs (zlook tX0_cost) cut gX0_cost n = gX0_cost := mgs_mev (ctab ctX0_cost) cut n
def nX0_cost : List Nat := [0, 17]
set_option maxRecDepth 100000 in
theorem eX0_cost_0 (M : MM) (x1 : Int32) : gX0_cost 0 [some (.inr (some 13)), some (.inl x1)] [] M = (mX7_cost [.inr (some 15), .inl (((2 : Int32) * (M 13 1)) * (10 : Int32)), .inl x1] M).bind (fun r => gX0_cost 17 [some (.inr (some 13)), some (.inl x1)] (r.1.toList ++ []) r.2) := by
  have h : ∀ k : KT, mgs (zlook tX0_cost) nX0_cost k 10 0 [some (.inr (some 13)), some (.inl x1)] [] M = (mX7_cost [.inr (some 15), .inl (((2 : Int32) * (M 13 1)) * (10 : Int32)), .inl x1] M).bind (fun r => k 17 [some (.inr (some 13)), some (.inl x1)] (r.1.toList ++ []) r.2) := fun k => rfl
  have h := h gX0_cost
  rw [mgs_gX0_cost] at h
  exact h
set_option maxRecDepth 100000 in
theorem eX0_cost_17 (M : MM) (x1 : Int32) (xs0 : Int32) : gX0_cost 17 [some (.inr (some 13)), some (.inl x1)] [.inl xs0] M = some ((some (.inl xs0)), M) := by
  have h : ∀ k : KT, mgs (zlook tX0_cost) nX0_cost k 1 17 [some (.inr (some 13)), some (.inl x1)] [.inl xs0] M = some ((some (.inl xs0)), M) := fun k => rfl
  have h := h gX0_cost
  rw [mgs_gX0_cost] at h
  exact h
theorem iX0_cost (M : MM) (x1 : Int32) : mX0_cost [.inr (some 13), .inl x1] M = gX0_cost 0 [some (.inr (some 13)), some (.inl x1)] [] M := rfl
noncomputable def gX0_value : KT := mev (zlook tX0_value)
theorem ctX0_value : ∀ q ∈ tX0_value, Cont q.2 := by
  refine ccons (cont_aload _ _) ?_
  refine ccons (cont_getR _ _ _) ?_
  refine ccons (cont_push _ _) ?_
  refine ccons (cont_aload _ _) ?_
  refine ccons (cont_getI _ _ _) ?_
  refine ccons (cont_bin _ _) ?_
  refine ccons (cont_push _ _) ?_
  refine ccons (cont_bin _ _) ?_
  refine ccons (cont_iload _ _) ?_
  refine ccons (cont_callV _ _ _ _) ?_
  refine ccons (cont_iret) ?_
  exact cnil
theorem mgs_gX0_value (cut : List Nat) (n : Nat) : mgs (zlook tX0_value) cut gX0_value n = gX0_value := mgs_mev (ctab ctX0_value) cut n
def nX0_value : List Nat := [0, 17]
set_option maxRecDepth 100000 in
theorem eX0_value_0 (M : MM) (x1 : Int32) : gX0_value 0 [some (.inr (some 13)), some (.inl x1)] [] M = (mX7_key [.inr (some 15), .inl (((2 : Int32) * (M 13 1)) * (10 : Int32)), .inl x1] M).bind (fun r => gX0_value 17 [some (.inr (some 13)), some (.inl x1)] (r.1.toList ++ []) r.2) := by
  have h : ∀ k : KT, mgs (zlook tX0_value) nX0_value k 10 0 [some (.inr (some 13)), some (.inl x1)] [] M = (mX7_key [.inr (some 15), .inl (((2 : Int32) * (M 13 1)) * (10 : Int32)), .inl x1] M).bind (fun r => k 17 [some (.inr (some 13)), some (.inl x1)] (r.1.toList ++ []) r.2) := fun k => rfl
  have h := h gX0_value
  rw [mgs_gX0_value] at h
  exact h
set_option maxRecDepth 100000 in
theorem eX0_value_17 (M : MM) (x1 : Int32) (xs0 : Int32) : gX0_value 17 [some (.inr (some 13)), some (.inl x1)] [.inl xs0] M = some ((some (.inl xs0)), M) := by
  have h : ∀ k : KT, mgs (zlook tX0_value) nX0_value k 1 17 [some (.inr (some 13)), some (.inl x1)] [.inl xs0] M = some ((some (.inl xs0)), M) := fun k => rfl
  have h := h gX0_value
  rw [mgs_gX0_value] at h
  exact h
theorem iX0_value (M : MM) (x1 : Int32) : mX0_value [.inr (some 13), .inl x1] M = gX0_value 0 [some (.inr (some 13)), some (.inl x1)] [] M := rfl
noncomputable def gX1_slotAt : KT := mev (zlook tX1_slotAt)
theorem ctX1_slotAt : ∀ q ∈ tX1_slotAt, Cont q.2 := by
  refine ccons (cont_iload _ _) ?_
  refine ccons (cont_if_lt _ _) ?_
  refine ccons (cont_iload _ _) ?_
  refine ccons (cont_aload _ _) ?_
  refine ccons (cont_getI _ _ _) ?_
  refine ccons (cont_c_ge _ _) ?_
  refine ccons (cont_iload _ _) ?_
  refine ccons (cont_aload _ _) ?_
  refine ccons (cont_getR _ _ _) ?_
  refine ccons (cont_len _) ?_
  refine ccons (cont_c_ge _ _) ?_
  refine ccons (cont_aload _ _) ?_
  refine ccons (cont_getR _ _ _) ?_
  refine ccons (cont_iload _ _) ?_
  refine ccons (cont_aald _) ?_
  refine ccons (cont_goto _) ?_
  refine ccons (cont_push _ _) ?_
  refine ccons (cont_aret) ?_
  exact cnil
theorem mgs_gX1_slotAt (cut : List Nat) (n : Nat) : mgs (zlook tX1_slotAt) cut gX1_slotAt n = gX1_slotAt := mgs_mev (ctab ctX1_slotAt) cut n
def nX1_slotAt : List Nat := [0]
set_option maxRecDepth 100000 in
theorem eX1_slotAt_0 (M : MM) (x1 : Int32) : gX1_slotAt 0 [some (.inr (some 1)), some (.inl x1)] [] M = (if x1 < 0 then some ((some (.inr none)), M) else (if (M 1 1) ≤ x1 then some ((some (.inr none)), M) else (if (12 : Int32) ≤ x1 then some ((some (.inr none)), M) else (if x1 < 0 ∨ 12 ≤ x1.toNatClampNeg then none else some ((some (.inr (some (x1.toNatClampNeg + 44)))), M))))) := by
  have h : ∀ k : KT, mgs (zlook tX1_slotAt) nX1_slotAt k 17 0 [some (.inr (some 1)), some (.inl x1)] [] M = (if x1 < 0 then some ((some (.inr none)), M) else (if (M 1 1) ≤ x1 then some ((some (.inr none)), M) else (if (12 : Int32) ≤ x1 then some ((some (.inr none)), M) else (if x1 < 0 ∨ 12 ≤ x1.toNatClampNeg then none else some ((some (.inr (some (x1.toNatClampNeg + 44)))), M))))) := fun k => rfl
  have h := h gX1_slotAt
  rw [mgs_gX1_slotAt] at h
  exact h
theorem iX1_slotAt (M : MM) (x1 : Int32) : mX1_slotAt [.inr (some 1), .inl x1] M = gX1_slotAt 0 [some (.inr (some 1)), some (.inl x1)] [] M := rfl
noncomputable def gX1_numberOf : KT := mev (zlook tX1_numberOf)
theorem ctX1_numberOf : ∀ q ∈ tX1_numberOf, Cont q.2 := by
  refine ccons (cont_push _ _) ?_
  refine ccons (cont_istore _ _) ?_
  refine ccons (cont_iload _ _) ?_
  refine ccons (cont_aload _ _) ?_
  refine ccons (cont_getI _ _ _) ?_
  refine ccons (cont_c_ge _ _) ?_
  refine ccons (cont_iload _ _) ?_
  refine ccons (cont_aload _ _) ?_
  refine ccons (cont_getR _ _ _) ?_
  refine ccons (cont_len _) ?_
  refine ccons (cont_c_ge _ _) ?_
  refine ccons (cont_aload _ _) ?_
  refine ccons (cont_getR _ _ _) ?_
  refine ccons (cont_iload _ _) ?_
  refine ccons (cont_aald _) ?_
  refine ccons (cont_getI _ _ _) ?_
  refine ccons (cont_iload _ _) ?_
  refine ccons (cont_c_ne _ _) ?_
  refine ccons (cont_iload _ _) ?_
  refine ccons (cont_iret) ?_
  refine ccons (cont_iinc _ _ _) ?_
  refine ccons (cont_goto _) ?_
  refine ccons (cont_push _ _) ?_
  refine ccons (cont_iret) ?_
  exact cnil
theorem mgs_gX1_numberOf (cut : List Nat) (n : Nat) : mgs (zlook tX1_numberOf) cut gX1_numberOf n = gX1_numberOf := mgs_mev (ctab ctX1_numberOf) cut n
def nX1_numberOf : List Nat := [0, 2]
set_option maxRecDepth 100000 in
theorem eX1_numberOf_0 (M : MM) (x1 : Int32) : gX1_numberOf 0 [some (.inr (some 1)), some (.inl x1), none] [] M = gX1_numberOf 2 [some (.inr (some 1)), some (.inl x1), some (.inl (0 : Int32))] [] M := by
  have h : ∀ k : KT, mgs (zlook tX1_numberOf) nX1_numberOf k 2 0 [some (.inr (some 1)), some (.inl x1), none] [] M = k 2 [some (.inr (some 1)), some (.inl x1), some (.inl (0 : Int32))] [] M := fun k => rfl
  have h := h gX1_numberOf
  rw [mgs_gX1_numberOf] at h
  exact h
set_option maxRecDepth 100000 in
theorem eX1_numberOf_2 (M : MM) (x1 : Int32) (x2 : Int32) : gX1_numberOf 2 [some (.inr (some 1)), some (.inl x1), some (.inl x2)] [] M = (if (M 1 1) ≤ x2 then some ((some (.inl (-1 : Int32))), M) else (if (12 : Int32) ≤ x2 then some ((some (.inl (-1 : Int32))), M) else (if x2 < 0 ∨ 12 ≤ x2.toNatClampNeg then none else (if zkd (x2.toNatClampNeg + 44) = 5 then (if (M (x2.toNatClampNeg + 44) 0) = x1 then some ((some (.inl x2)), M) else gX1_numberOf 2 [some (.inr (some 1)), some (.inl x1), some (.inl (x2 + (1 : Int32)))] [] M) else none)))) := by
  have h : ∀ k : KT, mgs (zlook tX1_numberOf) nX1_numberOf k 18 2 [some (.inr (some 1)), some (.inl x1), some (.inl x2)] [] M = (if (M 1 1) ≤ x2 then some ((some (.inl (-1 : Int32))), M) else (if (12 : Int32) ≤ x2 then some ((some (.inl (-1 : Int32))), M) else (if x2 < 0 ∨ 12 ≤ x2.toNatClampNeg then none else (if zkd (x2.toNatClampNeg + 44) = 5 then (if (M (x2.toNatClampNeg + 44) 0) = x1 then some ((some (.inl x2)), M) else k 2 [some (.inr (some 1)), some (.inl x1), some (.inl (x2 + (1 : Int32)))] [] M) else none)))) := fun k => rfl
  have h := h gX1_numberOf
  rw [mgs_gX1_numberOf] at h
  exact h
theorem iX1_numberOf (M : MM) (x1 : Int32) : mX1_numberOf [.inr (some 1), .inl x1] M = gX1_numberOf 0 [some (.inr (some 1)), some (.inl x1), none] [] M := rfl
noncomputable def gX9_isName : KT := mev (zlook tX9_isName)
theorem ctX9_isName : ∀ q ∈ tX9_isName, Cont q.2 := by
  refine ccons (cont_iload _ _) ?_
  refine ccons (cont_push _ _) ?_
  refine ccons (cont_c_lt _ _) ?_
  refine ccons (cont_iload _ _) ?_
  refine ccons (cont_push _ _) ?_
  refine ccons (cont_c_gt _ _) ?_
  refine ccons (cont_push _ _) ?_
  refine ccons (cont_goto _) ?_
  refine ccons (cont_push _ _) ?_
  refine ccons (cont_zret) ?_
  exact cnil
theorem mgs_gX9_isName (cut : List Nat) (n : Nat) : mgs (zlook tX9_isName) cut gX9_isName n = gX9_isName := mgs_mev (ctab ctX9_isName) cut n
def nX9_isName : List Nat := [0]
set_option maxRecDepth 100000 in
theorem eX9_isName_0 (M : MM) (x0 : Int32) : gX9_isName 0 [some (.inl x0)] [] M = (if x0 < (20 : Int32) then some ((some (.inl (0 : Int32))), M) else (if (59 : Int32) < x0 then some ((some (.inl (0 : Int32))), M) else some ((some (.inl (1 : Int32))), M))) := by
  have h : ∀ k : KT, mgs (zlook tX9_isName) nX9_isName k 9 0 [some (.inl x0)] [] M = (if x0 < (20 : Int32) then some ((some (.inl (0 : Int32))), M) else (if (59 : Int32) < x0 then some ((some (.inl (0 : Int32))), M) else some ((some (.inl (1 : Int32))), M))) := fun k => rfl
  have h := h gX9_isName
  rw [mgs_gX9_isName] at h
  exact h
theorem iX9_isName (M : MM) (x0 : Int32) : mX9_isName [.inl x0] M = gX9_isName 0 [some (.inl x0)] [] M := rfl
noncomputable def gX1_canName : KT := mev (zlook tX1_canName)
theorem ctX1_canName : ∀ q ∈ tX1_canName, Cont q.2 := by
  refine ccons (cont_aload _ _) ?_
  refine ccons (cont_getI _ _ _) ?_
  refine ccons (cont_aload _ _) ?_
  refine ccons (cont_getR _ _ _) ?_
  refine ccons (cont_len _) ?_
  refine ccons (cont_c_ge _ _) ?_
  refine ccons (cont_iload _ _) ?_
  refine ccons (cont_callS _ _ _) ?_
  refine ccons (cont_if_eq _ _) ?_
  refine ccons (cont_aload _ _) ?_
  refine ccons (cont_iload _ _) ?_
  refine ccons (cont_callV _ _ _ _) ?_
  refine ccons (cont_push _ _) ?_
  refine ccons (cont_c_ne _ _) ?_
  refine ccons (cont_push _ _) ?_
  refine ccons (cont_goto _) ?_
  refine ccons (cont_push _ _) ?_
  refine ccons (cont_zret) ?_
  exact cnil
theorem mgs_gX1_canName (cut : List Nat) (n : Nat) : mgs (zlook tX1_canName) cut gX1_canName n = gX1_canName := mgs_mev (ctab ctX1_canName) cut n
def nX1_canName : List Nat := [0, 16, 24]
set_option maxRecDepth 100000 in
theorem eX1_canName_0 (M : MM) (x1 : Int32) : gX1_canName 0 [some (.inr (some 1)), some (.inl x1)] [] M = (if (12 : Int32) ≤ (M 1 1) then some ((some (.inl (0 : Int32))), M) else (mX9_isName [.inl x1] M).bind (fun r => gX1_canName 16 [some (.inr (some 1)), some (.inl x1)] (r.1.toList ++ []) r.2)) := by
  have h : ∀ k : KT, mgs (zlook tX1_canName) nX1_canName k 8 0 [some (.inr (some 1)), some (.inl x1)] [] M = (if (12 : Int32) ≤ (M 1 1) then some ((some (.inl (0 : Int32))), M) else (mX9_isName [.inl x1] M).bind (fun r => k 16 [some (.inr (some 1)), some (.inl x1)] (r.1.toList ++ []) r.2)) := fun k => rfl
  have h := h gX1_canName
  rw [mgs_gX1_canName] at h
  exact h
set_option maxRecDepth 100000 in
theorem eX1_canName_16 (M : MM) (x1 : Int32) (xs0 : Int32) : gX1_canName 16 [some (.inr (some 1)), some (.inl x1)] [.inl xs0] M = (if xs0 = 0 then some ((some (.inl (0 : Int32))), M) else (mX1_numberOf [.inr (some 1), .inl x1] M).bind (fun r => gX1_canName 24 [some (.inr (some 1)), some (.inl x1)] (r.1.toList ++ []) r.2)) := by
  have h : ∀ k : KT, mgs (zlook tX1_canName) nX1_canName k 4 16 [some (.inr (some 1)), some (.inl x1)] [.inl xs0] M = (if xs0 = 0 then some ((some (.inl (0 : Int32))), M) else (mX1_numberOf [.inr (some 1), .inl x1] M).bind (fun r => k 24 [some (.inr (some 1)), some (.inl x1)] (r.1.toList ++ []) r.2)) := fun k => rfl
  have h := h gX1_canName
  rw [mgs_gX1_canName] at h
  exact h
set_option maxRecDepth 100000 in
theorem eX1_canName_24 (M : MM) (x1 : Int32) (xs0 : Int32) : gX1_canName 24 [some (.inr (some 1)), some (.inl x1)] [.inl xs0] M = (if xs0 = (-1 : Int32) then some ((some (.inl (1 : Int32))), M) else some ((some (.inl (0 : Int32))), M)) := by
  have h : ∀ k : KT, mgs (zlook tX1_canName) nX1_canName k 5 24 [some (.inr (some 1)), some (.inl x1)] [.inl xs0] M = (if xs0 = (-1 : Int32) then some ((some (.inl (1 : Int32))), M) else some ((some (.inl (0 : Int32))), M)) := fun k => rfl
  have h := h gX1_canName
  rw [mgs_gX1_canName] at h
  exact h
theorem iX1_canName (M : MM) (x1 : Int32) : mX1_canName [.inr (some 1), .inl x1] M = gX1_canName 0 [some (.inr (some 1)), some (.inl x1)] [] M := rfl
noncomputable def gX5_isMetBy : KT := mev (zlook tX5_isMetBy)
theorem ctX5_isMetBy : ∀ q ∈ tX5_isMetBy, Cont q.2 := by
  refine ccons (cont_aload _ _) ?_
  refine ccons (cont_null _ _) ?_
  refine ccons (cont_aload _ _) ?_
  refine ccons (cont_getI _ _ _) ?_
  refine ccons (cont_if_eq _ _) ?_
  refine ccons (cont_aload _ _) ?_
  refine ccons (cont_getI _ _ _) ?_
  refine ccons (cont_if_eq _ _) ?_
  refine ccons (cont_aload _ _) ?_
  refine ccons (cont_getI _ _ _) ?_
  refine ccons (cont_aload _ _) ?_
  refine ccons (cont_getI _ _ _) ?_
  refine ccons (cont_c_ne _ _) ?_
  refine ccons (cont_push _ _) ?_
  refine ccons (cont_goto _) ?_
  refine ccons (cont_push _ _) ?_
  refine ccons (cont_zret) ?_
  exact cnil
theorem mgs_gX5_isMetBy (cut : List Nat) (n : Nat) : mgs (zlook tX5_isMetBy) cut gX5_isMetBy n = gX5_isMetBy := mgs_mev (ctab ctX5_isMetBy) cut n
def nX5_isMetBy : List Nat := [0]
set_option maxRecDepth 100000 in
theorem eX5_isMetBy_0 (M : MM) (c : Nat) (r1 : Option Nat) : gX5_isMetBy 0 [some (.inr (some c)), some (.inr r1)] [] M = (match r1 with | some _q1 => (match r1 with | some q2 => (if zkd q2 = 5 then (if (M q2 8) = 0 then some ((some (.inl (0 : Int32))), M) else (match r1 with | some q3 => (if zkd q3 = 5 then (if (M q3 9) = 0 then some ((some (.inl (0 : Int32))), M) else (match r1 with | some q4 => (if zkd q4 = 5 then (if zkd c = 5 then (if (M q4 10) = (M c 7) then some ((some (.inl (1 : Int32))), M) else some ((some (.inl (0 : Int32))), M)) else none) else none) | none => none)) else none) | none => none)) else none) | none => none) | none => some ((some (.inl (0 : Int32))), M)) := by
  have h : ∀ k : KT, mgs (zlook tX5_isMetBy) nX5_isMetBy k 16 0 [some (.inr (some c)), some (.inr r1)] [] M = (match r1 with | some _q1 => (match r1 with | some q2 => (if zkd q2 = 5 then (if (M q2 8) = 0 then some ((some (.inl (0 : Int32))), M) else (match r1 with | some q3 => (if zkd q3 = 5 then (if (M q3 9) = 0 then some ((some (.inl (0 : Int32))), M) else (match r1 with | some q4 => (if zkd q4 = 5 then (if zkd c = 5 then (if (M q4 10) = (M c 7) then some ((some (.inl (1 : Int32))), M) else some ((some (.inl (0 : Int32))), M)) else none) else none) | none => none)) else none) | none => none)) else none) | none => none) | none => some ((some (.inl (0 : Int32))), M)) := by intro k; cases r1 <;> rfl
  have h := h gX5_isMetBy
  rw [mgs_gX5_isMetBy] at h
  exact h
theorem iX5_isMetBy (M : MM) (c : Nat) (r1 : Option Nat) : mX5_isMetBy [.inr (some c), .inr r1] M = gX5_isMetBy 0 [some (.inr (some c)), some (.inr r1)] [] M := rfl
noncomputable def gX1_reckonNeeds : KT := mev (zlook tX1_reckonNeeds)
theorem ctX1_reckonNeeds : ∀ q ∈ tX1_reckonNeeds, Cont q.2 := by
  refine ccons (cont_push _ _) ?_
  refine ccons (cont_istore _ _) ?_
  refine ccons (cont_push _ _) ?_
  refine ccons (cont_istore _ _) ?_
  refine ccons (cont_iload _ _) ?_
  refine ccons (cont_aload _ _) ?_
  refine ccons (cont_getI _ _ _) ?_
  refine ccons (cont_c_ge _ _) ?_
  refine ccons (cont_iload _ _) ?_
  refine ccons (cont_aload _ _) ?_
  refine ccons (cont_getR _ _ _) ?_
  refine ccons (cont_len _) ?_
  refine ccons (cont_c_ge _ _) ?_
  refine ccons (cont_aload _ _) ?_
  refine ccons (cont_getR _ _ _) ?_
  refine ccons (cont_iload _ _) ?_
  refine ccons (cont_aald _) ?_
  refine ccons (cont_astore _ _) ?_
  refine ccons (cont_aload _ _) ?_
  refine ccons (cont_aload _ _) ?_
  refine ccons (cont_getI _ _ _) ?_
  refine ccons (cont_push _ _) ?_
  refine ccons (cont_c_eq _ _) ?_
  refine ccons (cont_aload _ _) ?_
  refine ccons (cont_aload _ _) ?_
  refine ccons (cont_aload _ _) ?_
  refine ccons (cont_getI _ _ _) ?_
  refine ccons (cont_callV _ _ _ _) ?_
  refine ccons (cont_callV _ _ _ _) ?_
  refine ccons (cont_if_eq _ _) ?_
  refine ccons (cont_push _ _) ?_
  refine ccons (cont_goto _) ?_
  refine ccons (cont_push _ _) ?_
  refine ccons (cont_putZ _ _ _) ?_
  refine ccons (cont_aload _ _) ?_
  refine ccons (cont_getI _ _ _) ?_
  refine ccons (cont_if_eq _ _) ?_
  refine ccons (cont_aload _ _) ?_
  refine ccons (cont_getI _ _ _) ?_
  refine ccons (cont_if_ne _ _) ?_
  refine ccons (cont_aload _ _) ?_
  refine ccons (cont_push _ _) ?_
  refine ccons (cont_putZ _ _ _) ?_
  refine ccons (cont_aload _ _) ?_
  refine ccons (cont_push _ _) ?_
  refine ccons (cont_putZ _ _ _) ?_
  refine ccons (cont_iinc _ _ _) ?_
  refine ccons (cont_iinc _ _ _) ?_
  refine ccons (cont_goto _) ?_
  refine ccons (cont_iload _ _) ?_
  refine ccons (cont_iret) ?_
  exact cnil
theorem mgs_gX1_reckonNeeds (cut : List Nat) (n : Nat) : mgs (zlook tX1_reckonNeeds) cut gX1_reckonNeeds n = gX1_reckonNeeds := mgs_mev (ctab ctX1_reckonNeeds) cut n
def nX1_reckonNeeds : List Nat := [0, 4, 46, 49, 57]
set_option maxRecDepth 100000 in
theorem eX1_reckonNeeds_0 (M : MM) : gX1_reckonNeeds 0 [some (.inr (some 1)), none, none, none] [] M = gX1_reckonNeeds 4 [some (.inr (some 1)), some (.inl (0 : Int32)), some (.inl (0 : Int32)), none] [] M := by
  have h : ∀ k : KT, mgs (zlook tX1_reckonNeeds) nX1_reckonNeeds k 4 0 [some (.inr (some 1)), none, none, none] [] M = k 4 [some (.inr (some 1)), some (.inl (0 : Int32)), some (.inl (0 : Int32)), none] [] M := fun k => rfl
  have h := h gX1_reckonNeeds
  rw [mgs_gX1_reckonNeeds] at h
  exact h
set_option maxRecDepth 100000 in
theorem eX1_reckonNeeds_4 (M : MM) (x1 : Int32) (x2 : Int32) (d3 : Option AV) : gX1_reckonNeeds 4 [some (.inr (some 1)), some (.inl x1), some (.inl x2), d3] [] M = (if (M 1 1) ≤ x2 then some ((some (.inl x1)), M) else (if (12 : Int32) ≤ x2 then some ((some (.inl x1)), M) else (if x2 < 0 ∨ 12 ≤ x2.toNatClampNeg then none else (if zkd (x2.toNatClampNeg + 44) = 5 then (if (M (x2.toNatClampNeg + 44) 6) = (-1 : Int32) then gX1_reckonNeeds 57 [some (.inr (some 1)), some (.inl x1), some (.inl x2), some (.inr (some (x2.toNatClampNeg + 44)))] [.inl (1 : Int32), .inr (some (x2.toNatClampNeg + 44))] M else (if zkd (x2.toNatClampNeg + 44) = 5 then (mX1_slotAt [.inr (some 1), .inl (M (x2.toNatClampNeg + 44) 6)] M).bind (fun r => gX1_reckonNeeds 46 [some (.inr (some 1)), some (.inl x1), some (.inl x2), some (.inr (some (x2.toNatClampNeg + 44)))] (r.1.toList ++ [.inr (some (x2.toNatClampNeg + 44)), .inr (some (x2.toNatClampNeg + 44))]) r.2) else none)) else none)))) := by
  have h : ∀ k : KT, mgs (zlook tX1_reckonNeeds) nX1_reckonNeeds k 24 4 [some (.inr (some 1)), some (.inl x1), some (.inl x2), d3] [] M = (if (M 1 1) ≤ x2 then some ((some (.inl x1)), M) else (if (12 : Int32) ≤ x2 then some ((some (.inl x1)), M) else (if x2 < 0 ∨ 12 ≤ x2.toNatClampNeg then none else (if zkd (x2.toNatClampNeg + 44) = 5 then (if (M (x2.toNatClampNeg + 44) 6) = (-1 : Int32) then k 57 [some (.inr (some 1)), some (.inl x1), some (.inl x2), some (.inr (some (x2.toNatClampNeg + 44)))] [.inl (1 : Int32), .inr (some (x2.toNatClampNeg + 44))] M else (if zkd (x2.toNatClampNeg + 44) = 5 then (mX1_slotAt [.inr (some 1), .inl (M (x2.toNatClampNeg + 44) 6)] M).bind (fun r => k 46 [some (.inr (some 1)), some (.inl x1), some (.inl x2), some (.inr (some (x2.toNatClampNeg + 44)))] (r.1.toList ++ [.inr (some (x2.toNatClampNeg + 44)), .inr (some (x2.toNatClampNeg + 44))]) r.2) else none)) else none)))) := fun k => rfl
  have h := h gX1_reckonNeeds
  rw [mgs_gX1_reckonNeeds] at h
  exact h
set_option maxRecDepth 100000 in
theorem eX1_reckonNeeds_46 (M : MM) (x1 : Int32) (x2 : Int32) (r3 : Option Nat) (rs0 : Option Nat) (rs1 : Option Nat) (rs2 : Option Nat) : gX1_reckonNeeds 46 [some (.inr (some 1)), some (.inl x1), some (.inl x2), some (.inr r3)] [.inr rs0, .inr rs1, .inr rs2] M = (match rs1 with | some q1 => (if zkd q1 = 5 then (mX5_isMetBy [.inr (some q1), .inr rs0] M).bind (fun r => gX1_reckonNeeds 49 [some (.inr (some 1)), some (.inl x1), some (.inl x2), some (.inr r3)] (r.1.toList ++ [.inr rs2]) r.2) else none) | none => none) := by
  have h : ∀ k : KT, mgs (zlook tX1_reckonNeeds) nX1_reckonNeeds k 1 46 [some (.inr (some 1)), some (.inl x1), some (.inl x2), some (.inr r3)] [.inr rs0, .inr rs1, .inr rs2] M = (match rs1 with | some q1 => (if zkd q1 = 5 then (mX5_isMetBy [.inr (some q1), .inr rs0] M).bind (fun r => k 49 [some (.inr (some 1)), some (.inl x1), some (.inl x2), some (.inr r3)] (r.1.toList ++ [.inr rs2]) r.2) else none) | none => none) := by intro k; cases rs1 <;> rfl
  have h := h gX1_reckonNeeds
  rw [mgs_gX1_reckonNeeds] at h
  exact h
set_option maxRecDepth 100000 in
theorem eX1_reckonNeeds_49 (M : MM) (x1 : Int32) (x2 : Int32) (r3 : Option Nat) (xs0 : Int32) (rs1 : Option Nat) : gX1_reckonNeeds 49 [some (.inr (some 1)), some (.inl x1), some (.inl x2), some (.inr r3)] [.inl xs0, .inr rs1] M = (if xs0 = 0 then gX1_reckonNeeds 57 [some (.inr (some 1)), some (.inl x1), some (.inl x2), some (.inr r3)] [.inl (0 : Int32), .inr rs1] M else gX1_reckonNeeds 57 [some (.inr (some 1)), some (.inl x1), some (.inl x2), some (.inr r3)] [.inl (1 : Int32), .inr rs1] M) := by
  have h : ∀ k : KT, mgs (zlook tX1_reckonNeeds) nX1_reckonNeeds k 3 49 [some (.inr (some 1)), some (.inl x1), some (.inl x2), some (.inr r3)] [.inl xs0, .inr rs1] M = (if xs0 = 0 then k 57 [some (.inr (some 1)), some (.inl x1), some (.inl x2), some (.inr r3)] [.inl (0 : Int32), .inr rs1] M else k 57 [some (.inr (some 1)), some (.inl x1), some (.inl x2), some (.inr r3)] [.inl (1 : Int32), .inr rs1] M) := fun k => rfl
  have h := h gX1_reckonNeeds
  rw [mgs_gX1_reckonNeeds] at h
  exact h
set_option maxRecDepth 100000 in
theorem eX1_reckonNeeds_57 (M : MM) (x1 : Int32) (x2 : Int32) (r3 : Option Nat) (xs0 : Int32) (rs1 : Option Nat) : gX1_reckonNeeds 57 [some (.inr (some 1)), some (.inl x1), some (.inl x2), some (.inr r3)] [.inl xs0, .inr rs1] M = (match rs1 with | some q1 => (if zkd q1 = 5 then (if xs0 = 0 ∨ xs0 = 1 then (match r3 with | some q2 => (if zkd q2 = 5 then (if ((st2 M q1 8 xs0) q2 9) = 0 then gX1_reckonNeeds 4 [some (.inr (some 1)), some (.inl x1), some (.inl (x2 + (1 : Int32))), some (.inr r3)] [] (st2 M q1 8 xs0) else (match r3 with | some q3 => (if zkd q3 = 5 then (if ((st2 M q1 8 xs0) q3 8) = 0 then (match r3 with | some q4 => (if zkd q4 = 5 then (match r3 with | some q5 => (if zkd q5 = 5 then gX1_reckonNeeds 4 [some (.inr (some 1)), some (.inl (x1 + (1 : Int32))), some (.inl (x2 + (1 : Int32))), some (.inr r3)] [] (st2 (st2 (st2 M q1 8 xs0) q4 9 (0 : Int32)) q5 11 (0 : Int32)) else none) | none => none) else none) | none => none) else gX1_reckonNeeds 4 [some (.inr (some 1)), some (.inl x1), some (.inl (x2 + (1 : Int32))), some (.inr r3)] [] (st2 M q1 8 xs0)) else none) | none => none)) else none) | none => none) else none) else none) | none => none) := by
  have h : ∀ k : KT, mgs (zlook tX1_reckonNeeds) nX1_reckonNeeds k 16 57 [some (.inr (some 1)), some (.inl x1), some (.inl x2), some (.inr r3)] [.inl xs0, .inr rs1] M = (match rs1 with | some q1 => (if zkd q1 = 5 then (if xs0 = 0 ∨ xs0 = 1 then (match r3 with | some q2 => (if zkd q2 = 5 then (if ((st2 M q1 8 xs0) q2 9) = 0 then k 4 [some (.inr (some 1)), some (.inl x1), some (.inl (x2 + (1 : Int32))), some (.inr r3)] [] (st2 M q1 8 xs0) else (match r3 with | some q3 => (if zkd q3 = 5 then (if ((st2 M q1 8 xs0) q3 8) = 0 then (match r3 with | some q4 => (if zkd q4 = 5 then (match r3 with | some q5 => (if zkd q5 = 5 then k 4 [some (.inr (some 1)), some (.inl (x1 + (1 : Int32))), some (.inl (x2 + (1 : Int32))), some (.inr r3)] [] (st2 (st2 (st2 M q1 8 xs0) q4 9 (0 : Int32)) q5 11 (0 : Int32)) else none) | none => none) else none) | none => none) else k 4 [some (.inr (some 1)), some (.inl x1), some (.inl (x2 + (1 : Int32))), some (.inr r3)] [] (st2 M q1 8 xs0)) else none) | none => none)) else none) | none => none) else none) else none) | none => none) := by intro k; cases r3 <;> cases rs1 <;> rfl
  have h := h gX1_reckonNeeds
  rw [mgs_gX1_reckonNeeds] at h
  exact h
theorem iX1_reckonNeeds (M : MM) : mX1_reckonNeeds [.inr (some 1)] M = gX1_reckonNeeds 0 [some (.inr (some 1)), none, none, none] [] M := rfl
noncomputable def gX1_addSlot : KT := mev (zlook tX1_addSlot)
theorem ctX1_addSlot : ∀ q ∈ tX1_addSlot, Cont q.2 := by
  refine ccons (cont_aload _ _) ?_
  refine ccons (cont_iload _ _) ?_
  refine ccons (cont_callV _ _ _ _) ?_
  refine ccons (cont_if_ne _ _) ?_
  refine ccons (cont_push _ _) ?_
  refine ccons (cont_iret) ?_
  refine ccons (cont_aload _ _) ?_
  refine ccons (cont_dup _) ?_
  refine ccons (cont_getI _ _ _) ?_
  refine ccons (cont_push _ _) ?_
  refine ccons (cont_bin _ _) ?_
  refine ccons (cont_put _ _ _) ?_
  refine ccons (cont_aload _ _) ?_
  refine ccons (cont_aload _ _) ?_
  refine ccons (cont_getI _ _ _) ?_
  refine ccons (cont_push _ _) ?_
  refine ccons (cont_bin _ _) ?_
  refine ccons (cont_callV _ _ _ _) ?_
  refine ccons (cont_astore _ _) ?_
  refine ccons (cont_aload _ _) ?_
  refine ccons (cont_null _ _) ?_
  refine ccons (cont_aload _ _) ?_
  refine ccons (cont_iload _ _) ?_
  refine ccons (cont_put _ _ _) ?_
  refine ccons (cont_aload _ _) ?_
  refine ccons (cont_iload _ _) ?_
  refine ccons (cont_putZ _ _ _) ?_
  refine ccons (cont_aload _ _) ?_
  refine ccons (cont_callV _ _ _ _) ?_
  refine ccons (cont_pop _) ?_
  refine ccons (cont_aload _ _) ?_
  refine ccons (cont_getI _ _ _) ?_
  refine ccons (cont_push _ _) ?_
  refine ccons (cont_bin _ _) ?_
  refine ccons (cont_iret) ?_
  exact cnil
theorem mgs_gX1_addSlot (cut : List Nat) (n : Nat) : mgs (zlook tX1_addSlot) cut gX1_addSlot n = gX1_addSlot := mgs_mev (ctab ctX1_addSlot) cut n
def nX1_addSlot : List Nat := [0, 5, 30, 45, 49]
set_option maxRecDepth 100000 in
theorem eX1_addSlot_0 (M : MM) (x1 : Int32) (x2 : Int32) : gX1_addSlot 0 [some (.inr (some 1)), some (.inl x1), some (.inl x2), none] [] M = (mX1_canName [.inr (some 1), .inl x1] M).bind (fun r => gX1_addSlot 5 [some (.inr (some 1)), some (.inl x1), some (.inl x2), none] (r.1.toList ++ []) r.2) := by
  have h : ∀ k : KT, mgs (zlook tX1_addSlot) nX1_addSlot k 3 0 [some (.inr (some 1)), some (.inl x1), some (.inl x2), none] [] M = (mX1_canName [.inr (some 1), .inl x1] M).bind (fun r => k 5 [some (.inr (some 1)), some (.inl x1), some (.inl x2), none] (r.1.toList ++ []) r.2) := fun k => rfl
  have h := h gX1_addSlot
  rw [mgs_gX1_addSlot] at h
  exact h
set_option maxRecDepth 100000 in
theorem eX1_addSlot_5 (M : MM) (x1 : Int32) (x2 : Int32) (xs0 : Int32) : gX1_addSlot 5 [some (.inr (some 1)), some (.inl x1), some (.inl x2), none] [.inl xs0] M = (if xs0 = 0 then some ((some (.inl (-1 : Int32))), M) else (mX1_slotAt [.inr (some 1), .inl (((st2 M 1 1 ((M 1 1) + (1 : Int32))) 1 1) - (1 : Int32))] (st2 M 1 1 ((M 1 1) + (1 : Int32)))).bind (fun r => gX1_addSlot 30 [some (.inr (some 1)), some (.inl x1), some (.inl x2), none] (r.1.toList ++ []) r.2)) := by
  have h : ∀ k : KT, mgs (zlook tX1_addSlot) nX1_addSlot k 13 5 [some (.inr (some 1)), some (.inl x1), some (.inl x2), none] [.inl xs0] M = (if xs0 = 0 then some ((some (.inl (-1 : Int32))), M) else (mX1_slotAt [.inr (some 1), .inl (((st2 M 1 1 ((M 1 1) + (1 : Int32))) 1 1) - (1 : Int32))] (st2 M 1 1 ((M 1 1) + (1 : Int32)))).bind (fun r => k 30 [some (.inr (some 1)), some (.inl x1), some (.inl x2), none] (r.1.toList ++ []) r.2)) := fun k => rfl
  have h := h gX1_addSlot
  rw [mgs_gX1_addSlot] at h
  exact h
set_option maxRecDepth 100000 in
theorem eX1_addSlot_30 (M : MM) (x1 : Int32) (x2 : Int32) (rs0 : Option Nat) : gX1_addSlot 30 [some (.inr (some 1)), some (.inl x1), some (.inl x2), none] [.inr rs0] M = (match rs0 with | some _q1 => (match rs0 with | some q2 => (if zkd q2 = 5 then (match rs0 with | some q3 => (if zkd q3 = 5 then (if x2 = 0 ∨ x2 = 1 then gX1_addSlot 45 [some (.inr (some 1)), some (.inl x1), some (.inl x2), some (.inr rs0)] [] (st2 (st2 M q2 0 x1) q3 3 x2) else none) else none) | none => none) else none) | none => none) | none => gX1_addSlot 45 [some (.inr (some 1)), some (.inl x1), some (.inl x2), some (.inr rs0)] [] M) := by
  have h : ∀ k : KT, mgs (zlook tX1_addSlot) nX1_addSlot k 9 30 [some (.inr (some 1)), some (.inl x1), some (.inl x2), none] [.inr rs0] M = (match rs0 with | some _q1 => (match rs0 with | some q2 => (if zkd q2 = 5 then (match rs0 with | some q3 => (if zkd q3 = 5 then (if x2 = 0 ∨ x2 = 1 then k 45 [some (.inr (some 1)), some (.inl x1), some (.inl x2), some (.inr rs0)] [] (st2 (st2 M q2 0 x1) q3 3 x2) else none) else none) | none => none) else none) | none => none) | none => k 45 [some (.inr (some 1)), some (.inl x1), some (.inl x2), some (.inr rs0)] [] M) := by intro k; cases rs0 <;> rfl
  have h := h gX1_addSlot
  rw [mgs_gX1_addSlot] at h
  exact h
set_option maxRecDepth 100000 in
theorem eX1_addSlot_45 (M : MM) (x1 : Int32) (x2 : Int32) (r3 : Option Nat) : gX1_addSlot 45 [some (.inr (some 1)), some (.inl x1), some (.inl x2), some (.inr r3)] [] M = (mX1_reckonNeeds [.inr (some 1)] M).bind (fun r => gX1_addSlot 49 [some (.inr (some 1)), some (.inl x1), some (.inl x2), some (.inr r3)] (r.1.toList ++ []) r.2) := by
  have h : ∀ k : KT, mgs (zlook tX1_addSlot) nX1_addSlot k 2 45 [some (.inr (some 1)), some (.inl x1), some (.inl x2), some (.inr r3)] [] M = (mX1_reckonNeeds [.inr (some 1)] M).bind (fun r => k 49 [some (.inr (some 1)), some (.inl x1), some (.inl x2), some (.inr r3)] (r.1.toList ++ []) r.2) := fun k => rfl
  have h := h gX1_addSlot
  rw [mgs_gX1_addSlot] at h
  exact h
set_option maxRecDepth 100000 in
theorem eX1_addSlot_49 (M : MM) (x1 : Int32) (x2 : Int32) (r3 : Option Nat) (xs0 : Int32) : gX1_addSlot 49 [some (.inr (some 1)), some (.inl x1), some (.inl x2), some (.inr r3)] [.inl xs0] M = some ((some (.inl ((M 1 1) - (1 : Int32)))), M) := by
  have h : ∀ k : KT, mgs (zlook tX1_addSlot) nX1_addSlot k 6 49 [some (.inr (some 1)), some (.inl x1), some (.inl x2), some (.inr r3)] [.inl xs0] M = some ((some (.inl ((M 1 1) - (1 : Int32)))), M) := fun k => rfl
  have h := h gX1_addSlot
  rw [mgs_gX1_addSlot] at h
  exact h
theorem iX1_addSlot (M : MM) (x1 : Int32) (x2 : Int32) : mX1_addSlot [.inr (some 1), .inl x1, .inl x2] M = gX1_addSlot 0 [some (.inr (some 1)), some (.inl x1), some (.inl x2), none] [] M := rfl
