/-! The law: its steps, its thirteen cases (written by wip/whole/lawseg.py). -/
set_option maxRecDepth 100000 in
theorem ctL (L : Nat) (xs : Nat → Int32) : ∀ q ∈ tL_law L xs, Cont q.2 := by
  refine ccons (cont_iload _ _) ?_
  refine ccons (cont_aload _ _) ?_
  refine ccons (cont_slen _ _) ?_
  refine ccons (cont_push _ _) ?_
  refine ccons (cont_bin _ _) ?_
  refine ccons (cont_c_gt _ _) ?_
  refine ccons (cont_aload _ _) ?_
  refine ccons (cont_iload _ _) ?_
  refine ccons (cont_sald _ _ _) ?_
  refine ccons (cont_push _ _) ?_
  refine ccons (cont_bin _ _) ?_
  refine ccons (cont_switch _ _) ?_
  refine ccons (cont_aload _ _) ?_
  refine ccons (cont_aload _ _) ?_
  refine ccons (cont_iload _ _) ?_
  refine ccons (cont_push _ _) ?_
  refine ccons (cont_bin _ _) ?_
  refine ccons (cont_sald _ _ _) ?_
  refine ccons (cont_aload _ _) ?_
  refine ccons (cont_iload _ _) ?_
  refine ccons (cont_push _ _) ?_
  refine ccons (cont_bin _ _) ?_
  refine ccons (cont_sald _ _ _) ?_
  refine ccons (cont_aload _ _) ?_
  refine ccons (cont_iload _ _) ?_
  refine ccons (cont_push _ _) ?_
  refine ccons (cont_bin _ _) ?_
  refine ccons (cont_sald _ _ _) ?_
  refine ccons (cont_if_eq _ _) ?_
  refine ccons (cont_push _ _) ?_
  refine ccons (cont_goto _) ?_
  refine ccons (cont_push _ _) ?_
  refine ccons (cont_aload _ _) ?_
  refine ccons (cont_iload _ _) ?_
  refine ccons (cont_push _ _) ?_
  refine ccons (cont_bin _ _) ?_
  refine ccons (cont_sald _ _ _) ?_
  refine ccons (cont_if_eq _ _) ?_
  refine ccons (cont_push _ _) ?_
  refine ccons (cont_goto _) ?_
  refine ccons (cont_push _ _) ?_
  refine ccons (cont_callV _ _ _ _) ?_
  refine ccons (cont_aload _ _) ?_
  refine ccons (cont_aload _ _) ?_
  refine ccons (cont_iload _ _) ?_
  refine ccons (cont_push _ _) ?_
  refine ccons (cont_bin _ _) ?_
  refine ccons (cont_sald _ _ _) ?_
  refine ccons (cont_aload _ _) ?_
  refine ccons (cont_iload _ _) ?_
  refine ccons (cont_push _ _) ?_
  refine ccons (cont_bin _ _) ?_
  refine ccons (cont_sald _ _ _) ?_
  refine ccons (cont_aload _ _) ?_
  refine ccons (cont_iload _ _) ?_
  refine ccons (cont_push _ _) ?_
  refine ccons (cont_bin _ _) ?_
  refine ccons (cont_sald _ _ _) ?_
  refine ccons (cont_if_eq _ _) ?_
  refine ccons (cont_push _ _) ?_
  refine ccons (cont_goto _) ?_
  refine ccons (cont_push _ _) ?_
  refine ccons (cont_aload _ _) ?_
  refine ccons (cont_iload _ _) ?_
  refine ccons (cont_push _ _) ?_
  refine ccons (cont_bin _ _) ?_
  refine ccons (cont_sald _ _ _) ?_
  refine ccons (cont_if_eq _ _) ?_
  refine ccons (cont_push _ _) ?_
  refine ccons (cont_goto _) ?_
  refine ccons (cont_push _ _) ?_
  refine ccons (cont_callV _ _ _ _) ?_
  refine ccons (cont_c_eq _ _) ?_
  refine ccons (cont_push _ _) ?_
  refine ccons (cont_lret) ?_
  refine ccons (cont_aload _ _) ?_
  refine ccons (cont_aload _ _) ?_
  refine ccons (cont_iload _ _) ?_
  refine ccons (cont_push _ _) ?_
  refine ccons (cont_bin _ _) ?_
  refine ccons (cont_sald _ _ _) ?_
  refine ccons (cont_aload _ _) ?_
  refine ccons (cont_iload _ _) ?_
  refine ccons (cont_push _ _) ?_
  refine ccons (cont_bin _ _) ?_
  refine ccons (cont_sald _ _ _) ?_
  refine ccons (cont_if_eq _ _) ?_
  refine ccons (cont_push _ _) ?_
  refine ccons (cont_goto _) ?_
  refine ccons (cont_push _ _) ?_
  refine ccons (cont_aload _ _) ?_
  refine ccons (cont_iload _ _) ?_
  refine ccons (cont_push _ _) ?_
  refine ccons (cont_bin _ _) ?_
  refine ccons (cont_sald _ _ _) ?_
  refine ccons (cont_aload _ _) ?_
  refine ccons (cont_iload _ _) ?_
  refine ccons (cont_push _ _) ?_
  refine ccons (cont_bin _ _) ?_
  refine ccons (cont_sald _ _ _) ?_
  refine ccons (cont_aload _ _) ?_
  refine ccons (cont_iload _ _) ?_
  refine ccons (cont_push _ _) ?_
  refine ccons (cont_bin _ _) ?_
  refine ccons (cont_sald _ _ _) ?_
  refine ccons (cont_aload _ _) ?_
  refine ccons (cont_iload _ _) ?_
  refine ccons (cont_push _ _) ?_
  refine ccons (cont_bin _ _) ?_
  refine ccons (cont_sald _ _ _) ?_
  refine ccons (cont_aload _ _) ?_
  refine ccons (cont_iload _ _) ?_
  refine ccons (cont_push _ _) ?_
  refine ccons (cont_bin _ _) ?_
  refine ccons (cont_sald _ _ _) ?_
  refine ccons (cont_aload _ _) ?_
  refine ccons (cont_iload _ _) ?_
  refine ccons (cont_push _ _) ?_
  refine ccons (cont_bin _ _) ?_
  refine ccons (cont_sald _ _ _) ?_
  refine ccons (cont_callV _ _ _ _) ?_
  refine ccons (cont_aload _ _) ?_
  refine ccons (cont_aload _ _) ?_
  refine ccons (cont_iload _ _) ?_
  refine ccons (cont_push _ _) ?_
  refine ccons (cont_bin _ _) ?_
  refine ccons (cont_sald _ _ _) ?_
  refine ccons (cont_aload _ _) ?_
  refine ccons (cont_iload _ _) ?_
  refine ccons (cont_push _ _) ?_
  refine ccons (cont_bin _ _) ?_
  refine ccons (cont_sald _ _ _) ?_
  refine ccons (cont_if_eq _ _) ?_
  refine ccons (cont_push _ _) ?_
  refine ccons (cont_goto _) ?_
  refine ccons (cont_push _ _) ?_
  refine ccons (cont_aload _ _) ?_
  refine ccons (cont_iload _ _) ?_
  refine ccons (cont_push _ _) ?_
  refine ccons (cont_bin _ _) ?_
  refine ccons (cont_sald _ _ _) ?_
  refine ccons (cont_aload _ _) ?_
  refine ccons (cont_iload _ _) ?_
  refine ccons (cont_push _ _) ?_
  refine ccons (cont_bin _ _) ?_
  refine ccons (cont_sald _ _ _) ?_
  refine ccons (cont_aload _ _) ?_
  refine ccons (cont_iload _ _) ?_
  refine ccons (cont_push _ _) ?_
  refine ccons (cont_bin _ _) ?_
  refine ccons (cont_sald _ _ _) ?_
  refine ccons (cont_aload _ _) ?_
  refine ccons (cont_iload _ _) ?_
  refine ccons (cont_push _ _) ?_
  refine ccons (cont_bin _ _) ?_
  refine ccons (cont_sald _ _ _) ?_
  refine ccons (cont_aload _ _) ?_
  refine ccons (cont_iload _ _) ?_
  refine ccons (cont_push _ _) ?_
  refine ccons (cont_bin _ _) ?_
  refine ccons (cont_sald _ _ _) ?_
  refine ccons (cont_aload _ _) ?_
  refine ccons (cont_iload _ _) ?_
  refine ccons (cont_push _ _) ?_
  refine ccons (cont_bin _ _) ?_
  refine ccons (cont_sald _ _ _) ?_
  refine ccons (cont_callV _ _ _ _) ?_
  refine ccons (cont_c_eq _ _) ?_
  refine ccons (cont_push _ _) ?_
  refine ccons (cont_lret) ?_
  refine ccons (cont_aload _ _) ?_
  refine ccons (cont_aload _ _) ?_
  refine ccons (cont_iload _ _) ?_
  refine ccons (cont_push _ _) ?_
  refine ccons (cont_bin _ _) ?_
  refine ccons (cont_sald _ _ _) ?_
  refine ccons (cont_aload _ _) ?_
  refine ccons (cont_iload _ _) ?_
  refine ccons (cont_push _ _) ?_
  refine ccons (cont_bin _ _) ?_
  refine ccons (cont_sald _ _ _) ?_
  refine ccons (cont_aload _ _) ?_
  refine ccons (cont_iload _ _) ?_
  refine ccons (cont_push _ _) ?_
  refine ccons (cont_bin _ _) ?_
  refine ccons (cont_sald _ _ _) ?_
  refine ccons (cont_callV _ _ _ _) ?_
  refine ccons (cont_aload _ _) ?_
  refine ccons (cont_aload _ _) ?_
  refine ccons (cont_iload _ _) ?_
  refine ccons (cont_push _ _) ?_
  refine ccons (cont_bin _ _) ?_
  refine ccons (cont_sald _ _ _) ?_
  refine ccons (cont_aload _ _) ?_
  refine ccons (cont_iload _ _) ?_
  refine ccons (cont_push _ _) ?_
  refine ccons (cont_bin _ _) ?_
  refine ccons (cont_sald _ _ _) ?_
  refine ccons (cont_aload _ _) ?_
  refine ccons (cont_iload _ _) ?_
  refine ccons (cont_push _ _) ?_
  refine ccons (cont_bin _ _) ?_
  refine ccons (cont_sald _ _ _) ?_
  refine ccons (cont_callV _ _ _ _) ?_
  refine ccons (cont_c_eq _ _) ?_
  refine ccons (cont_push _ _) ?_
  refine ccons (cont_lret) ?_
  refine ccons (cont_aload _ _) ?_
  refine ccons (cont_aload _ _) ?_
  refine ccons (cont_iload _ _) ?_
  refine ccons (cont_push _ _) ?_
  refine ccons (cont_bin _ _) ?_
  refine ccons (cont_sald _ _ _) ?_
  refine ccons (cont_aload _ _) ?_
  refine ccons (cont_iload _ _) ?_
  refine ccons (cont_push _ _) ?_
  refine ccons (cont_bin _ _) ?_
  refine ccons (cont_sald _ _ _) ?_
  refine ccons (cont_aload _ _) ?_
  refine ccons (cont_iload _ _) ?_
  refine ccons (cont_push _ _) ?_
  refine ccons (cont_bin _ _) ?_
  refine ccons (cont_sald _ _ _) ?_
  refine ccons (cont_callV _ _ _ _) ?_
  refine ccons (cont_aload _ _) ?_
  refine ccons (cont_aload _ _) ?_
  refine ccons (cont_iload _ _) ?_
  refine ccons (cont_push _ _) ?_
  refine ccons (cont_bin _ _) ?_
  refine ccons (cont_sald _ _ _) ?_
  refine ccons (cont_aload _ _) ?_
  refine ccons (cont_iload _ _) ?_
  refine ccons (cont_push _ _) ?_
  refine ccons (cont_bin _ _) ?_
  refine ccons (cont_sald _ _ _) ?_
  refine ccons (cont_aload _ _) ?_
  refine ccons (cont_iload _ _) ?_
  refine ccons (cont_push _ _) ?_
  refine ccons (cont_bin _ _) ?_
  refine ccons (cont_sald _ _ _) ?_
  refine ccons (cont_callV _ _ _ _) ?_
  refine ccons (cont_c_eq _ _) ?_
  refine ccons (cont_push _ _) ?_
  refine ccons (cont_lret) ?_
  refine ccons (cont_aload _ _) ?_
  refine ccons (cont_callV _ _ _ _) ?_
  refine ccons (cont_aload _ _) ?_
  refine ccons (cont_callV _ _ _ _) ?_
  refine ccons (cont_c_eq _ _) ?_
  refine ccons (cont_push _ _) ?_
  refine ccons (cont_lret) ?_
  refine ccons (cont_aload _ _) ?_
  refine ccons (cont_aload _ _) ?_
  refine ccons (cont_iload _ _) ?_
  refine ccons (cont_push _ _) ?_
  refine ccons (cont_bin _ _) ?_
  refine ccons (cont_sald _ _ _) ?_
  refine ccons (cont_aload _ _) ?_
  refine ccons (cont_iload _ _) ?_
  refine ccons (cont_push _ _) ?_
  refine ccons (cont_bin _ _) ?_
  refine ccons (cont_sald _ _ _) ?_
  refine ccons (cont_callV _ _ _ _) ?_
  refine ccons (cont_aload _ _) ?_
  refine ccons (cont_aload _ _) ?_
  refine ccons (cont_iload _ _) ?_
  refine ccons (cont_push _ _) ?_
  refine ccons (cont_bin _ _) ?_
  refine ccons (cont_sald _ _ _) ?_
  refine ccons (cont_aload _ _) ?_
  refine ccons (cont_iload _ _) ?_
  refine ccons (cont_push _ _) ?_
  refine ccons (cont_bin _ _) ?_
  refine ccons (cont_sald _ _ _) ?_
  refine ccons (cont_callV _ _ _ _) ?_
  refine ccons (cont_c_eq _ _) ?_
  refine ccons (cont_push _ _) ?_
  refine ccons (cont_lret) ?_
  refine ccons (cont_aload _ _) ?_
  refine ccons (cont_callV _ _ _ _) ?_
  refine ccons (cont_aload _ _) ?_
  refine ccons (cont_callV _ _ _ _) ?_
  refine ccons (cont_c_eq _ _) ?_
  refine ccons (cont_push _ _) ?_
  refine ccons (cont_lret) ?_
  refine ccons (cont_aload _ _) ?_
  refine ccons (cont_callV _ _ _ _) ?_
  refine ccons (cont_aload _ _) ?_
  refine ccons (cont_callV _ _ _ _) ?_
  refine ccons (cont_c_eq _ _) ?_
  refine ccons (cont_push _ _) ?_
  refine ccons (cont_lret) ?_
  refine ccons (cont_aload _ _) ?_
  refine ccons (cont_aload _ _) ?_
  refine ccons (cont_iload _ _) ?_
  refine ccons (cont_push _ _) ?_
  refine ccons (cont_bin _ _) ?_
  refine ccons (cont_sald _ _ _) ?_
  refine ccons (cont_callV _ _ _ _) ?_
  refine ccons (cont_aload _ _) ?_
  refine ccons (cont_aload _ _) ?_
  refine ccons (cont_iload _ _) ?_
  refine ccons (cont_push _ _) ?_
  refine ccons (cont_bin _ _) ?_
  refine ccons (cont_sald _ _ _) ?_
  refine ccons (cont_callV _ _ _ _) ?_
  refine ccons (cont_c_eq _ _) ?_
  refine ccons (cont_push _ _) ?_
  refine ccons (cont_lret) ?_
  refine ccons (cont_aload _ _) ?_
  refine ccons (cont_aload _ _) ?_
  refine ccons (cont_iload _ _) ?_
  refine ccons (cont_push _ _) ?_
  refine ccons (cont_bin _ _) ?_
  refine ccons (cont_sald _ _ _) ?_
  refine ccons (cont_callV _ _ _ _) ?_
  refine ccons (cont_aload _ _) ?_
  refine ccons (cont_aload _ _) ?_
  refine ccons (cont_iload _ _) ?_
  refine ccons (cont_push _ _) ?_
  refine ccons (cont_bin _ _) ?_
  refine ccons (cont_sald _ _ _) ?_
  refine ccons (cont_callV _ _ _ _) ?_
  refine ccons (cont_c_eq _ _) ?_
  refine ccons (cont_push _ _) ?_
  refine ccons (cont_lret) ?_
  refine ccons (cont_aload _ _) ?_
  refine ccons (cont_aload _ _) ?_
  refine ccons (cont_iload _ _) ?_
  refine ccons (cont_push _ _) ?_
  refine ccons (cont_bin _ _) ?_
  refine ccons (cont_sald _ _ _) ?_
  refine ccons (cont_aload _ _) ?_
  refine ccons (cont_iload _ _) ?_
  refine ccons (cont_push _ _) ?_
  refine ccons (cont_bin _ _) ?_
  refine ccons (cont_sald _ _ _) ?_
  refine ccons (cont_callV _ _ _ _) ?_
  refine ccons (cont_aload _ _) ?_
  refine ccons (cont_aload _ _) ?_
  refine ccons (cont_iload _ _) ?_
  refine ccons (cont_push _ _) ?_
  refine ccons (cont_bin _ _) ?_
  refine ccons (cont_sald _ _ _) ?_
  refine ccons (cont_aload _ _) ?_
  refine ccons (cont_iload _ _) ?_
  refine ccons (cont_push _ _) ?_
  refine ccons (cont_bin _ _) ?_
  refine ccons (cont_sald _ _ _) ?_
  refine ccons (cont_callV _ _ _ _) ?_
  refine ccons (cont_c_eq _ _) ?_
  refine ccons (cont_push _ _) ?_
  refine ccons (cont_lret) ?_
  refine ccons (cont_aload _ _) ?_
  refine ccons (cont_callV _ _ _ _) ?_
  refine ccons (cont_aload _ _) ?_
  refine ccons (cont_callV _ _ _ _) ?_
  refine ccons (cont_c_eq _ _) ?_
  refine ccons (cont_push _ _) ?_
  refine ccons (cont_lret) ?_
  refine ccons (cont_aload _ _) ?_
  refine ccons (cont_callV _ _ _ _) ?_
  refine ccons (cont_aload _ _) ?_
  refine ccons (cont_callV _ _ _ _) ?_
  refine ccons (cont_c_eq _ _) ?_
  refine ccons (cont_push _ _) ?_
  refine ccons (cont_lret) ?_
  refine ccons (cont_iinc _ _ _) ?_
  refine ccons (cont_goto _) ?_
  refine ccons (cont_push _ _) ?_
  refine ccons (cont_lret) ?_
  exact cnil
noncomputable def gL (L : Nat) (xs : Nat → Int32) : KT := mev (zlook (tL_law L xs))
theorem gl_step (L : Nat) (xs : Nat → Int32) (pc : Nat) (ls : List (Option AV)) (st : List AV) (M : MM) : gL L xs pc ls st M = match zlook (tL_law L xs) pc with
  | some a => a (gL L xs) ls st M
  | none => none := mev_step (ctab (ctL L xs)) pc ls st M
theorem gl_by {L : Nat} {xs : Nat → Int32} {pc : Nat} {ls : List (Option AV)} {st : List AV} {M : MM} {a : AI} (h : zlook (tL_law L xs) pc = some a) : gL L xs pc ls st M = a (gL L xs) ls st M := by
  rw [gl_step, h]
def lsL (a : Nat) : List (Option AV) := [some (.inr (some 100)), some (.inr (some 0)), some (.inr (some 19)), some (.inl (nI a))]
theorem gl_al1 {L a pc nx : Nat} {xs : Nat → Int32} {st : List AV} {M : MM} (h : zlook (tL_law L xs) pc = some (a_aload nx 1)) : gL L xs pc (lsL a) st M = gL L xs nx (lsL a) (.inr (some 0) :: st) M := gl_by h
theorem gl_al2 {L a pc nx : Nat} {xs : Nat → Int32} {st : List AV} {M : MM} (h : zlook (tL_law L xs) pc = some (a_aload nx 2)) : gL L xs pc (lsL a) st M = gL L xs nx (lsL a) (.inr (some 19) :: st) M := gl_by h
theorem gl_al0 {L a pc nx : Nat} {xs : Nat → Int32} {st : List AV} {M : MM} (h : zlook (tL_law L xs) pc = some (a_aload nx 0)) : gL L xs pc (lsL a) st M = gL L xs nx (lsL a) (.inr (some 100) :: st) M := gl_by h
theorem gl_il {L a pc nx : Nat} {xs : Nat → Int32} {st : List AV} {M : MM} (h : zlook (tL_law L xs) pc = some (a_iload nx 3)) : gL L xs pc (lsL a) st M = gL L xs nx (lsL a) (.inl (nI a) :: st) M := gl_by h
theorem gl_sa {L a i pc nx : Nat} {xs : Nat → Int32} {st : List AV} {M : MM} (h : zlook (tL_law L xs) pc = some (a_sald nx L xs)) (hi : i < L) (hL : L ≤ 4608) : gL L xs pc (lsL a) (.inl (nI i) :: .inr (some 100) :: st) M = gL L xs nx (lsL a) (.inl (xs i) :: st) M := by
  have g := gI (c := i) (N := L) hi (by omega)
  rw [gl_by h]
  show (if 100 = 100 then (if nI i < 0 ∨ L ≤ (nI i).toNatClampNeg then none else gL L xs nx (lsL a) (.inl (xs (nI i).toNatClampNeg) :: st) M) else none) = _
  rw [if_pos rfl, q_cl (by omega), if_neg g]
theorem gl_ld {L a c p0 p1 p2 p3 p4 nx : Nat} {xs : Nat → Int32} {st : List AV} {M : MM} (h0 : zlook (tL_law L xs) p0 = some (a_aload p1 0)) (h1 : zlook (tL_law L xs) p1 = some (a_iload p2 3)) (h2 : zlook (tL_law L xs) p2 = some (a_push p3 (.inl (nI c)))) (h3 : zlook (tL_law L xs) p3 = some (a_bin p4 (fun x y => x + y))) (h4 : zlook (tL_law L xs) p4 = some (a_sald nx L xs)) (hc : a + c < L) (hL : L ≤ 4608) : gL L xs p0 (lsL a) st M = gL L xs nx (lsL a) (.inl (xs (a + c)) :: st) M := by
  rw [gl_al0 h0, gl_il h1, gl_by h2]
  show gL L xs p3 (lsL a) (.inl (nI c) :: .inl (nI a) :: .inr (some 100) :: st) M = _
  rw [gl_by h3]
  show gL L xs p4 (lsL a) (.inl (nI a + nI c) :: .inr (some 100) :: st) M = _
  rw [q_add]
  exact gl_sa h4 hc hL
theorem gl_bo {L p0 p1 p2 tg nx : Nat} {xs : Nat → Int32} {ls : List (Option AV)} {st : List AV} {M : MM} {x : Int32} (h0 : zlook (tL_law L xs) p0 = some (a_if_eq p1 tg)) (h1 : zlook (tL_law L xs) p1 = some (a_push p2 (.inl 1))) (h2 : zlook (tL_law L xs) p2 = some (a_goto nx)) (h3 : zlook (tL_law L xs) tg = some (a_push nx (.inl 0))) : gL L xs p0 ls (.inl x :: st) M = gL L xs nx ls (.inl (if x = 0 then 0 else 1) :: st) M := by
  rw [gl_by h0]
  show (if x = 0 then gL L xs tg ls st M else gL L xs p1 ls st M) = _
  by_cases h : x = 0
  · rw [if_pos h, if_pos h]
    exact gl_by h3
  · rw [if_neg h, if_neg h, gl_by h1]
    exact gl_by h2
theorem gl_call {L pc nx n ci c : Nat} {xs : Nat → Int32} {ls : List (Option AV)} {st st' : List AV} {M M1 : MM} {v : Int32} {sem : List AV → MM → Option AR} (h : zlook (tL_law L xs) pc = some (a_callV nx n ci sem)) (hs : sem (.inr (some c) :: (st.take n).reverse) M = some (some (.inl v), M1)) (hz : zkd c = ci) (hd : st.drop n = .inr (some c) :: st') (hl : st'.length ≤ 8) : gL L xs pc ls st M = gL L xs nx ls (.inl v :: st') M1 := by
  rw [gl_by h]
  unfold a_callV
  rw [hd]
  dsimp only
  rw [if_pos hz, if_pos hl, hs]
  rfl
theorem gl_eq {L pc nx t : Nat} {xs : Nat → Int32} {ls : List (Option AV)} {st : List AV} {M : MM} {v : Int32} (h : zlook (tL_law L xs) pc = some (a_c_eq nx t)) : gL L xs pc ls (.inl v :: .inl v :: st) M = gL L xs t ls st M := by
  rw [gl_by h]
  show (if v = v then _ else _) = _
  rw [if_pos rfl]
theorem law_digits {L a : Nat} {xs : Nat → Int32} {M M1 M2 : MM} {v : Int32} (hL : L ≤ 4608) (ha : a + 9 ≤ L) (h9 : mX9_digits [.inr (some 0), .inl (xs (a + 1)), .inl (xs (a + 2)), .inl (if xs (a + 3) = 0 then 0 else 1), .inl (if xs (a + 4) = 0 then 0 else 1)] M = some (some (.inl v), M1)) (h10 : mX10_digits [.inr (some 19), .inl (xs (a + 1)), .inl (xs (a + 2)), .inl (if xs (a + 3) = 0 then 0 else 1), .inl (if xs (a + 4) = 0 then 0 else 1)] M1 = some (some (.inl v), M2)) : gL L xs 100 (lsL a) [] M = gL L xs 563 (lsL a) [] M2 := by
  rw [gl_al1 (zk_100 L xs)]
  rw [gl_ld (c := 1) (zk_101 L xs) (zk_102 L xs) (zk_103 L xs) (zk_104 L xs) (zk_105 L xs) (show a + 1 < L by omega) hL]
  rw [gl_ld (c := 2) (zk_106 L xs) (zk_107 L xs) (zk_108 L xs) (zk_109 L xs) (zk_110 L xs) (show a + 2 < L by omega) hL]
  rw [gl_ld (c := 3) (zk_111 L xs) (zk_112 L xs) (zk_113 L xs) (zk_114 L xs) (zk_115 L xs) (show a + 3 < L by omega) hL]
  rw [gl_bo (zk_116 L xs) (zk_119 L xs) (zk_120 L xs) (zk_123 L xs)]
  rw [gl_ld (c := 4) (zk_124 L xs) (zk_125 L xs) (zk_126 L xs) (zk_127 L xs) (zk_128 L xs) (show a + 4 < L by omega) hL]
  rw [gl_bo (zk_129 L xs) (zk_132 L xs) (zk_133 L xs) (zk_136 L xs)]
  rw [gl_call (st := [.inl (if xs (a + 4) = 0 then 0 else 1), .inl (if xs (a + 3) = 0 then 0 else 1), .inl (xs (a + 2)), .inl (xs (a + 1)), .inr (some 0)]) (st' := []) (zk_137 L xs) h9 (show zkd 0 = 8 from rfl) rfl (Nat.le_of_ble_eq_true rfl)]
  rw [gl_al2 (zk_140 L xs)]
  rw [gl_ld (c := 1) (zk_141 L xs) (zk_142 L xs) (zk_143 L xs) (zk_144 L xs) (zk_145 L xs) (show a + 1 < L by omega) hL]
  rw [gl_ld (c := 2) (zk_146 L xs) (zk_147 L xs) (zk_148 L xs) (zk_149 L xs) (zk_150 L xs) (show a + 2 < L by omega) hL]
  rw [gl_ld (c := 3) (zk_151 L xs) (zk_152 L xs) (zk_153 L xs) (zk_154 L xs) (zk_155 L xs) (show a + 3 < L by omega) hL]
  rw [gl_bo (zk_156 L xs) (zk_159 L xs) (zk_160 L xs) (zk_163 L xs)]
  rw [gl_ld (c := 4) (zk_164 L xs) (zk_165 L xs) (zk_166 L xs) (zk_167 L xs) (zk_168 L xs) (show a + 4 < L by omega) hL]
  rw [gl_bo (zk_169 L xs) (zk_172 L xs) (zk_173 L xs) (zk_176 L xs)]
  rw [gl_call (st := [.inl (if xs (a + 4) = 0 then 0 else 1), .inl (if xs (a + 3) = 0 then 0 else 1), .inl (xs (a + 2)), .inl (xs (a + 1)), .inr (some 19), .inl v]) (st' := [.inl v]) (zk_177 L xs) h10 (show zkd 19 = 9 from rfl) rfl (Nat.le_of_ble_eq_true rfl)]
  rw [gl_eq (zk_180 L xs)]
theorem law_choice {L a : Nat} {xs : Nat → Int32} {M M1 M2 : MM} {v : Int32} (hL : L ≤ 4608) (ha : a + 9 ≤ L) (h9 : mX9_choice [.inr (some 0), .inl (xs (a + 1)), .inl (if xs (a + 2) = 0 then 0 else 1), .inl (xs (a + 3)), .inl (xs (a + 4)), .inl (xs (a + 5)), .inl (xs (a + 6)), .inl (xs (a + 7)), .inl (xs (a + 8))] M = some (some (.inl v), M1)) (h10 : mX10_choice [.inr (some 19), .inl (xs (a + 1)), .inl (if xs (a + 2) = 0 then 0 else 1), .inl (xs (a + 3)), .inl (xs (a + 4)), .inl (xs (a + 5)), .inl (xs (a + 6)), .inl (xs (a + 7)), .inl (xs (a + 8))] M1 = some (some (.inl v), M2)) : gL L xs 185 (lsL a) [] M = gL L xs 563 (lsL a) [] M2 := by
  rw [gl_al1 (zk_185 L xs)]
  rw [gl_ld (c := 1) (zk_186 L xs) (zk_187 L xs) (zk_188 L xs) (zk_189 L xs) (zk_190 L xs) (show a + 1 < L by omega) hL]
  rw [gl_ld (c := 2) (zk_191 L xs) (zk_192 L xs) (zk_193 L xs) (zk_194 L xs) (zk_195 L xs) (show a + 2 < L by omega) hL]
  rw [gl_bo (zk_196 L xs) (zk_199 L xs) (zk_200 L xs) (zk_203 L xs)]
  rw [gl_ld (c := 3) (zk_204 L xs) (zk_205 L xs) (zk_206 L xs) (zk_207 L xs) (zk_208 L xs) (show a + 3 < L by omega) hL]
  rw [gl_ld (c := 4) (zk_209 L xs) (zk_210 L xs) (zk_211 L xs) (zk_212 L xs) (zk_213 L xs) (show a + 4 < L by omega) hL]
  rw [gl_ld (c := 5) (zk_214 L xs) (zk_215 L xs) (zk_216 L xs) (zk_217 L xs) (zk_218 L xs) (show a + 5 < L by omega) hL]
  rw [gl_ld (c := 6) (zk_219 L xs) (zk_220 L xs) (zk_221 L xs) (zk_223 L xs) (zk_224 L xs) (show a + 6 < L by omega) hL]
  rw [gl_ld (c := 7) (zk_225 L xs) (zk_226 L xs) (zk_227 L xs) (zk_229 L xs) (zk_230 L xs) (show a + 7 < L by omega) hL]
  rw [gl_ld (c := 8) (zk_231 L xs) (zk_232 L xs) (zk_233 L xs) (zk_235 L xs) (zk_236 L xs) (show a + 8 < L by omega) hL]
  rw [gl_call (st := [.inl (xs (a + 8)), .inl (xs (a + 7)), .inl (xs (a + 6)), .inl (xs (a + 5)), .inl (xs (a + 4)), .inl (xs (a + 3)), .inl (if xs (a + 2) = 0 then 0 else 1), .inl (xs (a + 1)), .inr (some 0)]) (st' := []) (zk_237 L xs) h9 (show zkd 0 = 8 from rfl) rfl (Nat.le_of_ble_eq_true rfl)]
  rw [gl_al2 (zk_240 L xs)]
  rw [gl_ld (c := 1) (zk_241 L xs) (zk_242 L xs) (zk_243 L xs) (zk_244 L xs) (zk_245 L xs) (show a + 1 < L by omega) hL]
  rw [gl_ld (c := 2) (zk_246 L xs) (zk_247 L xs) (zk_248 L xs) (zk_249 L xs) (zk_250 L xs) (show a + 2 < L by omega) hL]
  rw [gl_bo (zk_251 L xs) (zk_254 L xs) (zk_255 L xs) (zk_258 L xs)]
  rw [gl_ld (c := 3) (zk_259 L xs) (zk_260 L xs) (zk_261 L xs) (zk_262 L xs) (zk_263 L xs) (show a + 3 < L by omega) hL]
  rw [gl_ld (c := 4) (zk_264 L xs) (zk_265 L xs) (zk_266 L xs) (zk_267 L xs) (zk_268 L xs) (show a + 4 < L by omega) hL]
  rw [gl_ld (c := 5) (zk_269 L xs) (zk_270 L xs) (zk_271 L xs) (zk_272 L xs) (zk_273 L xs) (show a + 5 < L by omega) hL]
  rw [gl_ld (c := 6) (zk_274 L xs) (zk_275 L xs) (zk_276 L xs) (zk_278 L xs) (zk_279 L xs) (show a + 6 < L by omega) hL]
  rw [gl_ld (c := 7) (zk_280 L xs) (zk_281 L xs) (zk_282 L xs) (zk_284 L xs) (zk_285 L xs) (show a + 7 < L by omega) hL]
  rw [gl_ld (c := 8) (zk_286 L xs) (zk_287 L xs) (zk_288 L xs) (zk_290 L xs) (zk_291 L xs) (show a + 8 < L by omega) hL]
  rw [gl_call (st := [.inl (xs (a + 8)), .inl (xs (a + 7)), .inl (xs (a + 6)), .inl (xs (a + 5)), .inl (xs (a + 4)), .inl (xs (a + 3)), .inl (if xs (a + 2) = 0 then 0 else 1), .inl (xs (a + 1)), .inr (some 19), .inl v]) (st' := [.inl v]) (zk_292 L xs) h10 (show zkd 19 = 9 from rfl) rfl (Nat.le_of_ble_eq_true rfl)]
  rw [gl_eq (zk_295 L xs)]
theorem law_needs {L a : Nat} {xs : Nat → Int32} {M M1 M2 : MM} {v : Int32} (hL : L ≤ 4608) (ha : a + 9 ≤ L) (h9 : mX9_needs [.inr (some 0), .inl (xs (a + 1)), .inl (xs (a + 2)), .inl (xs (a + 3))] M = some (some (.inl v), M1)) (h10 : mX10_needs [.inr (some 19), .inl (xs (a + 1)), .inl (xs (a + 2)), .inl (xs (a + 3))] M1 = some (some (.inl v), M2)) : gL L xs 300 (lsL a) [] M = gL L xs 563 (lsL a) [] M2 := by
  rw [gl_al1 (zk_300 L xs)]
  rw [gl_ld (c := 1) (zk_301 L xs) (zk_302 L xs) (zk_303 L xs) (zk_304 L xs) (zk_305 L xs) (show a + 1 < L by omega) hL]
  rw [gl_ld (c := 2) (zk_306 L xs) (zk_307 L xs) (zk_308 L xs) (zk_309 L xs) (zk_310 L xs) (show a + 2 < L by omega) hL]
  rw [gl_ld (c := 3) (zk_311 L xs) (zk_312 L xs) (zk_313 L xs) (zk_314 L xs) (zk_315 L xs) (show a + 3 < L by omega) hL]
  rw [gl_call (st := [.inl (xs (a + 3)), .inl (xs (a + 2)), .inl (xs (a + 1)), .inr (some 0)]) (st' := []) (zk_316 L xs) h9 (show zkd 0 = 8 from rfl) rfl (Nat.le_of_ble_eq_true rfl)]
  rw [gl_al2 (zk_319 L xs)]
  rw [gl_ld (c := 1) (zk_320 L xs) (zk_321 L xs) (zk_322 L xs) (zk_323 L xs) (zk_324 L xs) (show a + 1 < L by omega) hL]
  rw [gl_ld (c := 2) (zk_325 L xs) (zk_326 L xs) (zk_327 L xs) (zk_328 L xs) (zk_329 L xs) (show a + 2 < L by omega) hL]
  rw [gl_ld (c := 3) (zk_330 L xs) (zk_331 L xs) (zk_332 L xs) (zk_333 L xs) (zk_334 L xs) (show a + 3 < L by omega) hL]
  rw [gl_call (st := [.inl (xs (a + 3)), .inl (xs (a + 2)), .inl (xs (a + 1)), .inr (some 19), .inl v]) (st' := [.inl v]) (zk_335 L xs) h10 (show zkd 19 = 9 from rfl) rfl (Nat.le_of_ble_eq_true rfl)]
  rw [gl_eq (zk_338 L xs)]
theorem law_costs {L a : Nat} {xs : Nat → Int32} {M M1 M2 : MM} {v : Int32} (hL : L ≤ 4608) (ha : a + 9 ≤ L) (h9 : mX9_costs [.inr (some 0), .inl (xs (a + 1)), .inl (xs (a + 2)), .inl (xs (a + 3))] M = some (some (.inl v), M1)) (h10 : mX10_costs [.inr (some 19), .inl (xs (a + 1)), .inl (xs (a + 2)), .inl (xs (a + 3))] M1 = some (some (.inl v), M2)) : gL L xs 343 (lsL a) [] M = gL L xs 563 (lsL a) [] M2 := by
  rw [gl_al1 (zk_343 L xs)]
  rw [gl_ld (c := 1) (zk_344 L xs) (zk_345 L xs) (zk_346 L xs) (zk_347 L xs) (zk_348 L xs) (show a + 1 < L by omega) hL]
  rw [gl_ld (c := 2) (zk_349 L xs) (zk_350 L xs) (zk_351 L xs) (zk_352 L xs) (zk_353 L xs) (show a + 2 < L by omega) hL]
  rw [gl_ld (c := 3) (zk_354 L xs) (zk_355 L xs) (zk_356 L xs) (zk_357 L xs) (zk_358 L xs) (show a + 3 < L by omega) hL]
  rw [gl_call (st := [.inl (xs (a + 3)), .inl (xs (a + 2)), .inl (xs (a + 1)), .inr (some 0)]) (st' := []) (zk_359 L xs) h9 (show zkd 0 = 8 from rfl) rfl (Nat.le_of_ble_eq_true rfl)]
  rw [gl_al2 (zk_362 L xs)]
  rw [gl_ld (c := 1) (zk_363 L xs) (zk_364 L xs) (zk_365 L xs) (zk_366 L xs) (zk_367 L xs) (show a + 1 < L by omega) hL]
  rw [gl_ld (c := 2) (zk_368 L xs) (zk_369 L xs) (zk_370 L xs) (zk_371 L xs) (zk_372 L xs) (show a + 2 < L by omega) hL]
  rw [gl_ld (c := 3) (zk_373 L xs) (zk_374 L xs) (zk_375 L xs) (zk_376 L xs) (zk_377 L xs) (show a + 3 < L by omega) hL]
  rw [gl_call (st := [.inl (xs (a + 3)), .inl (xs (a + 2)), .inl (xs (a + 1)), .inr (some 19), .inl v]) (st' := [.inl v]) (zk_378 L xs) h10 (show zkd 19 = 9 from rfl) rfl (Nat.le_of_ble_eq_true rfl)]
  rw [gl_eq (zk_381 L xs)]
theorem law_place {L a : Nat} {xs : Nat → Int32} {M M1 M2 : MM} {v : Int32} (hL : L ≤ 4608) (ha : a + 9 ≤ L) (h9 : mX9_place [.inr (some 0)] M = some (some (.inl v), M1)) (h10 : mX10_place [.inr (some 19)] M1 = some (some (.inl v), M2)) : gL L xs 386 (lsL a) [] M = gL L xs 563 (lsL a) [] M2 := by
  rw [gl_al1 (zk_386 L xs)]
  rw [gl_call (st := [.inr (some 0)]) (st' := []) (zk_387 L xs) h9 (show zkd 0 = 8 from rfl) rfl (Nat.le_of_ble_eq_true rfl)]
  rw [gl_al2 (zk_390 L xs)]
  rw [gl_call (st := [.inr (some 19), .inl v]) (st' := [.inl v]) (zk_391 L xs) h10 (show zkd 19 = 9 from rfl) rfl (Nat.le_of_ble_eq_true rfl)]
  rw [gl_eq (zk_394 L xs)]
theorem law_word {L a : Nat} {xs : Nat → Int32} {M M1 M2 : MM} {v : Int32} (hL : L ≤ 4608) (ha : a + 9 ≤ L) (h9 : mX9_word [.inr (some 0), .inl (xs (a + 1)), .inl (xs (a + 2))] M = some (some (.inl v), M1)) (h10 : mX10_word [.inr (some 19), .inl (xs (a + 1)), .inl (xs (a + 2))] M1 = some (some (.inl v), M2)) : gL L xs 399 (lsL a) [] M = gL L xs 563 (lsL a) [] M2 := by
  rw [gl_al1 (zk_399 L xs)]
  rw [gl_ld (c := 1) (zk_400 L xs) (zk_401 L xs) (zk_402 L xs) (zk_403 L xs) (zk_404 L xs) (show a + 1 < L by omega) hL]
  rw [gl_ld (c := 2) (zk_405 L xs) (zk_406 L xs) (zk_407 L xs) (zk_408 L xs) (zk_409 L xs) (show a + 2 < L by omega) hL]
  rw [gl_call (st := [.inl (xs (a + 2)), .inl (xs (a + 1)), .inr (some 0)]) (st' := []) (zk_410 L xs) h9 (show zkd 0 = 8 from rfl) rfl (Nat.le_of_ble_eq_true rfl)]
  rw [gl_al2 (zk_413 L xs)]
  rw [gl_ld (c := 1) (zk_414 L xs) (zk_415 L xs) (zk_416 L xs) (zk_417 L xs) (zk_418 L xs) (show a + 1 < L by omega) hL]
  rw [gl_ld (c := 2) (zk_419 L xs) (zk_420 L xs) (zk_421 L xs) (zk_422 L xs) (zk_423 L xs) (show a + 2 < L by omega) hL]
  rw [gl_call (st := [.inl (xs (a + 2)), .inl (xs (a + 1)), .inr (some 19), .inl v]) (st' := [.inl v]) (zk_424 L xs) h10 (show zkd 19 = 9 from rfl) rfl (Nat.le_of_ble_eq_true rfl)]
  rw [gl_eq (zk_427 L xs)]
theorem law_say {L a : Nat} {xs : Nat → Int32} {M M1 M2 : MM} {v : Int32} (hL : L ≤ 4608) (ha : a + 9 ≤ L) (h9 : mX9_say [.inr (some 0)] M = some (some (.inl v), M1)) (h10 : mX10_say [.inr (some 19)] M1 = some (some (.inl v), M2)) : gL L xs 432 (lsL a) [] M = gL L xs 563 (lsL a) [] M2 := by
  rw [gl_al1 (zk_432 L xs)]
  rw [gl_call (st := [.inr (some 0)]) (st' := []) (zk_433 L xs) h9 (show zkd 0 = 8 from rfl) rfl (Nat.le_of_ble_eq_true rfl)]
  rw [gl_al2 (zk_436 L xs)]
  rw [gl_call (st := [.inr (some 19), .inl v]) (st' := [.inl v]) (zk_437 L xs) h10 (show zkd 19 = 9 from rfl) rfl (Nat.le_of_ble_eq_true rfl)]
  rw [gl_eq (zk_440 L xs)]
theorem law_goOn {L a : Nat} {xs : Nat → Int32} {M M1 M2 : MM} {v : Int32} (hL : L ≤ 4608) (ha : a + 9 ≤ L) (h9 : mX9_goOn [.inr (some 0)] M = some (some (.inl v), M1)) (h10 : mX10_goOn [.inr (some 19)] M1 = some (some (.inl v), M2)) : gL L xs 445 (lsL a) [] M = gL L xs 563 (lsL a) [] M2 := by
  rw [gl_al1 (zk_445 L xs)]
  rw [gl_call (st := [.inr (some 0)]) (st' := []) (zk_446 L xs) h9 (show zkd 0 = 8 from rfl) rfl (Nat.le_of_ble_eq_true rfl)]
  rw [gl_al2 (zk_449 L xs)]
  rw [gl_call (st := [.inr (some 19), .inl v]) (st' := [.inl v]) (zk_450 L xs) h10 (show zkd 19 = 9 from rfl) rfl (Nat.le_of_ble_eq_true rfl)]
  rw [gl_eq (zk_453 L xs)]
theorem law_told {L a : Nat} {xs : Nat → Int32} {M M1 M2 : MM} {v : Int32} (hL : L ≤ 4608) (ha : a + 9 ≤ L) (h9 : mX9_told [.inr (some 0), .inl (xs (a + 1))] M = some (some (.inl v), M1)) (h10 : mX10_told [.inr (some 19), .inl (xs (a + 1))] M1 = some (some (.inl v), M2)) : gL L xs 458 (lsL a) [] M = gL L xs 563 (lsL a) [] M2 := by
  rw [gl_al1 (zk_458 L xs)]
  rw [gl_ld (c := 1) (zk_459 L xs) (zk_460 L xs) (zk_461 L xs) (zk_462 L xs) (zk_463 L xs) (show a + 1 < L by omega) hL]
  rw [gl_call (st := [.inl (xs (a + 1)), .inr (some 0)]) (st' := []) (zk_464 L xs) h9 (show zkd 0 = 8 from rfl) rfl (Nat.le_of_ble_eq_true rfl)]
  rw [gl_al2 (zk_467 L xs)]
  rw [gl_ld (c := 1) (zk_468 L xs) (zk_469 L xs) (zk_470 L xs) (zk_471 L xs) (zk_472 L xs) (show a + 1 < L by omega) hL]
  rw [gl_call (st := [.inl (xs (a + 1)), .inr (some 19), .inl v]) (st' := [.inl v]) (zk_473 L xs) h10 (show zkd 19 = 9 from rfl) rfl (Nat.le_of_ble_eq_true rfl)]
  rw [gl_eq (zk_476 L xs)]
theorem law_about {L a : Nat} {xs : Nat → Int32} {M M1 M2 : MM} {v : Int32} (hL : L ≤ 4608) (ha : a + 9 ≤ L) (h9 : mX9_about [.inr (some 0), .inl (xs (a + 1))] M = some (some (.inl v), M1)) (h10 : mX10_about [.inr (some 19), .inl (xs (a + 1))] M1 = some (some (.inl v), M2)) : gL L xs 481 (lsL a) [] M = gL L xs 563 (lsL a) [] M2 := by
  rw [gl_al1 (zk_481 L xs)]
  rw [gl_ld (c := 1) (zk_482 L xs) (zk_483 L xs) (zk_484 L xs) (zk_485 L xs) (zk_486 L xs) (show a + 1 < L by omega) hL]
  rw [gl_call (st := [.inl (xs (a + 1)), .inr (some 0)]) (st' := []) (zk_487 L xs) h9 (show zkd 0 = 8 from rfl) rfl (Nat.le_of_ble_eq_true rfl)]
  rw [gl_al2 (zk_490 L xs)]
  rw [gl_ld (c := 1) (zk_491 L xs) (zk_492 L xs) (zk_493 L xs) (zk_494 L xs) (zk_495 L xs) (show a + 1 < L by omega) hL]
  rw [gl_call (st := [.inl (xs (a + 1)), .inr (some 19), .inl v]) (st' := [.inl v]) (zk_496 L xs) h10 (show zkd 19 = 9 from rfl) rfl (Nat.le_of_ble_eq_true rfl)]
  rw [gl_eq (zk_499 L xs)]
theorem law_field {L a : Nat} {xs : Nat → Int32} {M M1 M2 : MM} {v : Int32} (hL : L ≤ 4608) (ha : a + 9 ≤ L) (h9 : mX9_field [.inr (some 0), .inl (xs (a + 1)), .inl (xs (a + 2))] M = some (some (.inl v), M1)) (h10 : mX10_field [.inr (some 19), .inl (xs (a + 1)), .inl (xs (a + 2))] M1 = some (some (.inl v), M2)) : gL L xs 504 (lsL a) [] M = gL L xs 563 (lsL a) [] M2 := by
  rw [gl_al1 (zk_504 L xs)]
  rw [gl_ld (c := 1) (zk_505 L xs) (zk_506 L xs) (zk_507 L xs) (zk_508 L xs) (zk_509 L xs) (show a + 1 < L by omega) hL]
  rw [gl_ld (c := 2) (zk_510 L xs) (zk_511 L xs) (zk_512 L xs) (zk_513 L xs) (zk_514 L xs) (show a + 2 < L by omega) hL]
  rw [gl_call (st := [.inl (xs (a + 2)), .inl (xs (a + 1)), .inr (some 0)]) (st' := []) (zk_515 L xs) h9 (show zkd 0 = 8 from rfl) rfl (Nat.le_of_ble_eq_true rfl)]
  rw [gl_al2 (zk_518 L xs)]
  rw [gl_ld (c := 1) (zk_519 L xs) (zk_520 L xs) (zk_521 L xs) (zk_522 L xs) (zk_523 L xs) (show a + 1 < L by omega) hL]
  rw [gl_ld (c := 2) (zk_524 L xs) (zk_525 L xs) (zk_526 L xs) (zk_527 L xs) (zk_528 L xs) (show a + 2 < L by omega) hL]
  rw [gl_call (st := [.inl (xs (a + 2)), .inl (xs (a + 1)), .inr (some 19), .inl v]) (st' := [.inl v]) (zk_529 L xs) h10 (show zkd 19 = 9 from rfl) rfl (Nat.le_of_ble_eq_true rfl)]
  rw [gl_eq (zk_532 L xs)]
theorem law_hearBack {L a : Nat} {xs : Nat → Int32} {M M1 M2 : MM} {v : Int32} (hL : L ≤ 4608) (ha : a + 9 ≤ L) (h9 : mX9_hearBack [.inr (some 0)] M = some (some (.inl v), M1)) (h10 : mX10_hearBack [.inr (some 19)] M1 = some (some (.inl v), M2)) : gL L xs 537 (lsL a) [] M = gL L xs 563 (lsL a) [] M2 := by
  rw [gl_al1 (zk_537 L xs)]
  rw [gl_call (st := [.inr (some 0)]) (st' := []) (zk_538 L xs) h9 (show zkd 0 = 8 from rfl) rfl (Nat.le_of_ble_eq_true rfl)]
  rw [gl_al2 (zk_541 L xs)]
  rw [gl_call (st := [.inr (some 19), .inl v]) (st' := [.inl v]) (zk_542 L xs) h10 (show zkd 19 = 9 from rfl) rfl (Nat.le_of_ble_eq_true rfl)]
  rw [gl_eq (zk_545 L xs)]
theorem law_send {L a : Nat} {xs : Nat → Int32} {M M1 M2 : MM} {v : Int32} (hL : L ≤ 4608) (ha : a + 9 ≤ L) (h9 : mX9_send [.inr (some 0)] M = some (some (.inl v), M1)) (h10 : mX10_send [.inr (some 19)] M1 = some (some (.inl v), M2)) : gL L xs 550 (lsL a) [] M = gL L xs 563 (lsL a) [] M2 := by
  rw [gl_al1 (zk_550 L xs)]
  rw [gl_call (st := [.inr (some 0)]) (st' := []) (zk_551 L xs) h9 (show zkd 0 = 8 from rfl) rfl (Nat.le_of_ble_eq_true rfl)]
  rw [gl_al2 (zk_554 L xs)]
  rw [gl_call (st := [.inr (some 19), .inl v]) (st' := [.inl v]) (zk_555 L xs) h10 (show zkd 19 = 9 from rfl) rfl (Nat.le_of_ble_eq_true rfl)]
  rw [gl_eq (zk_558 L xs)]
