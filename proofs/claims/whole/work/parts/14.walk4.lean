/-! The tables of methods and their contracts (written by wip/whole/gen.py). -/
noncomputable def tX10_isIn : List (Nat × AI) := [(0, a_iload 1 0), (1, a_iload 2 1), (2, a_c_lt 5 14), (5, a_iload 6 0), (6, a_iload 7 2), (7, a_c_gt 10 14), (10, a_push 11 (.inl 1)), (11, a_goto 15), (14, a_push 15 (.inl 0)), (15, a_zret)]
noncomputable def mX10_isIn : List AV → MM → Option AR := zsem tX10_isIn 3 3
def wX10_isIn : List Cond := .code yX10_isIn cX10_isIn 3 (some .boolean) :: lw_g
def rX10_isIn : Room := { frames := 0, cells := 0, slots := 0, locals := 0 }
set_option maxHeartbeats 4000000 in
set_option maxRecDepth 100000 in
theorem kX10_isIn (l : Launch) (X : XC) : zM l X yX10_isIn wX10_isIn rX10_isIn mX10_isIn := by
  refine zMet tX10_isIn 3 (by decide) rfl (by decide) ?_
  intro p e s m args below meth c res hC
  obtain ⟨hx, hb, hr, hts0, hown, hml, hlk, hK⟩ := hC
  have hts : ∀ w ∈ lw_g, w.before args s = true := fun w h => hts0 w (List.mem_cons_of_mem _ h)
  have hro : 0 ≤ (headSpec wX10_isIn rX10_isIn).room.cells ∧ 0 ≤ (headSpec wX10_isIn rX10_isIn).room.slots := ⟨Nat.zero_le _, Nat.zero_le _⟩
  refine zcons (s_iload_n hx hb 0 dX10_isIn_0 rfl) ?_
  refine zcons (s_iload_n hx hb 1 dX10_isIn_1 rfl) ?_
  refine zcons (s_c_lt hx hb 14 dX10_isIn_2 (by decide)) ?_
  refine zcons (s_iload_n hx hb 0 dX10_isIn_5 rfl) ?_
  refine zcons (s_iload_n hx hb 2 dX10_isIn_6 rfl) ?_
  refine zcons (s_c_gt hx hb 14 dX10_isIn_7 (by decide)) ?_
  refine zcons (s_iconst hx hb 1 dX10_isIn_10 (by decide)) ?_
  refine zcons (s_goto hx hb 15 dX10_isIn_11 (by decide)) ?_
  refine zcons (s_iconst hx hb 0 dX10_isIn_14 (by decide)) ?_
  refine zcons (s_zret hx hb hr hK hlk dX10_isIn_15) ?_
  exact znil
noncomputable def tX10_isField : List (Nat × AI) := [(0, a_iload 1 1), (1, a_push 2 (.inl 0)), (2, a_aload 3 0), (3, a_getI 6 9 0), (6, a_push 7 (.inl 1)), (7, a_bin 8 (fun x y => x - y)), (8, a_callS 11 3 mX10_isIn), (11, a_zret)]
noncomputable def mX10_isField : List AV → MM → Option AR := zsem tX10_isField 2 2
def wX10_isField : List Cond := .code yX10_isField cX10_isField 2 (some .boolean) :: lw_g
def rX10_isField : Room := { frames := 1, cells := 0, slots := 0, locals := 22 }
set_option maxHeartbeats 4000000 in
set_option maxRecDepth 100000 in
theorem kX10_isField (l : Launch) (X : XC) : zM l X yX10_isField wX10_isField rX10_isField mX10_isField := by
  refine zMet tX10_isField 2 (by decide) rfl (by decide) ?_
  intro p e s m args below meth c res hC
  obtain ⟨hx, hb, hr, hts0, hown, hml, hlk, hK⟩ := hC
  have hts : ∀ w ∈ lw_g, w.before args s = true := fun w h => hts0 w (List.mem_cons_of_mem _ h)
  have hro : 0 ≤ (headSpec wX10_isField rX10_isField).room.cells ∧ 0 ≤ (headSpec wX10_isField rX10_isField).room.slots := ⟨Nat.zero_le _, Nat.zero_le _⟩
  refine zcons (s_iload_n hx hb 1 dX10_isField_0 rfl) ?_
  refine zcons (s_iconst hx hb 0 dX10_isField_1 (by decide)) ?_
  refine zcons (s_aload_n hx hb 0 dX10_isField_2 rfl) ?_
  refine zcons (s_getI hx hb hts hown hK zcX10 hinX10 0 (by decide) w703 rfl (zptk (by decide) (by decide +kernel)) dX10_isField_3) ?_
  refine zcons (s_iconst hx hb 1 dX10_isField_6 (by decide)) ?_
  refine zcons (s_isub hx hb dX10_isField_7) ?_
  refine zcons (s_callS (hZ := fun _ h => h) hx hb hts hml hown hK hro (kX10_isIn l X) (va_cwS 3 hts (zgoodS w836 w837 w54 w838) rfl rfl rfl (by decide +kernel) ⟨Nat.le_of_ble_eq_true rfl, Nat.le_of_ble_eq_true rfl⟩) dX10_isField_8) ?_
  refine zcons (s_zret hx hb hr hK hlk dX10_isField_11) ?_
  exact znil
noncomputable def tX10_isNew : List (Nat × AI) := [(0, a_iload 1 1), (1, a_push 3 (.inl 20)), (3, a_push 5 (.inl 59)), (5, a_callS 8 3 mX10_isIn), (8, a_if_eq 11 27), (11, a_aload 12 0), (12, a_getI 15 9 0), (15, a_push 17 (.inl 12)), (17, a_c_eq 20 27), (20, a_aload 21 0), (21, a_getI 24 9 26), (24, a_if_eq 27 29), (27, a_push 28 (.inl 0)), (28, a_zret), (29, a_push 30 (.inl 0)), (30, a_istore 31 2), (31, a_iload 32 2), (32, a_aload 33 0), (33, a_getI 36 9 0), (36, a_c_ge 39 57), (39, a_aload 40 0), (40, a_getR 43 9 (fun _ => 20)), (43, a_iload 44 2), (44, a_ald 45 10), (45, a_iload 46 1), (46, a_c_ne 49 51), (49, a_push 50 (.inl 0)), (50, a_zret), (51, a_iinc 54 2 1), (54, a_goto 31), (57, a_push 58 (.inl 1)), (58, a_zret)]
noncomputable def mX10_isNew : List AV → MM → Option AR := zsem tX10_isNew 3 2
def wX10_isNew : List Cond := .code yX10_isNew cX10_isNew 3 (some .boolean) :: lw_g
def rX10_isNew : Room := { frames := 1, cells := 0, slots := 0, locals := 22 }
set_option maxHeartbeats 4000000 in
set_option maxRecDepth 100000 in
theorem kX10_isNew (l : Launch) (X : XC) : zM l X yX10_isNew wX10_isNew rX10_isNew mX10_isNew := by
  refine zMet tX10_isNew 2 (by decide) rfl (by decide) ?_
  intro p e s m args below meth c res hC
  obtain ⟨hx, hb, hr, hts0, hown, hml, hlk, hK⟩ := hC
  have hts : ∀ w ∈ lw_g, w.before args s = true := fun w h => hts0 w (List.mem_cons_of_mem _ h)
  have hro : 0 ≤ (headSpec wX10_isNew rX10_isNew).room.cells ∧ 0 ≤ (headSpec wX10_isNew rX10_isNew).room.slots := ⟨Nat.zero_le _, Nat.zero_le _⟩
  refine zcons (s_iload_n hx hb 1 dX10_isNew_0 rfl) ?_
  refine zcons (s_bipush hx hb 20 dX10_isNew_1 (by decide)) ?_
  refine zcons (s_bipush hx hb 59 dX10_isNew_3 (by decide)) ?_
  refine zcons (s_callS (hZ := fun _ h => h) hx hb hts hml hown hK hro (kX10_isIn l X) (va_cwS 3 hts (zgoodS w836 w837 w54 w838) rfl rfl rfl (by decide +kernel) ⟨Nat.le_of_ble_eq_true rfl, Nat.le_of_ble_eq_true rfl⟩) dX10_isNew_5) ?_
  refine zcons (s_if_eq hx hb 27 dX10_isNew_8 (by decide)) ?_
  refine zcons (s_aload_n hx hb 0 dX10_isNew_11 rfl) ?_
  refine zcons (s_getI hx hb hts hown hK zcX10 hinX10 0 (by decide) w703 rfl (zptk (by decide) (by decide +kernel)) dX10_isNew_12) ?_
  refine zcons (s_bipush hx hb 12 dX10_isNew_15 (by decide)) ?_
  refine zcons (s_c_eq hx hb 27 dX10_isNew_17 (by decide)) ?_
  refine zcons (s_aload_n hx hb 0 dX10_isNew_20 rfl) ?_
  refine zcons (s_getI hx hb hts hown hK zcX10 hinX10 26 (by decide) w729 rfl (zptk (by decide) (by decide +kernel)) dX10_isNew_21) ?_
  refine zcons (s_if_eq hx hb 29 dX10_isNew_24 (by decide)) ?_
  refine zcons (s_iconst hx hb 0 dX10_isNew_27 (by decide)) ?_
  refine zcons (s_zret hx hb hr hK hlk dX10_isNew_28) ?_
  refine zcons (s_iconst hx hb 0 dX10_isNew_29 (by decide)) ?_
  refine zcons (s_istore_n hx hb 2 dX10_isNew_30 rfl) ?_
  refine zcons (s_iload_n hx hb 2 dX10_isNew_31 rfl) ?_
  refine zcons (s_aload_n hx hb 0 dX10_isNew_32 rfl) ?_
  refine zcons (s_getI hx hb hts hown hK zcX10 hinX10 0 (by decide) w703 rfl (zptk (by decide) (by decide +kernel)) dX10_isNew_33) ?_
  refine zcons (s_c_ge hx hb 57 dX10_isNew_36 (by decide)) ?_
  refine zcons (s_aload_n hx hb 0 dX10_isNew_39 rfl) ?_
  refine zcons (s_getR hx hb hts hown hK zcX10 hinX10 1 (by decide) w704 rfl (fun _ => 20) (zptf (by decide) (by decide +kernel)) dX10_isNew_40) ?_
  refine zcons (s_iload_n hx hb 2 dX10_isNew_43 rfl) ?_
  refine zcons (s_iald hx hb hK dX10_isNew_44) ?_
  refine zcons (s_iload_n hx hb 1 dX10_isNew_45 rfl) ?_
  refine zcons (s_c_ne hx hb 51 dX10_isNew_46 (by decide)) ?_
  refine zcons (s_iconst hx hb 0 dX10_isNew_49 (by decide)) ?_
  refine zcons (s_zret hx hb hr hK hlk dX10_isNew_50) ?_
  refine zcons (s_iinc hx hb 1 dX10_isNew_51 (by decide)) ?_
  refine zcons (s_goto hx hb 31 dX10_isNew_54 (by decide)) ?_
  refine zcons (s_iconst hx hb 1 dX10_isNew_57 (by decide)) ?_
  refine zcons (s_zret hx hb hr hK hlk dX10_isNew_58) ?_
  exact znil
noncomputable def tX10_comes : List (Nat × AI) := [(0, a_aload 1 0), (1, a_getR 4 9 (fun _ => 20)), (4, a_aload 5 0), (5, a_getI 8 9 0), (8, a_iload 9 1), (9, a_ast 10), (10, a_aload 11 0), (11, a_getR 14 9 (fun _ => 24)), (14, a_aload 15 0), (15, a_getI 18 9 0), (18, a_iload 19 2), (19, a_zst 20), (20, a_aload 21 0), (21, a_getR 24 9 (fun _ => 26)), (24, a_aload 25 0), (25, a_getI 28 9 0), (28, a_push 29 (.inl (-1))), (29, a_ast 30), (30, a_aload 31 0), (31, a_getR 34 9 (fun _ => 28)), (34, a_aload 35 0), (35, a_getI 38 9 0), (38, a_push 39 (.inl (-1))), (39, a_ast 40), (40, a_aload 41 0), (41, a_getI 44 9 0), (44, a_if_ne 47 52), (47, a_aload 48 0), (48, a_push 49 (.inl 0)), (49, a_put 52 9 29), (52, a_aload 53 0), (53, a_dup 54), (54, a_getI 57 9 0), (57, a_push 58 (.inl 1)), (58, a_bin 59 (fun x y => x + y)), (59, a_put 62 9 0), (62, a_aload 63 0), (63, a_getI 66 9 0), (66, a_push 67 (.inl 1)), (67, a_bin 68 (fun x y => x - y)), (68, a_iret)]
noncomputable def mX10_comes : List AV → MM → Option AR := zsem tX10_comes 3 3
def wX10_comes : List Cond := .code yX10_comes cX10_comes 3 (some .int) :: lw_g
def rX10_comes : Room := { frames := 0, cells := 0, slots := 0, locals := 0 }
set_option maxHeartbeats 4000000 in
set_option maxRecDepth 100000 in
theorem kX10_comes (l : Launch) (X : XC) : zM l X yX10_comes wX10_comes rX10_comes mX10_comes := by
  refine zMet tX10_comes 3 (by decide) rfl (by decide) ?_
  intro p e s m args below meth c res hC
  obtain ⟨hx, hb, hr, hts0, hown, hml, hlk, hK⟩ := hC
  have hts : ∀ w ∈ lw_g, w.before args s = true := fun w h => hts0 w (List.mem_cons_of_mem _ h)
  have hro : 0 ≤ (headSpec wX10_comes rX10_comes).room.cells ∧ 0 ≤ (headSpec wX10_comes rX10_comes).room.slots := ⟨Nat.zero_le _, Nat.zero_le _⟩
  refine zcons (s_aload_n hx hb 0 dX10_comes_0 rfl) ?_
  refine zcons (s_getR hx hb hts hown hK zcX10 hinX10 1 (by decide) w704 rfl (fun _ => 20) (zptf (by decide) (by decide +kernel)) dX10_comes_1) ?_
  refine zcons (s_aload_n hx hb 0 dX10_comes_4 rfl) ?_
  refine zcons (s_getI hx hb hts hown hK zcX10 hinX10 0 (by decide) w703 rfl (zptk (by decide) (by decide +kernel)) dX10_comes_5) ?_
  refine zcons (s_iload_n hx hb 1 dX10_comes_8 rfl) ?_
  refine zcons (s_iast (hZ := fun _ h => h) hx hb hK dX10_comes_9) ?_
  refine zcons (s_aload_n hx hb 0 dX10_comes_10 rfl) ?_
  refine zcons (s_getR hx hb hts hown hK zcX10 hinX10 5 (by decide) w708 rfl (fun _ => 24) (zptf (by decide) (by decide +kernel)) dX10_comes_11) ?_
  refine zcons (s_aload_n hx hb 0 dX10_comes_14 rfl) ?_
  refine zcons (s_getI hx hb hts hown hK zcX10 hinX10 0 (by decide) w703 rfl (zptk (by decide) (by decide +kernel)) dX10_comes_15) ?_
  refine zcons (s_iload_n hx hb 2 dX10_comes_18 rfl) ?_
  refine zcons (s_zast (hZ := fun _ h => h) hx hb hK dX10_comes_19) ?_
  refine zcons (s_aload_n hx hb 0 dX10_comes_20 rfl) ?_
  refine zcons (s_getR hx hb hts hown hK zcX10 hinX10 7 (by decide) w710 rfl (fun _ => 26) (zptf (by decide) (by decide +kernel)) dX10_comes_21) ?_
  refine zcons (s_aload_n hx hb 0 dX10_comes_24 rfl) ?_
  refine zcons (s_getI hx hb hts hown hK zcX10 hinX10 0 (by decide) w703 rfl (zptk (by decide) (by decide +kernel)) dX10_comes_25) ?_
  refine zcons (s_iconst hx hb (-1) dX10_comes_28 (by decide)) ?_
  refine zcons (s_iast (hZ := fun _ h => h) hx hb hK dX10_comes_29) ?_
  refine zcons (s_aload_n hx hb 0 dX10_comes_30 rfl) ?_
  refine zcons (s_getR hx hb hts hown hK zcX10 hinX10 9 (by decide) w712 rfl (fun _ => 28) (zptf (by decide) (by decide +kernel)) dX10_comes_31) ?_
  refine zcons (s_aload_n hx hb 0 dX10_comes_34 rfl) ?_
  refine zcons (s_getI hx hb hts hown hK zcX10 hinX10 0 (by decide) w703 rfl (zptk (by decide) (by decide +kernel)) dX10_comes_35) ?_
  refine zcons (s_iconst hx hb (-1) dX10_comes_38 (by decide)) ?_
  refine zcons (s_iast (hZ := fun _ h => h) hx hb hK dX10_comes_39) ?_
  refine zcons (s_aload_n hx hb 0 dX10_comes_40 rfl) ?_
  refine zcons (s_getI hx hb hts hown hK zcX10 hinX10 0 (by decide) w703 rfl (zptk (by decide) (by decide +kernel)) dX10_comes_41) ?_
  refine zcons (s_if_ne hx hb 52 dX10_comes_44 (by decide)) ?_
  refine zcons (s_aload_n hx hb 0 dX10_comes_47 rfl) ?_
  refine zcons (s_iconst hx hb 0 dX10_comes_48 (by decide)) ?_
  refine zcons (s_put (hZ := fun _ h => h) hx hb hts hown hK zcX10 hinX10 tyX10 tyX10_ok nmX10 29 (by decide) w732 rfl rfl (zptk (by decide) (by decide +kernel)) (by decide +kernel) dX10_comes_49) ?_
  refine zcons (s_aload_n hx hb 0 dX10_comes_52 rfl) ?_
  refine zcons (s_dup hx hb dX10_comes_53) ?_
  refine zcons (s_getI hx hb hts hown hK zcX10 hinX10 0 (by decide) w703 rfl (zptk (by decide) (by decide +kernel)) dX10_comes_54) ?_
  refine zcons (s_iconst hx hb 1 dX10_comes_57 (by decide)) ?_
  refine zcons (s_iadd hx hb dX10_comes_58) ?_
  refine zcons (s_put (hZ := fun _ h => h) hx hb hts hown hK zcX10 hinX10 tyX10 tyX10_ok nmX10 0 (by decide) w703 rfl rfl (zptk (by decide) (by decide +kernel)) (by decide +kernel) dX10_comes_59) ?_
  refine zcons (s_aload_n hx hb 0 dX10_comes_62 rfl) ?_
  refine zcons (s_getI hx hb hts hown hK zcX10 hinX10 0 (by decide) w703 rfl (zptk (by decide) (by decide +kernel)) dX10_comes_63) ?_
  refine zcons (s_iconst hx hb 1 dX10_comes_66 (by decide)) ?_
  refine zcons (s_isub hx hb dX10_comes_67) ?_
  refine zcons (s_iret hx hb hr hK hlk dX10_comes_68) ?_
  exact znil
noncomputable def tX10_digits : List (Nat × AI) := [(0, a_aload 1 0), (1, a_iload 2 1), (2, a_callV 5 1 9 mX10_isNew), (5, a_if_eq 8 18), (8, a_iload 9 2), (9, a_push 10 (.inl 1)), (10, a_push 12 (.inl 8)), (12, a_callS 15 3 mX10_isIn), (15, a_if_ne 18 20), (18, a_push 19 (.inl (-1))), (19, a_iret), (20, a_aload 21 0), (21, a_getR 24 9 (fun _ => 21)), (24, a_aload 25 0), (25, a_getI 28 9 0), (28, a_iload 29 2), (29, a_ast 30), (30, a_aload 31 0), (31, a_getR 34 9 (fun _ => 23)), (34, a_aload 35 0), (35, a_getI 38 9 0), (38, a_iload 39 3), (39, a_zst 40), (40, a_aload 41 0), (41, a_iload 42 1), (42, a_iload 44 4), (44, a_callV 47 2 9 mX10_comes), (47, a_iret)]
noncomputable def mX10_digits : List AV → MM → Option AR := zsem tX10_digits 5 5
def wX10_digits : List Cond := .code yX10_digits cX10_digits 5 (some .int) :: lw_g
def rX10_digits : Room := { frames := 2, cells := 0, slots := 0, locals := 44 }
set_option maxHeartbeats 4000000 in
set_option maxRecDepth 100000 in
theorem kX10_digits (l : Launch) (X : XC) : zM l X yX10_digits wX10_digits rX10_digits mX10_digits := by
  refine zMet tX10_digits 5 (by decide) rfl (by decide) ?_
  intro p e s m args below meth c res hC
  obtain ⟨hx, hb, hr, hts0, hown, hml, hlk, hK⟩ := hC
  have hts : ∀ w ∈ lw_g, w.before args s = true := fun w h => hts0 w (List.mem_cons_of_mem _ h)
  have hro : 0 ≤ (headSpec wX10_digits rX10_digits).room.cells ∧ 0 ≤ (headSpec wX10_digits rX10_digits).room.slots := ⟨Nat.zero_le _, Nat.zero_le _⟩
  refine zcons (s_aload_n hx hb 0 dX10_digits_0 rfl) ?_
  refine zcons (s_iload_n hx hb 1 dX10_digits_1 rfl) ?_
  refine zcons (s_callV (hZ := fun _ h => h) hx hb hts hml hown hK hro zcX10 (kX10_isNew l X) (zgoodV w832 w834 w21 w54 w835) rfl rfl rfl (by decide +kernel) ⟨Nat.le_of_ble_eq_true rfl, Nat.le_of_ble_eq_true rfl⟩ dX10_digits_2) ?_
  refine zcons (s_if_eq hx hb 18 dX10_digits_5 (by decide)) ?_
  refine zcons (s_iload_n hx hb 2 dX10_digits_8 rfl) ?_
  refine zcons (s_iconst hx hb 1 dX10_digits_9 (by decide)) ?_
  refine zcons (s_bipush hx hb 8 dX10_digits_10 (by decide)) ?_
  refine zcons (s_callS (hZ := fun _ h => h) hx hb hts hml hown hK hro (kX10_isIn l X) (va_cwS 3 hts (zgoodS w836 w837 w54 w838) rfl rfl rfl (by decide +kernel) ⟨Nat.le_of_ble_eq_true rfl, Nat.le_of_ble_eq_true rfl⟩) dX10_digits_12) ?_
  refine zcons (s_if_ne hx hb 20 dX10_digits_15 (by decide)) ?_
  refine zcons (s_iconst hx hb (-1) dX10_digits_18 (by decide)) ?_
  refine zcons (s_iret hx hb hr hK hlk dX10_digits_19) ?_
  refine zcons (s_aload_n hx hb 0 dX10_digits_20 rfl) ?_
  refine zcons (s_getR hx hb hts hown hK zcX10 hinX10 2 (by decide) w705 rfl (fun _ => 21) (zptf (by decide) (by decide +kernel)) dX10_digits_21) ?_
  refine zcons (s_aload_n hx hb 0 dX10_digits_24 rfl) ?_
  refine zcons (s_getI hx hb hts hown hK zcX10 hinX10 0 (by decide) w703 rfl (zptk (by decide) (by decide +kernel)) dX10_digits_25) ?_
  refine zcons (s_iload_n hx hb 2 dX10_digits_28 rfl) ?_
  refine zcons (s_iast (hZ := fun _ h => h) hx hb hK dX10_digits_29) ?_
  refine zcons (s_aload_n hx hb 0 dX10_digits_30 rfl) ?_
  refine zcons (s_getR hx hb hts hown hK zcX10 hinX10 4 (by decide) w707 rfl (fun _ => 23) (zptf (by decide) (by decide +kernel)) dX10_digits_31) ?_
  refine zcons (s_aload_n hx hb 0 dX10_digits_34 rfl) ?_
  refine zcons (s_getI hx hb hts hown hK zcX10 hinX10 0 (by decide) w703 rfl (zptk (by decide) (by decide +kernel)) dX10_digits_35) ?_
  refine zcons (s_iload_n hx hb 3 dX10_digits_38 rfl) ?_
  refine zcons (s_zast (hZ := fun _ h => h) hx hb hK dX10_digits_39) ?_
  refine zcons (s_aload_n hx hb 0 dX10_digits_40 rfl) ?_
  refine zcons (s_iload_n hx hb 1 dX10_digits_41 rfl) ?_
  refine zcons (s_iload hx hb dX10_digits_42) ?_
  refine zcons (s_callV (hZ := fun _ h => h) hx hb hts hml hown hK hro zcX10 (kX10_comes l X) (zgoodV w839 w841 w22 w54 w842) rfl rfl rfl (by decide +kernel) ⟨Nat.le_of_ble_eq_true rfl, Nat.le_of_ble_eq_true rfl⟩ dX10_digits_44) ?_
  refine zcons (s_iret hx hb hr hK hlk dX10_digits_47) ?_
  exact znil
noncomputable def tX10_choice : List (Nat × AI) := [(0, a_aload 1 0), (1, a_getR 4 9 (fun _ => 31)), (4, a_push 5 (.inl 0)), (5, a_iload 6 3), (6, a_ast 7), (7, a_aload 8 0), (8, a_getR 11 9 (fun _ => 31)), (11, a_push 12 (.inl 1)), (12, a_iload 14 4), (14, a_ast 15), (15, a_aload 16 0), (16, a_getR 19 9 (fun _ => 31)), (19, a_push 20 (.inl 2)), (20, a_iload 22 5), (22, a_ast 23), (23, a_aload 24 0), (24, a_getR 27 9 (fun _ => 31)), (27, a_push 28 (.inl 3)), (28, a_iload 30 6), (30, a_ast 31), (31, a_aload 32 0), (32, a_getR 35 9 (fun _ => 31)), (35, a_push 36 (.inl 4)), (36, a_iload 38 7), (38, a_ast 39), (39, a_aload 40 0), (40, a_getR 43 9 (fun _ => 31)), (43, a_push 44 (.inl 5)), (44, a_iload 46 8), (46, a_ast 47), (47, a_push 48 (.inl 0)), (48, a_istore 50 9), (50, a_iload 52 9), (52, a_push 54 (.inl 6)), (54, a_c_ge 57 74), (57, a_aload 58 0), (58, a_getR 61 9 (fun _ => 31)), (61, a_iload 63 9), (63, a_ald 64 10), (64, a_push 65 (.inl (-1))), (65, a_c_eq 68 74), (68, a_iinc 71 9 1), (71, a_goto 50), (74, a_aload 75 0), (75, a_iload 76 1), (76, a_callV 79 1 9 mX10_isNew), (79, a_if_eq 82 91), (82, a_iload 84 9), (84, a_if_le 87 91), (87, a_push 88 (.inl 1)), (88, a_goto 92), (91, a_push 92 (.inl 0)), (92, a_istore 94 10), (94, a_push 95 (.inl 0)), (95, a_istore 97 11), (97, a_iload 99 11), (99, a_iload 101 9), (101, a_c_ge 104 184), (104, a_iload 106 10), (106, a_if_eq 109 130), (109, a_aload 110 0), (110, a_getR 113 9 (fun _ => 31)), (113, a_iload 115 11), (115, a_ald 116 10), (116, a_push 118 (.inl 20)), (118, a_push 120 (.inl 59)), (120, a_callS 123 3 mX10_isIn), (123, a_if_eq 126 130), (126, a_push 127 (.inl 1)), (127, a_goto 131), (130, a_push 131 (.inl 0)), (131, a_istore 133 10), (133, a_push 134 (.inl 0)), (134, a_istore 136 12), (136, a_iload 138 12), (138, a_iload 140 11), (140, a_c_ge 143 178), (143, a_iload 145 10), (145, a_if_eq 148 169), (148, a_aload 149 0), (149, a_getR 152 9 (fun _ => 31)), (152, a_iload 154 12), (154, a_ald 155 10), (155, a_aload 156 0), (156, a_getR 159 9 (fun _ => 31)), (159, a_iload 161 11), (161, a_ald 162 10), (162, a_c_eq 165 169), (165, a_push 166 (.inl 1)), (166, a_goto 170), (169, a_push 170 (.inl 0)), (170, a_istore 172 10), (172, a_iinc 175 12 1), (175, a_goto 136), (178, a_iinc 181 11 1), (181, a_goto 97), (184, a_iload 186 10), (186, a_if_ne 189 191), (189, a_push 190 (.inl (-1))), (190, a_iret), (191, a_push 192 (.inl 0)), (192, a_istore 194 11), (194, a_iload 196 11), (196, a_iload 198 9), (198, a_c_ge 201 229), (201, a_aload 202 0), (202, a_getR 205 9 (fun _ => 25)), (205, a_push 207 (.inl 6)), (207, a_aload 208 0), (208, a_getI 211 9 0), (211, a_bin 212 (fun x y => x * y)), (212, a_iload 214 11), (214, a_bin 215 (fun x y => x + y)), (215, a_aload 216 0), (216, a_getR 219 9 (fun _ => 31)), (219, a_iload 221 11), (221, a_ald 222 10), (222, a_ast 223), (223, a_iinc 226 11 1), (226, a_goto 194), (229, a_aload 230 0), (230, a_getR 233 9 (fun _ => 22)), (233, a_aload 234 0), (234, a_getI 237 9 0), (237, a_iload 239 9), (239, a_ast 240), (240, a_aload 241 0), (241, a_iload 242 1), (242, a_iload 243 2), (243, a_callV 246 2 9 mX10_comes), (246, a_iret)]
noncomputable def mX10_choice : List AV → MM → Option AR := zsem tX10_choice 13 9
def wX10_choice : List Cond := .code yX10_choice cX10_choice 13 (some .int) :: lw_g
def rX10_choice : Room := { frames := 2, cells := 0, slots := 0, locals := 44 }
set_option maxHeartbeats 4000000 in
set_option maxRecDepth 100000 in
theorem kX10_choice (l : Launch) (X : XC) : zM l X yX10_choice wX10_choice rX10_choice mX10_choice := by
  refine zMet tX10_choice 9 (by decide) rfl (by decide) ?_
  intro p e s m args below meth c res hC
  obtain ⟨hx, hb, hr, hts0, hown, hml, hlk, hK⟩ := hC
  have hts : ∀ w ∈ lw_g, w.before args s = true := fun w h => hts0 w (List.mem_cons_of_mem _ h)
  have hro : 0 ≤ (headSpec wX10_choice rX10_choice).room.cells ∧ 0 ≤ (headSpec wX10_choice rX10_choice).room.slots := ⟨Nat.zero_le _, Nat.zero_le _⟩
  refine zcons (s_aload_n hx hb 0 dX10_choice_0 rfl) ?_
  refine zcons (s_getR hx hb hts hown hK zcX10 hinX10 15 (by decide) w718 rfl (fun _ => 31) (zptf (by decide) (by decide +kernel)) dX10_choice_1) ?_
  refine zcons (s_iconst hx hb 0 dX10_choice_4 (by decide)) ?_
  refine zcons (s_iload_n hx hb 3 dX10_choice_5 rfl) ?_
  refine zcons (s_iast (hZ := fun _ h => h) hx hb hK dX10_choice_6) ?_
  refine zcons (s_aload_n hx hb 0 dX10_choice_7 rfl) ?_
  refine zcons (s_getR hx hb hts hown hK zcX10 hinX10 15 (by decide) w718 rfl (fun _ => 31) (zptf (by decide) (by decide +kernel)) dX10_choice_8) ?_
  refine zcons (s_iconst hx hb 1 dX10_choice_11 (by decide)) ?_
  refine zcons (s_iload hx hb dX10_choice_12) ?_
  refine zcons (s_iast (hZ := fun _ h => h) hx hb hK dX10_choice_14) ?_
  refine zcons (s_aload_n hx hb 0 dX10_choice_15 rfl) ?_
  refine zcons (s_getR hx hb hts hown hK zcX10 hinX10 15 (by decide) w718 rfl (fun _ => 31) (zptf (by decide) (by decide +kernel)) dX10_choice_16) ?_
  refine zcons (s_iconst hx hb 2 dX10_choice_19 (by decide)) ?_
  refine zcons (s_iload hx hb dX10_choice_20) ?_
  refine zcons (s_iast (hZ := fun _ h => h) hx hb hK dX10_choice_22) ?_
  refine zcons (s_aload_n hx hb 0 dX10_choice_23 rfl) ?_
  refine zcons (s_getR hx hb hts hown hK zcX10 hinX10 15 (by decide) w718 rfl (fun _ => 31) (zptf (by decide) (by decide +kernel)) dX10_choice_24) ?_
  refine zcons (s_iconst hx hb 3 dX10_choice_27 (by decide)) ?_
  refine zcons (s_iload hx hb dX10_choice_28) ?_
  refine zcons (s_iast (hZ := fun _ h => h) hx hb hK dX10_choice_30) ?_
  refine zcons (s_aload_n hx hb 0 dX10_choice_31 rfl) ?_
  refine zcons (s_getR hx hb hts hown hK zcX10 hinX10 15 (by decide) w718 rfl (fun _ => 31) (zptf (by decide) (by decide +kernel)) dX10_choice_32) ?_
  refine zcons (s_iconst hx hb 4 dX10_choice_35 (by decide)) ?_
  refine zcons (s_iload hx hb dX10_choice_36) ?_
  refine zcons (s_iast (hZ := fun _ h => h) hx hb hK dX10_choice_38) ?_
  refine zcons (s_aload_n hx hb 0 dX10_choice_39 rfl) ?_
  refine zcons (s_getR hx hb hts hown hK zcX10 hinX10 15 (by decide) w718 rfl (fun _ => 31) (zptf (by decide) (by decide +kernel)) dX10_choice_40) ?_
  refine zcons (s_iconst hx hb 5 dX10_choice_43 (by decide)) ?_
  refine zcons (s_iload hx hb dX10_choice_44) ?_
  refine zcons (s_iast (hZ := fun _ h => h) hx hb hK dX10_choice_46) ?_
  refine zcons (s_iconst hx hb 0 dX10_choice_47 (by decide)) ?_
  refine zcons (s_istore hx hb dX10_choice_48) ?_
  refine zcons (s_iload hx hb dX10_choice_50) ?_
  refine zcons (s_bipush hx hb 6 dX10_choice_52 (by decide)) ?_
  refine zcons (s_c_ge hx hb 74 dX10_choice_54 (by decide)) ?_
  refine zcons (s_aload_n hx hb 0 dX10_choice_57 rfl) ?_
  refine zcons (s_getR hx hb hts hown hK zcX10 hinX10 15 (by decide) w718 rfl (fun _ => 31) (zptf (by decide) (by decide +kernel)) dX10_choice_58) ?_
  refine zcons (s_iload hx hb dX10_choice_61) ?_
  refine zcons (s_iald hx hb hK dX10_choice_63) ?_
  refine zcons (s_iconst hx hb (-1) dX10_choice_64 (by decide)) ?_
  refine zcons (s_c_eq hx hb 74 dX10_choice_65 (by decide)) ?_
  refine zcons (s_iinc hx hb 1 dX10_choice_68 (by decide)) ?_
  refine zcons (s_goto hx hb 50 dX10_choice_71 (by decide)) ?_
  refine zcons (s_aload_n hx hb 0 dX10_choice_74 rfl) ?_
  refine zcons (s_iload_n hx hb 1 dX10_choice_75 rfl) ?_
  refine zcons (s_callV (hZ := fun _ h => h) hx hb hts hml hown hK hro zcX10 (kX10_isNew l X) (zgoodV w832 w834 w21 w54 w835) rfl rfl rfl (by decide +kernel) ⟨Nat.le_of_ble_eq_true rfl, Nat.le_of_ble_eq_true rfl⟩ dX10_choice_76) ?_
  refine zcons (s_if_eq hx hb 91 dX10_choice_79 (by decide)) ?_
  refine zcons (s_iload hx hb dX10_choice_82) ?_
  refine zcons (s_if_le hx hb 91 dX10_choice_84 (by decide)) ?_
  refine zcons (s_iconst hx hb 1 dX10_choice_87 (by decide)) ?_
  refine zcons (s_goto hx hb 92 dX10_choice_88 (by decide)) ?_
  refine zcons (s_iconst hx hb 0 dX10_choice_91 (by decide)) ?_
  refine zcons (s_istore hx hb dX10_choice_92) ?_
  refine zcons (s_iconst hx hb 0 dX10_choice_94 (by decide)) ?_
  refine zcons (s_istore hx hb dX10_choice_95) ?_
  refine zcons (s_iload hx hb dX10_choice_97) ?_
  refine zcons (s_iload hx hb dX10_choice_99) ?_
  refine zcons (s_c_ge hx hb 184 dX10_choice_101 (by decide)) ?_
  refine zcons (s_iload hx hb dX10_choice_104) ?_
  refine zcons (s_if_eq hx hb 130 dX10_choice_106 (by decide)) ?_
  refine zcons (s_aload_n hx hb 0 dX10_choice_109 rfl) ?_
  refine zcons (s_getR hx hb hts hown hK zcX10 hinX10 15 (by decide) w718 rfl (fun _ => 31) (zptf (by decide) (by decide +kernel)) dX10_choice_110) ?_
  refine zcons (s_iload hx hb dX10_choice_113) ?_
  refine zcons (s_iald hx hb hK dX10_choice_115) ?_
  refine zcons (s_bipush hx hb 20 dX10_choice_116 (by decide)) ?_
  refine zcons (s_bipush hx hb 59 dX10_choice_118 (by decide)) ?_
  refine zcons (s_callS (hZ := fun _ h => h) hx hb hts hml hown hK hro (kX10_isIn l X) (va_cwS 3 hts (zgoodS w836 w837 w54 w838) rfl rfl rfl (by decide +kernel) ⟨Nat.le_of_ble_eq_true rfl, Nat.le_of_ble_eq_true rfl⟩) dX10_choice_120) ?_
  refine zcons (s_if_eq hx hb 130 dX10_choice_123 (by decide)) ?_
  refine zcons (s_iconst hx hb 1 dX10_choice_126 (by decide)) ?_
  refine zcons (s_goto hx hb 131 dX10_choice_127 (by decide)) ?_
  refine zcons (s_iconst hx hb 0 dX10_choice_130 (by decide)) ?_
  refine zcons (s_istore hx hb dX10_choice_131) ?_
  refine zcons (s_iconst hx hb 0 dX10_choice_133 (by decide)) ?_
  refine zcons (s_istore hx hb dX10_choice_134) ?_
  refine zcons (s_iload hx hb dX10_choice_136) ?_
  refine zcons (s_iload hx hb dX10_choice_138) ?_
  refine zcons (s_c_ge hx hb 178 dX10_choice_140 (by decide)) ?_
  refine zcons (s_iload hx hb dX10_choice_143) ?_
  refine zcons (s_if_eq hx hb 169 dX10_choice_145 (by decide)) ?_
  refine zcons (s_aload_n hx hb 0 dX10_choice_148 rfl) ?_
  refine zcons (s_getR hx hb hts hown hK zcX10 hinX10 15 (by decide) w718 rfl (fun _ => 31) (zptf (by decide) (by decide +kernel)) dX10_choice_149) ?_
  refine zcons (s_iload hx hb dX10_choice_152) ?_
  refine zcons (s_iald hx hb hK dX10_choice_154) ?_
  refine zcons (s_aload_n hx hb 0 dX10_choice_155 rfl) ?_
  refine zcons (s_getR hx hb hts hown hK zcX10 hinX10 15 (by decide) w718 rfl (fun _ => 31) (zptf (by decide) (by decide +kernel)) dX10_choice_156) ?_
  refine zcons (s_iload hx hb dX10_choice_159) ?_
  refine zcons (s_iald hx hb hK dX10_choice_161) ?_
  refine zcons (s_c_eq hx hb 169 dX10_choice_162 (by decide)) ?_
  refine zcons (s_iconst hx hb 1 dX10_choice_165 (by decide)) ?_
  refine zcons (s_goto hx hb 170 dX10_choice_166 (by decide)) ?_
  refine zcons (s_iconst hx hb 0 dX10_choice_169 (by decide)) ?_
  refine zcons (s_istore hx hb dX10_choice_170) ?_
  refine zcons (s_iinc hx hb 1 dX10_choice_172 (by decide)) ?_
  refine zcons (s_goto hx hb 136 dX10_choice_175 (by decide)) ?_
  refine zcons (s_iinc hx hb 1 dX10_choice_178 (by decide)) ?_
  refine zcons (s_goto hx hb 97 dX10_choice_181 (by decide)) ?_
  refine zcons (s_iload hx hb dX10_choice_184) ?_
  refine zcons (s_if_ne hx hb 191 dX10_choice_186 (by decide)) ?_
  refine zcons (s_iconst hx hb (-1) dX10_choice_189 (by decide)) ?_
  refine zcons (s_iret hx hb hr hK hlk dX10_choice_190) ?_
  refine zcons (s_iconst hx hb 0 dX10_choice_191 (by decide)) ?_
  refine zcons (s_istore hx hb dX10_choice_192) ?_
  refine zcons (s_iload hx hb dX10_choice_194) ?_
  refine zcons (s_iload hx hb dX10_choice_196) ?_
  refine zcons (s_c_ge hx hb 229 dX10_choice_198 (by decide)) ?_
  refine zcons (s_aload_n hx hb 0 dX10_choice_201 rfl) ?_
  refine zcons (s_getR hx hb hts hown hK zcX10 hinX10 6 (by decide) w709 rfl (fun _ => 25) (zptf (by decide) (by decide +kernel)) dX10_choice_202) ?_
  refine zcons (s_bipush hx hb 6 dX10_choice_205 (by decide)) ?_
  refine zcons (s_aload_n hx hb 0 dX10_choice_207 rfl) ?_
  refine zcons (s_getI hx hb hts hown hK zcX10 hinX10 0 (by decide) w703 rfl (zptk (by decide) (by decide +kernel)) dX10_choice_208) ?_
  refine zcons (s_imul hx hb dX10_choice_211) ?_
  refine zcons (s_iload hx hb dX10_choice_212) ?_
  refine zcons (s_iadd hx hb dX10_choice_214) ?_
  refine zcons (s_aload_n hx hb 0 dX10_choice_215 rfl) ?_
  refine zcons (s_getR hx hb hts hown hK zcX10 hinX10 15 (by decide) w718 rfl (fun _ => 31) (zptf (by decide) (by decide +kernel)) dX10_choice_216) ?_
  refine zcons (s_iload hx hb dX10_choice_219) ?_
  refine zcons (s_iald hx hb hK dX10_choice_221) ?_
  refine zcons (s_iast (hZ := fun _ h => h) hx hb hK dX10_choice_222) ?_
  refine zcons (s_iinc hx hb 1 dX10_choice_223 (by decide)) ?_
  refine zcons (s_goto hx hb 194 dX10_choice_226 (by decide)) ?_
  refine zcons (s_aload_n hx hb 0 dX10_choice_229 rfl) ?_
  refine zcons (s_getR hx hb hts hown hK zcX10 hinX10 3 (by decide) w706 rfl (fun _ => 22) (zptf (by decide) (by decide +kernel)) dX10_choice_230) ?_
  refine zcons (s_aload_n hx hb 0 dX10_choice_233 rfl) ?_
  refine zcons (s_getI hx hb hts hown hK zcX10 hinX10 0 (by decide) w703 rfl (zptk (by decide) (by decide +kernel)) dX10_choice_234) ?_
  refine zcons (s_iload hx hb dX10_choice_237) ?_
  refine zcons (s_iast (hZ := fun _ h => h) hx hb hK dX10_choice_239) ?_
  refine zcons (s_aload_n hx hb 0 dX10_choice_240 rfl) ?_
  refine zcons (s_iload_n hx hb 1 dX10_choice_241 rfl) ?_
  refine zcons (s_iload_n hx hb 2 dX10_choice_242 rfl) ?_
  refine zcons (s_callV (hZ := fun _ h => h) hx hb hts hml hown hK hro zcX10 (kX10_comes l X) (zgoodV w839 w841 w22 w54 w842) rfl rfl rfl (by decide +kernel) ⟨Nat.le_of_ble_eq_true rfl, Nat.le_of_ble_eq_true rfl⟩ dX10_choice_243) ?_
  refine zcons (s_iret hx hb hr hK hlk dX10_choice_246) ?_
  exact znil
noncomputable def tX10_needs : List (Nat × AI) := [(0, a_aload 1 0), (1, a_iload 2 1), (2, a_callV 5 1 9 mX10_isField), (5, a_if_eq 8 51), (8, a_iload 9 2), (9, a_push 10 (.inl 0)), (10, a_iload 11 1), (11, a_push 12 (.inl 1)), (12, a_bin 13 (fun x y => x - y)), (13, a_callS 16 3 mX10_isIn), (16, a_if_eq 19 51), (19, a_aload 20 0), (20, a_getR 23 9 (fun _ => 22)), (23, a_iload 24 2), (24, a_ald 25 10), (25, a_if_eq 28 51), (28, a_iload 29 3), (29, a_push 30 (.inl 0)), (30, a_aload 31 0), (31, a_getR 34 9 (fun _ => 22)), (34, a_iload 35 2), (35, a_ald 36 10), (36, a_push 37 (.inl 1)), (37, a_bin 38 (fun x y => x - y)), (38, a_callS 41 3 mX10_isIn), (41, a_if_eq 44 51), (44, a_aload 45 0), (45, a_getI 48 9 26), (48, a_if_eq 51 53), (51, a_push 52 (.inl 0)), (52, a_zret), (53, a_aload 54 0), (54, a_getR 57 9 (fun _ => 26)), (57, a_iload 58 1), (58, a_iload 59 2), (59, a_ast 60), (60, a_aload 61 0), (61, a_getR 64 9 (fun _ => 27)), (64, a_iload 65 1), (65, a_iload 66 3), (66, a_ast 67), (67, a_push 68 (.inl 1)), (68, a_zret)]
noncomputable def mX10_needs : List AV → MM → Option AR := zsem tX10_needs 4 4
def wX10_needs : List Cond := .code yX10_needs cX10_needs 4 (some .boolean) :: lw_g
def rX10_needs : Room := { frames := 2, cells := 0, slots := 0, locals := 43 }
set_option maxHeartbeats 4000000 in
set_option maxRecDepth 100000 in
theorem kX10_needs (l : Launch) (X : XC) : zM l X yX10_needs wX10_needs rX10_needs mX10_needs := by
  refine zMet tX10_needs 4 (by decide) rfl (by decide) ?_
  intro p e s m args below meth c res hC
  obtain ⟨hx, hb, hr, hts0, hown, hml, hlk, hK⟩ := hC
  have hts : ∀ w ∈ lw_g, w.before args s = true := fun w h => hts0 w (List.mem_cons_of_mem _ h)
  have hro : 0 ≤ (headSpec wX10_needs rX10_needs).room.cells ∧ 0 ≤ (headSpec wX10_needs rX10_needs).room.slots := ⟨Nat.zero_le _, Nat.zero_le _⟩
  refine zcons (s_aload_n hx hb 0 dX10_needs_0 rfl) ?_
  refine zcons (s_iload_n hx hb 1 dX10_needs_1 rfl) ?_
  refine zcons (s_callV (hZ := fun _ h => h) hx hb hts hml hown hK hro zcX10 (kX10_isField l X) (zgoodV w851 w853 w23 w54 w854) rfl rfl rfl (by decide +kernel) ⟨Nat.le_of_ble_eq_true rfl, Nat.le_of_ble_eq_true rfl⟩ dX10_needs_2) ?_
  refine zcons (s_if_eq hx hb 51 dX10_needs_5 (by decide)) ?_
  refine zcons (s_iload_n hx hb 2 dX10_needs_8 rfl) ?_
  refine zcons (s_iconst hx hb 0 dX10_needs_9 (by decide)) ?_
  refine zcons (s_iload_n hx hb 1 dX10_needs_10 rfl) ?_
  refine zcons (s_iconst hx hb 1 dX10_needs_11 (by decide)) ?_
  refine zcons (s_isub hx hb dX10_needs_12) ?_
  refine zcons (s_callS (hZ := fun _ h => h) hx hb hts hml hown hK hro (kX10_isIn l X) (va_cwS 3 hts (zgoodS w836 w837 w54 w838) rfl rfl rfl (by decide +kernel) ⟨Nat.le_of_ble_eq_true rfl, Nat.le_of_ble_eq_true rfl⟩) dX10_needs_13) ?_
  refine zcons (s_if_eq hx hb 51 dX10_needs_16 (by decide)) ?_
  refine zcons (s_aload_n hx hb 0 dX10_needs_19 rfl) ?_
  refine zcons (s_getR hx hb hts hown hK zcX10 hinX10 3 (by decide) w706 rfl (fun _ => 22) (zptf (by decide) (by decide +kernel)) dX10_needs_20) ?_
  refine zcons (s_iload_n hx hb 2 dX10_needs_23 rfl) ?_
  refine zcons (s_iald hx hb hK dX10_needs_24) ?_
  refine zcons (s_if_eq hx hb 51 dX10_needs_25 (by decide)) ?_
  refine zcons (s_iload_n hx hb 3 dX10_needs_28 rfl) ?_
  refine zcons (s_iconst hx hb 0 dX10_needs_29 (by decide)) ?_
  refine zcons (s_aload_n hx hb 0 dX10_needs_30 rfl) ?_
  refine zcons (s_getR hx hb hts hown hK zcX10 hinX10 3 (by decide) w706 rfl (fun _ => 22) (zptf (by decide) (by decide +kernel)) dX10_needs_31) ?_
  refine zcons (s_iload_n hx hb 2 dX10_needs_34 rfl) ?_
  refine zcons (s_iald hx hb hK dX10_needs_35) ?_
  refine zcons (s_iconst hx hb 1 dX10_needs_36 (by decide)) ?_
  refine zcons (s_isub hx hb dX10_needs_37) ?_
  refine zcons (s_callS (hZ := fun _ h => h) hx hb hts hml hown hK hro (kX10_isIn l X) (va_cwS 3 hts (zgoodS w836 w837 w54 w838) rfl rfl rfl (by decide +kernel) ⟨Nat.le_of_ble_eq_true rfl, Nat.le_of_ble_eq_true rfl⟩) dX10_needs_38) ?_
  refine zcons (s_if_eq hx hb 51 dX10_needs_41 (by decide)) ?_
  refine zcons (s_aload_n hx hb 0 dX10_needs_44 rfl) ?_
  refine zcons (s_getI hx hb hts hown hK zcX10 hinX10 26 (by decide) w729 rfl (zptk (by decide) (by decide +kernel)) dX10_needs_45) ?_
  refine zcons (s_if_eq hx hb 53 dX10_needs_48 (by decide)) ?_
  refine zcons (s_iconst hx hb 0 dX10_needs_51 (by decide)) ?_
  refine zcons (s_zret hx hb hr hK hlk dX10_needs_52) ?_
  refine zcons (s_aload_n hx hb 0 dX10_needs_53 rfl) ?_
  refine zcons (s_getR hx hb hts hown hK zcX10 hinX10 7 (by decide) w710 rfl (fun _ => 26) (zptf (by decide) (by decide +kernel)) dX10_needs_54) ?_
  refine zcons (s_iload_n hx hb 1 dX10_needs_57 rfl) ?_
  refine zcons (s_iload_n hx hb 2 dX10_needs_58 rfl) ?_
  refine zcons (s_iast (hZ := fun _ h => h) hx hb hK dX10_needs_59) ?_
  refine zcons (s_aload_n hx hb 0 dX10_needs_60 rfl) ?_
  refine zcons (s_getR hx hb hts hown hK zcX10 hinX10 8 (by decide) w711 rfl (fun _ => 27) (zptf (by decide) (by decide +kernel)) dX10_needs_61) ?_
  refine zcons (s_iload_n hx hb 1 dX10_needs_64 rfl) ?_
  refine zcons (s_iload_n hx hb 3 dX10_needs_65 rfl) ?_
  refine zcons (s_iast (hZ := fun _ h => h) hx hb hK dX10_needs_66) ?_
  refine zcons (s_iconst hx hb 1 dX10_needs_67 (by decide)) ?_
  refine zcons (s_zret hx hb hr hK hlk dX10_needs_68) ?_
  exact znil
noncomputable def tX10_costs : List (Nat × AI) := [(0, a_iload 1 1), (1, a_push 2 (.inl 0)), (2, a_push 4 (.inl 99)), (4, a_callS 7 3 mX10_isIn), (7, a_if_eq 10 31), (10, a_iload 11 2), (11, a_push 12 (.inl 0)), (12, a_push 14 (.inl 99)), (14, a_callS 17 3 mX10_isIn), (17, a_if_eq 20 31), (20, a_iload 21 3), (21, a_push 22 (.inl 0)), (22, a_push 25 (.inl 200)), (25, a_callS 28 3 mX10_isIn), (28, a_if_ne 31 33), (31, a_push 32 (.inl 0)), (32, a_zret), (33, a_aload 34 0), (34, a_iload 35 1), (35, a_put 38 9 12), (38, a_aload 39 0), (39, a_iload 40 2), (40, a_put 43 9 13), (43, a_aload 44 0), (44, a_iload 45 3), (45, a_put 48 9 14), (48, a_push 49 (.inl 1)), (49, a_zret)]
noncomputable def mX10_costs : List AV → MM → Option AR := zsem tX10_costs 4 4
def wX10_costs : List Cond := .code yX10_costs cX10_costs 4 (some .boolean) :: lw_g
def rX10_costs : Room := { frames := 1, cells := 0, slots := 0, locals := 22 }
set_option maxHeartbeats 4000000 in
set_option maxRecDepth 100000 in
theorem kX10_costs (l : Launch) (X : XC) : zM l X yX10_costs wX10_costs rX10_costs mX10_costs := by
  refine zMet tX10_costs 4 (by decide) rfl (by decide) ?_
  intro p e s m args below meth c res hC
  obtain ⟨hx, hb, hr, hts0, hown, hml, hlk, hK⟩ := hC
  have hts : ∀ w ∈ lw_g, w.before args s = true := fun w h => hts0 w (List.mem_cons_of_mem _ h)
  have hro : 0 ≤ (headSpec wX10_costs rX10_costs).room.cells ∧ 0 ≤ (headSpec wX10_costs rX10_costs).room.slots := ⟨Nat.zero_le _, Nat.zero_le _⟩
  refine zcons (s_iload_n hx hb 1 dX10_costs_0 rfl) ?_
  refine zcons (s_iconst hx hb 0 dX10_costs_1 (by decide)) ?_
  refine zcons (s_bipush hx hb 99 dX10_costs_2 (by decide)) ?_
  refine zcons (s_callS (hZ := fun _ h => h) hx hb hts hml hown hK hro (kX10_isIn l X) (va_cwS 3 hts (zgoodS w836 w837 w54 w838) rfl rfl rfl (by decide +kernel) ⟨Nat.le_of_ble_eq_true rfl, Nat.le_of_ble_eq_true rfl⟩) dX10_costs_4) ?_
  refine zcons (s_if_eq hx hb 31 dX10_costs_7 (by decide)) ?_
  refine zcons (s_iload_n hx hb 2 dX10_costs_10 rfl) ?_
  refine zcons (s_iconst hx hb 0 dX10_costs_11 (by decide)) ?_
  refine zcons (s_bipush hx hb 99 dX10_costs_12 (by decide)) ?_
  refine zcons (s_callS (hZ := fun _ h => h) hx hb hts hml hown hK hro (kX10_isIn l X) (va_cwS 3 hts (zgoodS w836 w837 w54 w838) rfl rfl rfl (by decide +kernel) ⟨Nat.le_of_ble_eq_true rfl, Nat.le_of_ble_eq_true rfl⟩) dX10_costs_14) ?_
  refine zcons (s_if_eq hx hb 31 dX10_costs_17 (by decide)) ?_
  refine zcons (s_iload_n hx hb 3 dX10_costs_20 rfl) ?_
  refine zcons (s_iconst hx hb 0 dX10_costs_21 (by decide)) ?_
  refine zcons (s_sipush hx hb 200 dX10_costs_22 (by decide)) ?_
  refine zcons (s_callS (hZ := fun _ h => h) hx hb hts hml hown hK hro (kX10_isIn l X) (va_cwS 3 hts (zgoodS w836 w837 w54 w838) rfl rfl rfl (by decide +kernel) ⟨Nat.le_of_ble_eq_true rfl, Nat.le_of_ble_eq_true rfl⟩) dX10_costs_25) ?_
  refine zcons (s_if_ne hx hb 33 dX10_costs_28 (by decide)) ?_
  refine zcons (s_iconst hx hb 0 dX10_costs_31 (by decide)) ?_
  refine zcons (s_zret hx hb hr hK hlk dX10_costs_32) ?_
  refine zcons (s_aload_n hx hb 0 dX10_costs_33 rfl) ?_
  refine zcons (s_iload_n hx hb 1 dX10_costs_34 rfl) ?_
  refine zcons (s_put (hZ := fun _ h => h) hx hb hts hown hK zcX10 hinX10 tyX10 tyX10_ok nmX10 12 (by decide) w715 rfl rfl (zptk (by decide) (by decide +kernel)) (by decide +kernel) dX10_costs_35) ?_
  refine zcons (s_aload_n hx hb 0 dX10_costs_38 rfl) ?_
  refine zcons (s_iload_n hx hb 2 dX10_costs_39 rfl) ?_
  refine zcons (s_put (hZ := fun _ h => h) hx hb hts hown hK zcX10 hinX10 tyX10 tyX10_ok nmX10 13 (by decide) w716 rfl rfl (zptk (by decide) (by decide +kernel)) (by decide +kernel) dX10_costs_40) ?_
  refine zcons (s_aload_n hx hb 0 dX10_costs_43 rfl) ?_
  refine zcons (s_iload_n hx hb 3 dX10_costs_44 rfl) ?_
  refine zcons (s_put (hZ := fun _ h => h) hx hb hts hown hK zcX10 hinX10 tyX10 tyX10_ok nmX10 14 (by decide) w717 rfl rfl (zptk (by decide) (by decide +kernel)) (by decide +kernel) dX10_costs_45) ?_
  refine zcons (s_iconst hx hb 1 dX10_costs_48 (by decide)) ?_
  refine zcons (s_zret hx hb hr hK hlk dX10_costs_49) ?_
  exact znil
noncomputable def tX10_isAsked : List (Nat × AI) := [(0, a_iload 1 1), (1, a_istore 2 2), (2, a_aload 3 0), (3, a_getR 6 9 (fun _ => 26)), (6, a_iload 7 2), (7, a_ald 8 10), (8, a_if_lt 11 43), (11, a_aload 12 0), (12, a_getR 15 9 (fun _ => 28)), (15, a_aload 16 0), (16, a_getR 19 9 (fun _ => 26)), (19, a_iload 20 2), (20, a_ald 21 10), (21, a_ald 22 10), (22, a_aload 23 0), (23, a_getR 26 9 (fun _ => 27)), (26, a_iload 27 2), (27, a_ald 28 10), (28, a_c_eq 31 33), (31, a_push 32 (.inl 0)), (32, a_zret), (33, a_aload 34 0), (34, a_getR 37 9 (fun _ => 26)), (37, a_iload 38 2), (38, a_ald 39 10), (39, a_istore 40 2), (40, a_goto 2), (43, a_push 44 (.inl 1)), (44, a_zret)]
noncomputable def mX10_isAsked : List AV → MM → Option AR := zsem tX10_isAsked 3 2
def wX10_isAsked : List Cond := .code yX10_isAsked cX10_isAsked 3 (some .boolean) :: lw_g
def rX10_isAsked : Room := { frames := 0, cells := 0, slots := 0, locals := 0 }
set_option maxHeartbeats 4000000 in
set_option maxRecDepth 100000 in
theorem kX10_isAsked (l : Launch) (X : XC) : zM l X yX10_isAsked wX10_isAsked rX10_isAsked mX10_isAsked := by
  refine zMet tX10_isAsked 2 (by decide) rfl (by decide) ?_
  intro p e s m args below meth c res hC
  obtain ⟨hx, hb, hr, hts0, hown, hml, hlk, hK⟩ := hC
  have hts : ∀ w ∈ lw_g, w.before args s = true := fun w h => hts0 w (List.mem_cons_of_mem _ h)
  have hro : 0 ≤ (headSpec wX10_isAsked rX10_isAsked).room.cells ∧ 0 ≤ (headSpec wX10_isAsked rX10_isAsked).room.slots := ⟨Nat.zero_le _, Nat.zero_le _⟩
  refine zcons (s_iload_n hx hb 1 dX10_isAsked_0 rfl) ?_
  refine zcons (s_istore_n hx hb 2 dX10_isAsked_1 rfl) ?_
  refine zcons (s_aload_n hx hb 0 dX10_isAsked_2 rfl) ?_
  refine zcons (s_getR hx hb hts hown hK zcX10 hinX10 7 (by decide) w710 rfl (fun _ => 26) (zptf (by decide) (by decide +kernel)) dX10_isAsked_3) ?_
  refine zcons (s_iload_n hx hb 2 dX10_isAsked_6 rfl) ?_
  refine zcons (s_iald hx hb hK dX10_isAsked_7) ?_
  refine zcons (s_if_lt hx hb 43 dX10_isAsked_8 (by decide)) ?_
  refine zcons (s_aload_n hx hb 0 dX10_isAsked_11 rfl) ?_
  refine zcons (s_getR hx hb hts hown hK zcX10 hinX10 9 (by decide) w712 rfl (fun _ => 28) (zptf (by decide) (by decide +kernel)) dX10_isAsked_12) ?_
  refine zcons (s_aload_n hx hb 0 dX10_isAsked_15 rfl) ?_
  refine zcons (s_getR hx hb hts hown hK zcX10 hinX10 7 (by decide) w710 rfl (fun _ => 26) (zptf (by decide) (by decide +kernel)) dX10_isAsked_16) ?_
  refine zcons (s_iload_n hx hb 2 dX10_isAsked_19 rfl) ?_
  refine zcons (s_iald hx hb hK dX10_isAsked_20) ?_
  refine zcons (s_iald hx hb hK dX10_isAsked_21) ?_
  refine zcons (s_aload_n hx hb 0 dX10_isAsked_22 rfl) ?_
  refine zcons (s_getR hx hb hts hown hK zcX10 hinX10 8 (by decide) w711 rfl (fun _ => 27) (zptf (by decide) (by decide +kernel)) dX10_isAsked_23) ?_
  refine zcons (s_iload_n hx hb 2 dX10_isAsked_26 rfl) ?_
  refine zcons (s_iald hx hb hK dX10_isAsked_27) ?_
  refine zcons (s_c_eq hx hb 33 dX10_isAsked_28 (by decide)) ?_
  refine zcons (s_iconst hx hb 0 dX10_isAsked_31 (by decide)) ?_
  refine zcons (s_zret hx hb hr hK hlk dX10_isAsked_32) ?_
  refine zcons (s_aload_n hx hb 0 dX10_isAsked_33 rfl) ?_
  refine zcons (s_getR hx hb hts hown hK zcX10 hinX10 7 (by decide) w710 rfl (fun _ => 26) (zptf (by decide) (by decide +kernel)) dX10_isAsked_34) ?_
  refine zcons (s_iload_n hx hb 2 dX10_isAsked_37 rfl) ?_
  refine zcons (s_iald hx hb hK dX10_isAsked_38) ?_
  refine zcons (s_istore_n hx hb 2 dX10_isAsked_39 rfl) ?_
  refine zcons (s_goto hx hb 2 dX10_isAsked_40 (by decide)) ?_
  refine zcons (s_iconst hx hb 1 dX10_isAsked_43 (by decide)) ?_
  refine zcons (s_zret hx hb hr hK hlk dX10_isAsked_44) ?_
  exact znil
noncomputable def tX10_place : List (Nat × AI) := [(0, a_aload 1 0), (1, a_getI 4 9 16), (4, a_push 6 (.inl 8)), (6, a_c_ne 9 11), (9, a_push 10 (.inl (-1))), (10, a_iret), (11, a_aload 12 0), (12, a_getR 15 9 (fun _ => 32)), (15, a_aload 16 0), (16, a_getI 19 9 16), (19, a_push 20 (.inl 0)), (20, a_ast 21), (21, a_aload 22 0), (22, a_dup 23), (23, a_getI 26 9 16), (26, a_push 27 (.inl 1)), (27, a_bin 28 (fun x y => x + y)), (28, a_put 31 9 16), (31, a_aload 32 0), (32, a_getI 35 9 16), (35, a_iret)]
noncomputable def mX10_place : List AV → MM → Option AR := zsem tX10_place 1 1
def wX10_place : List Cond := .code yX10_place cX10_place 1 (some .int) :: lw_g
def rX10_place : Room := { frames := 0, cells := 0, slots := 0, locals := 0 }
set_option maxHeartbeats 4000000 in
set_option maxRecDepth 100000 in
theorem kX10_place (l : Launch) (X : XC) : zM l X yX10_place wX10_place rX10_place mX10_place := by
  refine zMet tX10_place 1 (by decide) rfl (by decide) ?_
  intro p e s m args below meth c res hC
  obtain ⟨hx, hb, hr, hts0, hown, hml, hlk, hK⟩ := hC
  have hts : ∀ w ∈ lw_g, w.before args s = true := fun w h => hts0 w (List.mem_cons_of_mem _ h)
  have hro : 0 ≤ (headSpec wX10_place rX10_place).room.cells ∧ 0 ≤ (headSpec wX10_place rX10_place).room.slots := ⟨Nat.zero_le _, Nat.zero_le _⟩
  refine zcons (s_aload_n hx hb 0 dX10_place_0 rfl) ?_
  refine zcons (s_getI hx hb hts hown hK zcX10 hinX10 16 (by decide) w719 rfl (zptk (by decide) (by decide +kernel)) dX10_place_1) ?_
  refine zcons (s_bipush hx hb 8 dX10_place_4 (by decide)) ?_
  refine zcons (s_c_ne hx hb 11 dX10_place_6 (by decide)) ?_
  refine zcons (s_iconst hx hb (-1) dX10_place_9 (by decide)) ?_
  refine zcons (s_iret hx hb hr hK hlk dX10_place_10) ?_
  refine zcons (s_aload_n hx hb 0 dX10_place_11 rfl) ?_
  refine zcons (s_getR hx hb hts hown hK zcX10 hinX10 17 (by decide) w720 rfl (fun _ => 32) (zptf (by decide) (by decide +kernel)) dX10_place_12) ?_
  refine zcons (s_aload_n hx hb 0 dX10_place_15 rfl) ?_
  refine zcons (s_getI hx hb hts hown hK zcX10 hinX10 16 (by decide) w719 rfl (zptk (by decide) (by decide +kernel)) dX10_place_16) ?_
  refine zcons (s_iconst hx hb 0 dX10_place_19 (by decide)) ?_
  refine zcons (s_iast (hZ := fun _ h => h) hx hb hK dX10_place_20) ?_
  refine zcons (s_aload_n hx hb 0 dX10_place_21 rfl) ?_
  refine zcons (s_dup hx hb dX10_place_22) ?_
  refine zcons (s_getI hx hb hts hown hK zcX10 hinX10 16 (by decide) w719 rfl (zptk (by decide) (by decide +kernel)) dX10_place_23) ?_
  refine zcons (s_iconst hx hb 1 dX10_place_26 (by decide)) ?_
  refine zcons (s_iadd hx hb dX10_place_27) ?_
  refine zcons (s_put (hZ := fun _ h => h) hx hb hts hown hK zcX10 hinX10 tyX10 tyX10_ok nmX10 16 (by decide) w719 rfl rfl (zptk (by decide) (by decide +kernel)) (by decide +kernel) dX10_place_28) ?_
  refine zcons (s_aload_n hx hb 0 dX10_place_31 rfl) ?_
  refine zcons (s_getI hx hb hts hown hK zcX10 hinX10 16 (by decide) w719 rfl (zptk (by decide) (by decide +kernel)) dX10_place_32) ?_
  refine zcons (s_iret hx hb hr hK hlk dX10_place_35) ?_
  exact znil
noncomputable def tX10_word : List (Nat × AI) := [(0, a_aload 1 0), (1, a_getI 4 9 16), (4, a_if_eq 7 27), (7, a_iload 8 1), (8, a_push 9 (.inl 0)), (9, a_push 11 (.inl 59)), (11, a_callS 14 3 mX10_isIn), (14, a_if_eq 17 27), (17, a_iload 18 2), (18, a_push 19 (.inl 0)), (19, a_push 21 (.inl 99)), (21, a_callS 24 3 mX10_isIn), (24, a_if_ne 27 29), (27, a_push 28 (.inl (-1))), (28, a_iret), (29, a_aload 30 0), (30, a_getI 33 9 16), (33, a_push 34 (.inl 1)), (34, a_bin 35 (fun x y => x - y)), (35, a_istore 36 3), (36, a_push 37 (.inl 0)), (37, a_istore 39 4), (39, a_iload 41 4), (41, a_aload 42 0), (42, a_getR 45 9 (fun _ => 32)), (45, a_iload 46 3), (46, a_ald 47 10), (47, a_c_ge 50 73), (50, a_aload 51 0), (51, a_getR 54 9 (fun _ => 33)), (54, a_push 55 (.inl 4)), (55, a_iload 56 3), (56, a_bin 57 (fun x y => x * y)), (57, a_iload 59 4), (59, a_bin 60 (fun x y => x + y)), (60, a_ald 61 10), (61, a_iload 62 1), (62, a_c_ne 65 67), (65, a_push 66 (.inl (-1))), (66, a_iret), (67, a_iinc 70 4 1), (70, a_goto 39), (73, a_aload 74 0), (74, a_getR 77 9 (fun _ => 32)), (77, a_iload 78 3), (78, a_ald 79 10), (79, a_push 80 (.inl 4)), (80, a_c_ne 83 85), (83, a_push 84 (.inl (-1))), (84, a_iret), (85, a_aload 86 0), (86, a_getR 89 9 (fun _ => 33)), (89, a_push 90 (.inl 4)), (90, a_iload 91 3), (91, a_bin 92 (fun x y => x * y)), (92, a_aload 93 0), (93, a_getR 96 9 (fun _ => 32)), (96, a_iload 97 3), (97, a_ald 98 10), (98, a_bin 99 (fun x y => x + y)), (99, a_iload 100 1), (100, a_ast 101), (101, a_aload 102 0), (102, a_getR 105 9 (fun _ => 34)), (105, a_push 106 (.inl 4)), (106, a_iload 107 3), (107, a_bin 108 (fun x y => x * y)), (108, a_aload 109 0), (109, a_getR 112 9 (fun _ => 32)), (112, a_iload 113 3), (113, a_ald 114 10), (114, a_bin 115 (fun x y => x + y)), (115, a_iload 116 2), (116, a_ast 117), (117, a_aload 118 0), (118, a_getR 121 9 (fun _ => 32)), (121, a_iload 122 3), (122, a_dup2 123), (123, a_ald 124 10), (124, a_push 125 (.inl 1)), (125, a_bin 126 (fun x y => x + y)), (126, a_ast 127), (127, a_aload 128 0), (128, a_getR 131 9 (fun _ => 32)), (131, a_iload 132 3), (132, a_ald 133 10), (133, a_iret)]
noncomputable def mX10_word : List AV → MM → Option AR := zsem tX10_word 5 3
def wX10_word : List Cond := .code yX10_word cX10_word 5 (some .int) :: lw_g
def rX10_word : Room := { frames := 1, cells := 0, slots := 0, locals := 22 }
set_option maxHeartbeats 4000000 in
set_option maxRecDepth 100000 in
theorem kX10_word (l : Launch) (X : XC) : zM l X yX10_word wX10_word rX10_word mX10_word := by
  refine zMet tX10_word 3 (by decide) rfl (by decide) ?_
  intro p e s m args below meth c res hC
  obtain ⟨hx, hb, hr, hts0, hown, hml, hlk, hK⟩ := hC
  have hts : ∀ w ∈ lw_g, w.before args s = true := fun w h => hts0 w (List.mem_cons_of_mem _ h)
  have hro : 0 ≤ (headSpec wX10_word rX10_word).room.cells ∧ 0 ≤ (headSpec wX10_word rX10_word).room.slots := ⟨Nat.zero_le _, Nat.zero_le _⟩
  refine zcons (s_aload_n hx hb 0 dX10_word_0 rfl) ?_
  refine zcons (s_getI hx hb hts hown hK zcX10 hinX10 16 (by decide) w719 rfl (zptk (by decide) (by decide +kernel)) dX10_word_1) ?_
  refine zcons (s_if_eq hx hb 27 dX10_word_4 (by decide)) ?_
  refine zcons (s_iload_n hx hb 1 dX10_word_7 rfl) ?_
  refine zcons (s_iconst hx hb 0 dX10_word_8 (by decide)) ?_
  refine zcons (s_bipush hx hb 59 dX10_word_9 (by decide)) ?_
  refine zcons (s_callS (hZ := fun _ h => h) hx hb hts hml hown hK hro (kX10_isIn l X) (va_cwS 3 hts (zgoodS w836 w837 w54 w838) rfl rfl rfl (by decide +kernel) ⟨Nat.le_of_ble_eq_true rfl, Nat.le_of_ble_eq_true rfl⟩) dX10_word_11) ?_
  refine zcons (s_if_eq hx hb 27 dX10_word_14 (by decide)) ?_
  refine zcons (s_iload_n hx hb 2 dX10_word_17 rfl) ?_
  refine zcons (s_iconst hx hb 0 dX10_word_18 (by decide)) ?_
  refine zcons (s_bipush hx hb 99 dX10_word_19 (by decide)) ?_
  refine zcons (s_callS (hZ := fun _ h => h) hx hb hts hml hown hK hro (kX10_isIn l X) (va_cwS 3 hts (zgoodS w836 w837 w54 w838) rfl rfl rfl (by decide +kernel) ⟨Nat.le_of_ble_eq_true rfl, Nat.le_of_ble_eq_true rfl⟩) dX10_word_21) ?_
  refine zcons (s_if_ne hx hb 29 dX10_word_24 (by decide)) ?_
  refine zcons (s_iconst hx hb (-1) dX10_word_27 (by decide)) ?_
  refine zcons (s_iret hx hb hr hK hlk dX10_word_28) ?_
  refine zcons (s_aload_n hx hb 0 dX10_word_29 rfl) ?_
  refine zcons (s_getI hx hb hts hown hK zcX10 hinX10 16 (by decide) w719 rfl (zptk (by decide) (by decide +kernel)) dX10_word_30) ?_
  refine zcons (s_iconst hx hb 1 dX10_word_33 (by decide)) ?_
  refine zcons (s_isub hx hb dX10_word_34) ?_
  refine zcons (s_istore_n hx hb 3 dX10_word_35 rfl) ?_
  refine zcons (s_iconst hx hb 0 dX10_word_36 (by decide)) ?_
  refine zcons (s_istore hx hb dX10_word_37) ?_
  refine zcons (s_iload hx hb dX10_word_39) ?_
  refine zcons (s_aload_n hx hb 0 dX10_word_41 rfl) ?_
  refine zcons (s_getR hx hb hts hown hK zcX10 hinX10 17 (by decide) w720 rfl (fun _ => 32) (zptf (by decide) (by decide +kernel)) dX10_word_42) ?_
  refine zcons (s_iload_n hx hb 3 dX10_word_45 rfl) ?_
  refine zcons (s_iald hx hb hK dX10_word_46) ?_
  refine zcons (s_c_ge hx hb 73 dX10_word_47 (by decide)) ?_
  refine zcons (s_aload_n hx hb 0 dX10_word_50 rfl) ?_
  refine zcons (s_getR hx hb hts hown hK zcX10 hinX10 18 (by decide) w721 rfl (fun _ => 33) (zptf (by decide) (by decide +kernel)) dX10_word_51) ?_
  refine zcons (s_iconst hx hb 4 dX10_word_54 (by decide)) ?_
  refine zcons (s_iload_n hx hb 3 dX10_word_55 rfl) ?_
  refine zcons (s_imul hx hb dX10_word_56) ?_
  refine zcons (s_iload hx hb dX10_word_57) ?_
  refine zcons (s_iadd hx hb dX10_word_59) ?_
  refine zcons (s_iald hx hb hK dX10_word_60) ?_
  refine zcons (s_iload_n hx hb 1 dX10_word_61 rfl) ?_
  refine zcons (s_c_ne hx hb 67 dX10_word_62 (by decide)) ?_
  refine zcons (s_iconst hx hb (-1) dX10_word_65 (by decide)) ?_
  refine zcons (s_iret hx hb hr hK hlk dX10_word_66) ?_
  refine zcons (s_iinc hx hb 1 dX10_word_67 (by decide)) ?_
  refine zcons (s_goto hx hb 39 dX10_word_70 (by decide)) ?_
  refine zcons (s_aload_n hx hb 0 dX10_word_73 rfl) ?_
  refine zcons (s_getR hx hb hts hown hK zcX10 hinX10 17 (by decide) w720 rfl (fun _ => 32) (zptf (by decide) (by decide +kernel)) dX10_word_74) ?_
  refine zcons (s_iload_n hx hb 3 dX10_word_77 rfl) ?_
  refine zcons (s_iald hx hb hK dX10_word_78) ?_
  refine zcons (s_iconst hx hb 4 dX10_word_79 (by decide)) ?_
  refine zcons (s_c_ne hx hb 85 dX10_word_80 (by decide)) ?_
  refine zcons (s_iconst hx hb (-1) dX10_word_83 (by decide)) ?_
  refine zcons (s_iret hx hb hr hK hlk dX10_word_84) ?_
  refine zcons (s_aload_n hx hb 0 dX10_word_85 rfl) ?_
  refine zcons (s_getR hx hb hts hown hK zcX10 hinX10 18 (by decide) w721 rfl (fun _ => 33) (zptf (by decide) (by decide +kernel)) dX10_word_86) ?_
  refine zcons (s_iconst hx hb 4 dX10_word_89 (by decide)) ?_
  refine zcons (s_iload_n hx hb 3 dX10_word_90 rfl) ?_
  refine zcons (s_imul hx hb dX10_word_91) ?_
  refine zcons (s_aload_n hx hb 0 dX10_word_92 rfl) ?_
  refine zcons (s_getR hx hb hts hown hK zcX10 hinX10 17 (by decide) w720 rfl (fun _ => 32) (zptf (by decide) (by decide +kernel)) dX10_word_93) ?_
  refine zcons (s_iload_n hx hb 3 dX10_word_96 rfl) ?_
  refine zcons (s_iald hx hb hK dX10_word_97) ?_
  refine zcons (s_iadd hx hb dX10_word_98) ?_
  refine zcons (s_iload_n hx hb 1 dX10_word_99 rfl) ?_
  refine zcons (s_iast (hZ := fun _ h => h) hx hb hK dX10_word_100) ?_
  refine zcons (s_aload_n hx hb 0 dX10_word_101 rfl) ?_
  refine zcons (s_getR hx hb hts hown hK zcX10 hinX10 19 (by decide) w722 rfl (fun _ => 34) (zptf (by decide) (by decide +kernel)) dX10_word_102) ?_
  refine zcons (s_iconst hx hb 4 dX10_word_105 (by decide)) ?_
  refine zcons (s_iload_n hx hb 3 dX10_word_106 rfl) ?_
  refine zcons (s_imul hx hb dX10_word_107) ?_
  refine zcons (s_aload_n hx hb 0 dX10_word_108 rfl) ?_
  refine zcons (s_getR hx hb hts hown hK zcX10 hinX10 17 (by decide) w720 rfl (fun _ => 32) (zptf (by decide) (by decide +kernel)) dX10_word_109) ?_
  refine zcons (s_iload_n hx hb 3 dX10_word_112 rfl) ?_
  refine zcons (s_iald hx hb hK dX10_word_113) ?_
  refine zcons (s_iadd hx hb dX10_word_114) ?_
  refine zcons (s_iload_n hx hb 2 dX10_word_115 rfl) ?_
  refine zcons (s_iast (hZ := fun _ h => h) hx hb hK dX10_word_116) ?_
  refine zcons (s_aload_n hx hb 0 dX10_word_117 rfl) ?_
  refine zcons (s_getR hx hb hts hown hK zcX10 hinX10 17 (by decide) w720 rfl (fun _ => 32) (zptf (by decide) (by decide +kernel)) dX10_word_118) ?_
  refine zcons (s_iload_n hx hb 3 dX10_word_121 rfl) ?_
  refine zcons (s_dup2 hx hb dX10_word_122) ?_
  refine zcons (s_iald hx hb hK dX10_word_123) ?_
  refine zcons (s_iconst hx hb 1 dX10_word_124 (by decide)) ?_
  refine zcons (s_iadd hx hb dX10_word_125) ?_
  refine zcons (s_iast (hZ := fun _ h => h) hx hb hK dX10_word_126) ?_
  refine zcons (s_aload_n hx hb 0 dX10_word_127 rfl) ?_
  refine zcons (s_getR hx hb hts hown hK zcX10 hinX10 17 (by decide) w720 rfl (fun _ => 32) (zptf (by decide) (by decide +kernel)) dX10_word_128) ?_
  refine zcons (s_iload_n hx hb 3 dX10_word_131 rfl) ?_
  refine zcons (s_iald hx hb hK dX10_word_132) ?_
  refine zcons (s_iret hx hb hr hK hlk dX10_word_133) ?_
  exact znil
noncomputable def tX10_isAhead : List (Nat × AI) := [(0, a_iload 1 0), (1, a_iload 2 3), (2, a_c_eq 5 18), (5, a_iload 6 0), (6, a_iload 7 3), (7, a_c_ge 10 14), (10, a_push 11 (.inl 1)), (11, a_goto 49), (14, a_push 15 (.inl 0)), (15, a_goto 49), (18, a_iload 19 1), (19, a_iload 21 4), (21, a_c_eq 24 38), (24, a_iload 25 1), (25, a_iload 27 4), (27, a_c_ge 30 34), (30, a_push 31 (.inl 1)), (31, a_goto 49), (34, a_push 35 (.inl 0)), (35, a_goto 49), (38, a_iload 39 2), (39, a_iload 41 5), (41, a_c_ge 44 48), (44, a_push 45 (.inl 1)), (45, a_goto 49), (48, a_push 49 (.inl 0)), (49, a_zret)]
noncomputable def mX10_isAhead : List AV → MM → Option AR := zsem tX10_isAhead 6 6
def wX10_isAhead : List Cond := .code yX10_isAhead cX10_isAhead 6 (some .boolean) :: lw_g
def rX10_isAhead : Room := { frames := 0, cells := 0, slots := 0, locals := 0 }
set_option maxHeartbeats 4000000 in
set_option maxRecDepth 100000 in
theorem kX10_isAhead (l : Launch) (X : XC) : zM l X yX10_isAhead wX10_isAhead rX10_isAhead mX10_isAhead := by
  refine zMet tX10_isAhead 6 (by decide) rfl (by decide) ?_
  intro p e s m args below meth c res hC
  obtain ⟨hx, hb, hr, hts0, hown, hml, hlk, hK⟩ := hC
  have hts : ∀ w ∈ lw_g, w.before args s = true := fun w h => hts0 w (List.mem_cons_of_mem _ h)
  have hro : 0 ≤ (headSpec wX10_isAhead rX10_isAhead).room.cells ∧ 0 ≤ (headSpec wX10_isAhead rX10_isAhead).room.slots := ⟨Nat.zero_le _, Nat.zero_le _⟩
  refine zcons (s_iload_n hx hb 0 dX10_isAhead_0 rfl) ?_
  refine zcons (s_iload_n hx hb 3 dX10_isAhead_1 rfl) ?_
  refine zcons (s_c_eq hx hb 18 dX10_isAhead_2 (by decide)) ?_
  refine zcons (s_iload_n hx hb 0 dX10_isAhead_5 rfl) ?_
  refine zcons (s_iload_n hx hb 3 dX10_isAhead_6 rfl) ?_
  refine zcons (s_c_ge hx hb 14 dX10_isAhead_7 (by decide)) ?_
  refine zcons (s_iconst hx hb 1 dX10_isAhead_10 (by decide)) ?_
  refine zcons (s_goto hx hb 49 dX10_isAhead_11 (by decide)) ?_
  refine zcons (s_iconst hx hb 0 dX10_isAhead_14 (by decide)) ?_
  refine zcons (s_goto hx hb 49 dX10_isAhead_15 (by decide)) ?_
  refine zcons (s_iload_n hx hb 1 dX10_isAhead_18 rfl) ?_
  refine zcons (s_iload hx hb dX10_isAhead_19) ?_
  refine zcons (s_c_eq hx hb 38 dX10_isAhead_21 (by decide)) ?_
  refine zcons (s_iload_n hx hb 1 dX10_isAhead_24 rfl) ?_
  refine zcons (s_iload hx hb dX10_isAhead_25) ?_
  refine zcons (s_c_ge hx hb 34 dX10_isAhead_27 (by decide)) ?_
  refine zcons (s_iconst hx hb 1 dX10_isAhead_30 (by decide)) ?_
  refine zcons (s_goto hx hb 49 dX10_isAhead_31 (by decide)) ?_
  refine zcons (s_iconst hx hb 0 dX10_isAhead_34 (by decide)) ?_
  refine zcons (s_goto hx hb 49 dX10_isAhead_35 (by decide)) ?_
  refine zcons (s_iload_n hx hb 2 dX10_isAhead_38 rfl) ?_
  refine zcons (s_iload hx hb dX10_isAhead_39) ?_
  refine zcons (s_c_ge hx hb 48 dX10_isAhead_41 (by decide)) ?_
  refine zcons (s_iconst hx hb 1 dX10_isAhead_44 (by decide)) ?_
  refine zcons (s_goto hx hb 49 dX10_isAhead_45 (by decide)) ?_
  refine zcons (s_iconst hx hb 0 dX10_isAhead_48 (by decide)) ?_
  refine zcons (s_zret hx hb hr hK hlk dX10_isAhead_49) ?_
  exact znil
noncomputable def tX10_set : List (Nat × AI) := [(0, a_aload 1 0), (1, a_getR 4 9 (fun _ => 37)), (4, a_iload 5 1), (5, a_iload 6 2), (6, a_ast 7), (7, a_aload 8 0), (8, a_getR 11 9 (fun _ => 35)), (11, a_iload 12 1), (12, a_iload 13 3), (13, a_ast 14), (14, a_aload 15 0), (15, a_getR 18 9 (fun _ => 36)), (18, a_iload 19 1), (19, a_iload 21 4), (21, a_ast 22), (22, a_vret)]
noncomputable def mX10_set : List AV → MM → Option AR := zsem tX10_set 5 5
def wX10_set : List Cond := .code yX10_set cX10_set 5 none :: lw_g
def rX10_set : Room := { frames := 0, cells := 0, slots := 0, locals := 0 }
set_option maxHeartbeats 4000000 in
set_option maxRecDepth 100000 in
theorem kX10_set (l : Launch) (X : XC) : zM l X yX10_set wX10_set rX10_set mX10_set := by
  refine zMet tX10_set 5 (by decide) rfl (by decide) ?_
  intro p e s m args below meth c res hC
  obtain ⟨hx, hb, hr, hts0, hown, hml, hlk, hK⟩ := hC
  have hts : ∀ w ∈ lw_g, w.before args s = true := fun w h => hts0 w (List.mem_cons_of_mem _ h)
  have hro : 0 ≤ (headSpec wX10_set rX10_set).room.cells ∧ 0 ≤ (headSpec wX10_set rX10_set).room.slots := ⟨Nat.zero_le _, Nat.zero_le _⟩
  refine zcons (s_aload_n hx hb 0 dX10_set_0 rfl) ?_
  refine zcons (s_getR hx hb hts hown hK zcX10 hinX10 22 (by decide) w725 rfl (fun _ => 37) (zptf (by decide) (by decide +kernel)) dX10_set_1) ?_
  refine zcons (s_iload_n hx hb 1 dX10_set_4 rfl) ?_
  refine zcons (s_iload_n hx hb 2 dX10_set_5 rfl) ?_
  refine zcons (s_iast (hZ := fun _ h => h) hx hb hK dX10_set_6) ?_
  refine zcons (s_aload_n hx hb 0 dX10_set_7 rfl) ?_
  refine zcons (s_getR hx hb hts hown hK zcX10 hinX10 20 (by decide) w723 rfl (fun _ => 35) (zptf (by decide) (by decide +kernel)) dX10_set_8) ?_
  refine zcons (s_iload_n hx hb 1 dX10_set_11 rfl) ?_
  refine zcons (s_iload_n hx hb 3 dX10_set_12 rfl) ?_
  refine zcons (s_iast (hZ := fun _ h => h) hx hb hK dX10_set_13) ?_
  refine zcons (s_aload_n hx hb 0 dX10_set_14 rfl) ?_
  refine zcons (s_getR hx hb hts hown hK zcX10 hinX10 21 (by decide) w724 rfl (fun _ => 36) (zptf (by decide) (by decide +kernel)) dX10_set_15) ?_
  refine zcons (s_iload_n hx hb 1 dX10_set_18 rfl) ?_
  refine zcons (s_iload hx hb dX10_set_19) ?_
  refine zcons (s_iast (hZ := fun _ h => h) hx hb hK dX10_set_21) ?_
  refine zcons (s_vret hx hb hr hK hlk dX10_set_22) ?_
  exact znil
noncomputable def tX10_found : List (Nat × AI) := [(0, a_aload 1 0), (1, a_getR 4 9 (fun _ => 37)), (4, a_push 5 (.inl 0)), (5, a_ald 6 10), (6, a_push 8 (.inl 1000000)), (8, a_c_ge 11 49), (11, a_aload 12 0), (12, a_getR 15 9 (fun _ => 35)), (15, a_push 16 (.inl 0)), (16, a_ald 17 10), (17, a_iload 18 2), (18, a_c_ne 21 49), (21, a_aload 22 0), (22, a_getR 25 9 (fun _ => 36)), (25, a_push 26 (.inl 0)), (26, a_ald 27 10), (27, a_iload 28 3), (28, a_c_ne 31 49), (31, a_iload 32 1), (32, a_aload 33 0), (33, a_getR 36 9 (fun _ => 37)), (36, a_push 37 (.inl 0)), (37, a_ald 38 10), (38, a_c_ge 41 48), (41, a_aload 42 0), (42, a_getR 45 9 (fun _ => 37)), (45, a_push 46 (.inl 0)), (46, a_iload 47 1), (47, a_ast 48), (48, a_vret), (49, a_iload 50 1), (50, a_iload 51 2), (51, a_iload 52 3), (52, a_aload 53 0), (53, a_getR 56 9 (fun _ => 37)), (56, a_push 57 (.inl 0)), (57, a_ald 58 10), (58, a_aload 59 0), (59, a_getR 62 9 (fun _ => 35)), (62, a_push 63 (.inl 0)), (63, a_ald 64 10), (64, a_aload 65 0), (65, a_getR 68 9 (fun _ => 36)), (68, a_push 69 (.inl 0)), (69, a_ald 70 10), (70, a_callS 73 6 mX10_isAhead), (73, a_if_eq 76 110), (76, a_aload 77 0), (77, a_push 78 (.inl 1)), (78, a_aload 79 0), (79, a_getR 82 9 (fun _ => 37)), (82, a_push 83 (.inl 0)), (83, a_ald 84 10), (84, a_aload 85 0), (85, a_getR 88 9 (fun _ => 35)), (88, a_push 89 (.inl 0)), (89, a_ald 90 10), (90, a_aload 91 0), (91, a_getR 94 9 (fun _ => 36)), (94, a_push 95 (.inl 0)), (95, a_ald 96 10), (96, a_callV 99 4 9 mX10_set), (99, a_aload 100 0), (100, a_push 101 (.inl 0)), (101, a_iload 102 1), (102, a_iload 103 2), (103, a_iload 104 3), (104, a_callV 107 4 9 mX10_set), (107, a_goto 145), (110, a_iload 111 1), (111, a_iload 112 2), (112, a_iload 113 3), (113, a_aload 114 0), (114, a_getR 117 9 (fun _ => 37)), (117, a_push 118 (.inl 1)), (118, a_ald 119 10), (119, a_aload 120 0), (120, a_getR 123 9 (fun _ => 35)), (123, a_push 124 (.inl 1)), (124, a_ald 125 10), (125, a_aload 126 0), (126, a_getR 129 9 (fun _ => 36)), (129, a_push 130 (.inl 1)), (130, a_ald 131 10), (131, a_callS 134 6 mX10_isAhead), (134, a_if_eq 137 145), (137, a_aload 138 0), (138, a_push 139 (.inl 1)), (139, a_iload 140 1), (140, a_iload 141 2), (141, a_iload 142 3), (142, a_callV 145 4 9 mX10_set), (145, a_vret)]
noncomputable def mX10_found : List AV → MM → Option AR := zsem tX10_found 4 4
def wX10_found : List Cond := .code yX10_found cX10_found 4 none :: lw_g
def rX10_found : Room := { frames := 1, cells := 0, slots := 0, locals := 25 }
set_option maxHeartbeats 4000000 in
set_option maxRecDepth 100000 in
theorem kX10_found (l : Launch) (X : XC) : zM l X yX10_found wX10_found rX10_found mX10_found := by
  refine zMet tX10_found 4 (by decide) rfl (by decide) ?_
  intro p e s m args below meth c res hC
  obtain ⟨hx, hb, hr, hts0, hown, hml, hlk, hK⟩ := hC
  have hts : ∀ w ∈ lw_g, w.before args s = true := fun w h => hts0 w (List.mem_cons_of_mem _ h)
  have hro : 0 ≤ (headSpec wX10_found rX10_found).room.cells ∧ 0 ≤ (headSpec wX10_found rX10_found).room.slots := ⟨Nat.zero_le _, Nat.zero_le _⟩
  refine zcons (s_aload_n hx hb 0 dX10_found_0 rfl) ?_
  refine zcons (s_getR hx hb hts hown hK zcX10 hinX10 22 (by decide) w725 rfl (fun _ => 37) (zptf (by decide) (by decide +kernel)) dX10_found_1) ?_
  refine zcons (s_iconst hx hb 0 dX10_found_4 (by decide)) ?_
  refine zcons (s_iald hx hb hK dX10_found_5) ?_
  refine zcons (s_ldc hx hb 1000000 hown (hts _ w875) dX10_found_6) ?_
  refine zcons (s_c_ge hx hb 49 dX10_found_8 (by decide)) ?_
  refine zcons (s_aload_n hx hb 0 dX10_found_11 rfl) ?_
  refine zcons (s_getR hx hb hts hown hK zcX10 hinX10 20 (by decide) w723 rfl (fun _ => 35) (zptf (by decide) (by decide +kernel)) dX10_found_12) ?_
  refine zcons (s_iconst hx hb 0 dX10_found_15 (by decide)) ?_
  refine zcons (s_iald hx hb hK dX10_found_16) ?_
  refine zcons (s_iload_n hx hb 2 dX10_found_17 rfl) ?_
  refine zcons (s_c_ne hx hb 49 dX10_found_18 (by decide)) ?_
  refine zcons (s_aload_n hx hb 0 dX10_found_21 rfl) ?_
  refine zcons (s_getR hx hb hts hown hK zcX10 hinX10 21 (by decide) w724 rfl (fun _ => 36) (zptf (by decide) (by decide +kernel)) dX10_found_22) ?_
  refine zcons (s_iconst hx hb 0 dX10_found_25 (by decide)) ?_
  refine zcons (s_iald hx hb hK dX10_found_26) ?_
  refine zcons (s_iload_n hx hb 3 dX10_found_27 rfl) ?_
  refine zcons (s_c_ne hx hb 49 dX10_found_28 (by decide)) ?_
  refine zcons (s_iload_n hx hb 1 dX10_found_31 rfl) ?_
  refine zcons (s_aload_n hx hb 0 dX10_found_32 rfl) ?_
  refine zcons (s_getR hx hb hts hown hK zcX10 hinX10 22 (by decide) w725 rfl (fun _ => 37) (zptf (by decide) (by decide +kernel)) dX10_found_33) ?_
  refine zcons (s_iconst hx hb 0 dX10_found_36 (by decide)) ?_
  refine zcons (s_iald hx hb hK dX10_found_37) ?_
  refine zcons (s_c_ge hx hb 48 dX10_found_38 (by decide)) ?_
  refine zcons (s_aload_n hx hb 0 dX10_found_41 rfl) ?_
  refine zcons (s_getR hx hb hts hown hK zcX10 hinX10 22 (by decide) w725 rfl (fun _ => 37) (zptf (by decide) (by decide +kernel)) dX10_found_42) ?_
  refine zcons (s_iconst hx hb 0 dX10_found_45 (by decide)) ?_
  refine zcons (s_iload_n hx hb 1 dX10_found_46 rfl) ?_
  refine zcons (s_iast (hZ := fun _ h => h) hx hb hK dX10_found_47) ?_
  refine zcons (s_vret hx hb hr hK hlk dX10_found_48) ?_
  refine zcons (s_iload_n hx hb 1 dX10_found_49 rfl) ?_
  refine zcons (s_iload_n hx hb 2 dX10_found_50 rfl) ?_
  refine zcons (s_iload_n hx hb 3 dX10_found_51 rfl) ?_
  refine zcons (s_aload_n hx hb 0 dX10_found_52 rfl) ?_
  refine zcons (s_getR hx hb hts hown hK zcX10 hinX10 22 (by decide) w725 rfl (fun _ => 37) (zptf (by decide) (by decide +kernel)) dX10_found_53) ?_
  refine zcons (s_iconst hx hb 0 dX10_found_56 (by decide)) ?_
  refine zcons (s_iald hx hb hK dX10_found_57) ?_
  refine zcons (s_aload_n hx hb 0 dX10_found_58 rfl) ?_
  refine zcons (s_getR hx hb hts hown hK zcX10 hinX10 20 (by decide) w723 rfl (fun _ => 35) (zptf (by decide) (by decide +kernel)) dX10_found_59) ?_
  refine zcons (s_iconst hx hb 0 dX10_found_62 (by decide)) ?_
  refine zcons (s_iald hx hb hK dX10_found_63) ?_
  refine zcons (s_aload_n hx hb 0 dX10_found_64 rfl) ?_
  refine zcons (s_getR hx hb hts hown hK zcX10 hinX10 21 (by decide) w724 rfl (fun _ => 36) (zptf (by decide) (by decide +kernel)) dX10_found_65) ?_
  refine zcons (s_iconst hx hb 0 dX10_found_68 (by decide)) ?_
  refine zcons (s_iald hx hb hK dX10_found_69) ?_
  refine zcons (s_callS (hZ := fun _ h => h) hx hb hts hml hown hK hro (kX10_isAhead l X) (va_cwS 6 hts (zgoodS w896 w897 w54 w898) rfl rfl rfl (by decide +kernel) ⟨Nat.le_of_ble_eq_true rfl, Nat.le_of_ble_eq_true rfl⟩) dX10_found_70) ?_
  refine zcons (s_if_eq hx hb 110 dX10_found_73 (by decide)) ?_
  refine zcons (s_aload_n hx hb 0 dX10_found_76 rfl) ?_
  refine zcons (s_iconst hx hb 1 dX10_found_77 (by decide)) ?_
  refine zcons (s_aload_n hx hb 0 dX10_found_78 rfl) ?_
  refine zcons (s_getR hx hb hts hown hK zcX10 hinX10 22 (by decide) w725 rfl (fun _ => 37) (zptf (by decide) (by decide +kernel)) dX10_found_79) ?_
  refine zcons (s_iconst hx hb 0 dX10_found_82 (by decide)) ?_
  refine zcons (s_iald hx hb hK dX10_found_83) ?_
  refine zcons (s_aload_n hx hb 0 dX10_found_84 rfl) ?_
  refine zcons (s_getR hx hb hts hown hK zcX10 hinX10 20 (by decide) w723 rfl (fun _ => 35) (zptf (by decide) (by decide +kernel)) dX10_found_85) ?_
  refine zcons (s_iconst hx hb 0 dX10_found_88 (by decide)) ?_
  refine zcons (s_iald hx hb hK dX10_found_89) ?_
  refine zcons (s_aload_n hx hb 0 dX10_found_90 rfl) ?_
  refine zcons (s_getR hx hb hts hown hK zcX10 hinX10 21 (by decide) w724 rfl (fun _ => 36) (zptf (by decide) (by decide +kernel)) dX10_found_91) ?_
  refine zcons (s_iconst hx hb 0 dX10_found_94 (by decide)) ?_
  refine zcons (s_iald hx hb hK dX10_found_95) ?_
  refine zcons (s_callV (hZ := fun _ h => h) hx hb hts hml hown hK hro zcX10 (kX10_set l X) (zgoodV w876 w878 w25 w54 w879) rfl rfl rfl (by decide +kernel) ⟨Nat.le_of_ble_eq_true rfl, Nat.le_of_ble_eq_true rfl⟩ dX10_found_96) ?_
  refine zcons (s_aload_n hx hb 0 dX10_found_99 rfl) ?_
  refine zcons (s_iconst hx hb 0 dX10_found_100 (by decide)) ?_
  refine zcons (s_iload_n hx hb 1 dX10_found_101 rfl) ?_
  refine zcons (s_iload_n hx hb 2 dX10_found_102 rfl) ?_
  refine zcons (s_iload_n hx hb 3 dX10_found_103 rfl) ?_
  refine zcons (s_callV (hZ := fun _ h => h) hx hb hts hml hown hK hro zcX10 (kX10_set l X) (zgoodV w876 w878 w25 w54 w879) rfl rfl rfl (by decide +kernel) ⟨Nat.le_of_ble_eq_true rfl, Nat.le_of_ble_eq_true rfl⟩ dX10_found_104) ?_
  refine zcons (s_goto hx hb 145 dX10_found_107 (by decide)) ?_
  refine zcons (s_iload_n hx hb 1 dX10_found_110 rfl) ?_
  refine zcons (s_iload_n hx hb 2 dX10_found_111 rfl) ?_
  refine zcons (s_iload_n hx hb 3 dX10_found_112 rfl) ?_
  refine zcons (s_aload_n hx hb 0 dX10_found_113 rfl) ?_
  refine zcons (s_getR hx hb hts hown hK zcX10 hinX10 22 (by decide) w725 rfl (fun _ => 37) (zptf (by decide) (by decide +kernel)) dX10_found_114) ?_
  refine zcons (s_iconst hx hb 1 dX10_found_117 (by decide)) ?_
  refine zcons (s_iald hx hb hK dX10_found_118) ?_
  refine zcons (s_aload_n hx hb 0 dX10_found_119 rfl) ?_
  refine zcons (s_getR hx hb hts hown hK zcX10 hinX10 20 (by decide) w723 rfl (fun _ => 35) (zptf (by decide) (by decide +kernel)) dX10_found_120) ?_
  refine zcons (s_iconst hx hb 1 dX10_found_123 (by decide)) ?_
  refine zcons (s_iald hx hb hK dX10_found_124) ?_
  refine zcons (s_aload_n hx hb 0 dX10_found_125 rfl) ?_
  refine zcons (s_getR hx hb hts hown hK zcX10 hinX10 21 (by decide) w724 rfl (fun _ => 36) (zptf (by decide) (by decide +kernel)) dX10_found_126) ?_
  refine zcons (s_iconst hx hb 1 dX10_found_129 (by decide)) ?_
  refine zcons (s_iald hx hb hK dX10_found_130) ?_
  refine zcons (s_callS (hZ := fun _ h => h) hx hb hts hml hown hK hro (kX10_isAhead l X) (va_cwS 6 hts (zgoodS w896 w897 w54 w898) rfl rfl rfl (by decide +kernel) ⟨Nat.le_of_ble_eq_true rfl, Nat.le_of_ble_eq_true rfl⟩) dX10_found_131) ?_
  refine zcons (s_if_eq hx hb 145 dX10_found_134 (by decide)) ?_
  refine zcons (s_aload_n hx hb 0 dX10_found_137 rfl) ?_
  refine zcons (s_iconst hx hb 1 dX10_found_138 (by decide)) ?_
  refine zcons (s_iload_n hx hb 1 dX10_found_139 rfl) ?_
  refine zcons (s_iload_n hx hb 2 dX10_found_140 rfl) ?_
  refine zcons (s_iload_n hx hb 3 dX10_found_141 rfl) ?_
  refine zcons (s_callV (hZ := fun _ h => h) hx hb hts hml hown hK hro zcX10 (kX10_set l X) (zgoodV w876 w878 w25 w54 w879) rfl rfl rfl (by decide +kernel) ⟨Nat.le_of_ble_eq_true rfl, Nat.le_of_ble_eq_true rfl⟩ dX10_found_142) ?_
  refine zcons (s_vret hx hb hr hK hlk dX10_found_145) ?_
  exact znil
