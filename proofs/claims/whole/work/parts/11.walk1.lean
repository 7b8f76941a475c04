/-! The tables of methods and their contracts (written by wip/whole/gen.py). -/
noncomputable def tX5_isMetBy : List (Nat × AI) := [(0, a_aload 1 1), (1, a_null 4 33), (4, a_aload 5 1), (5, a_getI 8 5 8), (8, a_if_eq 11 33), (11, a_aload 12 1), (12, a_getI 15 5 9), (15, a_if_eq 18 33), (18, a_aload 19 1), (19, a_getI 22 5 10), (22, a_aload 23 0), (23, a_getI 26 5 7), (26, a_c_ne 29 33), (29, a_push 30 (.inl 1)), (30, a_goto 34), (33, a_push 34 (.inl 0)), (34, a_zret)]
noncomputable def mX5_isMetBy : List AV → MM → Option AR := zsem tX5_isMetBy 2 2
def wX5_isMetBy : List Cond := .code yX5_isMetBy cX5_isMetBy 2 (some .boolean) :: lw_g
def rX5_isMetBy : Room := { frames := 0, cells := 0, slots := 0, locals := 0 }
set_option maxHeartbeats 4000000 in
set_option maxRecDepth 100000 in
theorem kX5_isMetBy (l : Launch) (X : XC) : zM l X yX5_isMetBy wX5_isMetBy rX5_isMetBy mX5_isMetBy := by
  refine zMet tX5_isMetBy 2 (by decide) rfl (by decide) ?_
  intro p e s m args below meth c res hC
  obtain ⟨hx, hb, hr, hts0, hown, hml, hlk, hK⟩ := hC
  have hts : ∀ w ∈ lw_g, w.before args s = true := fun w h => hts0 w (List.mem_cons_of_mem _ h)
  have hro : 0 ≤ (headSpec wX5_isMetBy rX5_isMetBy).room.cells ∧ 0 ≤ (headSpec wX5_isMetBy rX5_isMetBy).room.slots := ⟨Nat.zero_le _, Nat.zero_le _⟩
  refine zcons (s_aload_n hx hb 1 dX5_isMetBy_0 rfl) ?_
  refine zcons (s_null hx hb 33 dX5_isMetBy_1 (by decide)) ?_
  refine zcons (s_aload_n hx hb 1 dX5_isMetBy_4 rfl) ?_
  refine zcons (s_getI hx hb hts hown hK zcX5 hinX5 8 (by decide) w96 rfl (zptk (by decide) (by decide +kernel)) dX5_isMetBy_5) ?_
  refine zcons (s_if_eq hx hb 33 dX5_isMetBy_8 (by decide)) ?_
  refine zcons (s_aload_n hx hb 1 dX5_isMetBy_11 rfl) ?_
  refine zcons (s_getI hx hb hts hown hK zcX5 hinX5 9 (by decide) w100 rfl (zptk (by decide) (by decide +kernel)) dX5_isMetBy_12) ?_
  refine zcons (s_if_eq hx hb 33 dX5_isMetBy_15 (by decide)) ?_
  refine zcons (s_aload_n hx hb 1 dX5_isMetBy_18 rfl) ?_
  refine zcons (s_getI hx hb hts hown hK zcX5 hinX5 10 (by decide) w103 rfl (zptk (by decide) (by decide +kernel)) dX5_isMetBy_19) ?_
  refine zcons (s_aload_n hx hb 0 dX5_isMetBy_22 rfl) ?_
  refine zcons (s_getI hx hb hts hown hK zcX5 hinX5 7 (by decide) w94 rfl (zptk (by decide) (by decide +kernel)) dX5_isMetBy_23) ?_
  refine zcons (s_c_ne hx hb 33 dX5_isMetBy_26 (by decide)) ?_
  refine zcons (s_iconst hx hb 1 dX5_isMetBy_29 (by decide)) ?_
  refine zcons (s_goto hx hb 34 dX5_isMetBy_30 (by decide)) ?_
  refine zcons (s_iconst hx hb 0 dX5_isMetBy_33 (by decide)) ?_
  refine zcons (s_zret hx hb hr hK hlk dX5_isMetBy_34) ?_
  exact znil
noncomputable def tX1_reckonNeeds : List (Nat × AI) := [(0, a_push 1 (.inl 0)), (1, a_istore 2 1), (2, a_push 3 (.inl 0)), (3, a_istore 4 2), (4, a_iload 5 2), (5, a_aload 6 0), (6, a_getI 9 1 1), (9, a_c_ge 12 93), (12, a_iload 13 2), (13, a_aload 14 0), (14, a_getR 17 1 (fun _ => 6)), (17, a_len 18), (18, a_c_ge 21 93), (21, a_aload 22 0), (22, a_getR 25 1 (fun _ => 6)), (25, a_iload 26 2), (26, a_aald 27), (27, a_astore 28 3), (28, a_aload 29 3), (29, a_aload 30 3), (30, a_getI 33 5 6), (33, a_push 34 (.inl (-1))), (34, a_c_eq 37 52), (37, a_aload 38 3), (38, a_aload 39 0), (39, a_aload 40 3), (40, a_getI 43 5 6), (43, a_callV 46 1 1 mX1_slotAt), (46, a_callV 49 1 5 mX5_isMetBy), (49, a_if_eq 52 56), (52, a_push 53 (.inl 1)), (53, a_goto 57), (56, a_push 57 (.inl 0)), (57, a_putZ 60 5 8), (60, a_aload 61 3), (61, a_getI 64 5 9), (64, a_if_eq 67 87), (67, a_aload 68 3), (68, a_getI 71 5 8), (71, a_if_ne 74 87), (74, a_aload 75 3), (75, a_push 76 (.inl 0)), (76, a_putZ 79 5 9), (79, a_aload 80 3), (80, a_push 81 (.inl 0)), (81, a_putZ 84 5 11), (84, a_iinc 87 1 1), (87, a_iinc 90 2 1), (90, a_goto 4), (93, a_iload 94 1), (94, a_iret)]
noncomputable def mX1_reckonNeeds : List AV → MM → Option AR := zsem tX1_reckonNeeds 4 1
def wX1_reckonNeeds : List Cond := .code yX1_reckonNeeds cX1_reckonNeeds 4 (some .int) :: lw_g
def rX1_reckonNeeds : Room := { frames := 1, cells := 0, slots := 0, locals := 21 }
set_option maxHeartbeats 4000000 in
set_option maxRecDepth 100000 in
theorem kX1_reckonNeeds (l : Launch) (X : XC) : zM l X yX1_reckonNeeds wX1_reckonNeeds rX1_reckonNeeds mX1_reckonNeeds := by
  refine zMet tX1_reckonNeeds 1 (by decide) rfl (by decide) ?_
  intro p e s m args below meth c res hC
  obtain ⟨hx, hb, hr, hts0, hown, hml, hlk, hK⟩ := hC
  have hts : ∀ w ∈ lw_g, w.before args s = true := fun w h => hts0 w (List.mem_cons_of_mem _ h)
  have hro : 0 ≤ (headSpec wX1_reckonNeeds rX1_reckonNeeds).room.cells ∧ 0 ≤ (headSpec wX1_reckonNeeds rX1_reckonNeeds).room.slots := ⟨Nat.zero_le _, Nat.zero_le _⟩
  refine zcons (s_iconst hx hb 0 dX1_reckonNeeds_0 (by decide)) ?_
  refine zcons (s_istore_n hx hb 1 dX1_reckonNeeds_1 rfl) ?_
  refine zcons (s_iconst hx hb 0 dX1_reckonNeeds_2 (by decide)) ?_
  refine zcons (s_istore_n hx hb 2 dX1_reckonNeeds_3 rfl) ?_
  refine zcons (s_iload_n hx hb 2 dX1_reckonNeeds_4 rfl) ?_
  refine zcons (s_aload_n hx hb 0 dX1_reckonNeeds_5 rfl) ?_
  refine zcons (s_getI hx hb hts hown hK zcX1 hinX1 1 (by decide) w141 rfl (zptk (by decide) (by decide +kernel)) dX1_reckonNeeds_6) ?_
  refine zcons (s_c_ge hx hb 93 dX1_reckonNeeds_9 (by decide)) ?_
  refine zcons (s_iload_n hx hb 2 dX1_reckonNeeds_12 rfl) ?_
  refine zcons (s_aload_n hx hb 0 dX1_reckonNeeds_13 rfl) ?_
  refine zcons (s_getR hx hb hts hown hK zcX1 hinX1 0 (by decide) w140 rfl (fun _ => 6) (zptf (by decide) (by decide +kernel)) dX1_reckonNeeds_14) ?_
  refine zcons (s_len hx hb hK dX1_reckonNeeds_17) ?_
  refine zcons (s_c_ge hx hb 93 dX1_reckonNeeds_18 (by decide)) ?_
  refine zcons (s_aload_n hx hb 0 dX1_reckonNeeds_21 rfl) ?_
  refine zcons (s_getR hx hb hts hown hK zcX1 hinX1 0 (by decide) w140 rfl (fun _ => 6) (zptf (by decide) (by decide +kernel)) dX1_reckonNeeds_22) ?_
  refine zcons (s_iload_n hx hb 2 dX1_reckonNeeds_25 rfl) ?_
  refine zcons (s_aald hx hb hK dX1_reckonNeeds_26) ?_
  refine zcons (s_astore_n hx hb 3 dX1_reckonNeeds_27 rfl) ?_
  refine zcons (s_aload_n hx hb 3 dX1_reckonNeeds_28 rfl) ?_
  refine zcons (s_aload_n hx hb 3 dX1_reckonNeeds_29 rfl) ?_
  refine zcons (s_getI hx hb hts hown hK zcX5 hinX5 6 (by decide) w93 rfl (zptk (by decide) (by decide +kernel)) dX1_reckonNeeds_30) ?_
  refine zcons (s_iconst hx hb (-1) dX1_reckonNeeds_33 (by decide)) ?_
  refine zcons (s_c_eq hx hb 52 dX1_reckonNeeds_34 (by decide)) ?_
  refine zcons (s_aload_n hx hb 3 dX1_reckonNeeds_37 rfl) ?_
  refine zcons (s_aload_n hx hb 0 dX1_reckonNeeds_38 rfl) ?_
  refine zcons (s_aload_n hx hb 3 dX1_reckonNeeds_39 rfl) ?_
  refine zcons (s_getI hx hb hts hown hK zcX5 hinX5 6 (by decide) w93 rfl (zptk (by decide) (by decide +kernel)) dX1_reckonNeeds_40) ?_
  refine zcons (s_callV (hZ := fun _ h => h) hx hb hts hml hown hK hro zcX1 (kX1_slotAt l X) (zgoodV w353 w354 w355 w45 w356) rfl rfl rfl (by decide +kernel) ⟨Nat.le_of_ble_eq_true rfl, Nat.le_of_ble_eq_true rfl⟩ dX1_reckonNeeds_43) ?_
  refine zcons (s_callV (hZ := fun _ h => h) hx hb hts hml hown hK hro zcX5 (kX5_isMetBy l X) (zgoodV w361 w362 w363 w46 w364) rfl rfl rfl (by decide +kernel) ⟨Nat.le_of_ble_eq_true rfl, Nat.le_of_ble_eq_true rfl⟩ dX1_reckonNeeds_46) ?_
  refine zcons (s_if_eq hx hb 56 dX1_reckonNeeds_49 (by decide)) ?_
  refine zcons (s_iconst hx hb 1 dX1_reckonNeeds_52 (by decide)) ?_
  refine zcons (s_goto hx hb 57 dX1_reckonNeeds_53 (by decide)) ?_
  refine zcons (s_iconst hx hb 0 dX1_reckonNeeds_56 (by decide)) ?_
  refine zcons (s_putZ (hZ := fun _ h => h) hx hb hts hown hK zcX5 hinX5 tyX5 tyX5_ok nmX5 8 (by decide) w99 rfl rfl (zptk (by decide) (by decide +kernel)) (by decide +kernel) dX1_reckonNeeds_57) ?_
  refine zcons (s_aload_n hx hb 3 dX1_reckonNeeds_60 rfl) ?_
  refine zcons (s_getI hx hb hts hown hK zcX5 hinX5 9 (by decide) w101 rfl (zptk (by decide) (by decide +kernel)) dX1_reckonNeeds_61) ?_
  refine zcons (s_if_eq hx hb 87 dX1_reckonNeeds_64 (by decide)) ?_
  refine zcons (s_aload_n hx hb 3 dX1_reckonNeeds_67 rfl) ?_
  refine zcons (s_getI hx hb hts hown hK zcX5 hinX5 8 (by decide) w99 rfl (zptk (by decide) (by decide +kernel)) dX1_reckonNeeds_68) ?_
  refine zcons (s_if_ne hx hb 87 dX1_reckonNeeds_71 (by decide)) ?_
  refine zcons (s_aload_n hx hb 3 dX1_reckonNeeds_74 rfl) ?_
  refine zcons (s_iconst hx hb 0 dX1_reckonNeeds_75 (by decide)) ?_
  refine zcons (s_putZ (hZ := fun _ h => h) hx hb hts hown hK zcX5 hinX5 tyX5 tyX5_ok nmX5 9 (by decide) w101 rfl rfl (zptk (by decide) (by decide +kernel)) (by decide +kernel) dX1_reckonNeeds_76) ?_
  refine zcons (s_aload_n hx hb 3 dX1_reckonNeeds_79 rfl) ?_
  refine zcons (s_iconst hx hb 0 dX1_reckonNeeds_80 (by decide)) ?_
  refine zcons (s_putZ (hZ := fun _ h => h) hx hb hts hown hK zcX5 hinX5 tyX5 tyX5_ok nmX5 11 (by decide) w107 rfl rfl (zptk (by decide) (by decide +kernel)) (by decide +kernel) dX1_reckonNeeds_81) ?_
  refine zcons (s_iinc hx hb 1 dX1_reckonNeeds_84 (by decide)) ?_
  refine zcons (s_iinc hx hb 1 dX1_reckonNeeds_87 (by decide)) ?_
  refine zcons (s_goto hx hb 4 dX1_reckonNeeds_90 (by decide)) ?_
  refine zcons (s_iload_n hx hb 1 dX1_reckonNeeds_93 rfl) ?_
  refine zcons (s_iret hx hb hr hK hlk dX1_reckonNeeds_94) ?_
  exact znil
noncomputable def tX1_addSlot : List (Nat × AI) := [(0, a_aload 1 0), (1, a_iload 2 1), (2, a_callV 5 1 1 mX1_canName), (5, a_if_ne 8 10), (8, a_push 9 (.inl (-1))), (9, a_iret), (10, a_aload 11 0), (11, a_dup 12), (12, a_getI 15 1 1), (15, a_push 16 (.inl 1)), (16, a_bin 17 (fun x y => x + y)), (17, a_put 20 1 1), (20, a_aload 21 0), (21, a_aload 22 0), (22, a_getI 25 1 1), (25, a_push 26 (.inl 1)), (26, a_bin 27 (fun x y => x - y)), (27, a_callV 30 1 1 mX1_slotAt), (30, a_astore 31 3), (31, a_aload 32 3), (32, a_null 35 45), (35, a_aload 36 3), (36, a_iload 37 1), (37, a_put 40 5 0), (40, a_aload 41 3), (41, a_iload 42 2), (42, a_putZ 45 5 3), (45, a_aload 46 0), (46, a_callV 49 0 1 mX1_reckonNeeds), (49, a_pop 50), (50, a_aload 51 0), (51, a_getI 54 1 1), (54, a_push 55 (.inl 1)), (55, a_bin 56 (fun x y => x - y)), (56, a_iret)]
noncomputable def mX1_addSlot : List AV → MM → Option AR := zsem tX1_addSlot 4 3
def wX1_addSlot : List Cond := .code yX1_addSlot cX1_addSlot 4 (some .int) :: lw_g
def rX1_addSlot : Room := { frames := 2, cells := 0, slots := 0, locals := 44 }
set_option maxHeartbeats 4000000 in
set_option maxRecDepth 100000 in
theorem kX1_addSlot (l : Launch) (X : XC) : zM l X yX1_addSlot wX1_addSlot rX1_addSlot mX1_addSlot := by
  refine zMet tX1_addSlot 3 (by decide) rfl (by decide) ?_
  intro p e s m args below meth c res hC
  obtain ⟨hx, hb, hr, hts0, hown, hml, hlk, hK⟩ := hC
  have hts : ∀ w ∈ lw_g, w.before args s = true := fun w h => hts0 w (List.mem_cons_of_mem _ h)
  have hro : 0 ≤ (headSpec wX1_addSlot rX1_addSlot).room.cells ∧ 0 ≤ (headSpec wX1_addSlot rX1_addSlot).room.slots := ⟨Nat.zero_le _, Nat.zero_le _⟩
  refine zcons (s_aload_n hx hb 0 dX1_addSlot_0 rfl) ?_
  refine zcons (s_iload_n hx hb 1 dX1_addSlot_1 rfl) ?_
  refine zcons (s_callV (hZ := fun _ h => h) hx hb hts hml hown hK hro zcX1 (kX1_canName l X) (zgoodV w352 w334 w335 w45 w336) rfl rfl rfl (by decide +kernel) ⟨Nat.le_of_ble_eq_true rfl, Nat.le_of_ble_eq_true rfl⟩ dX1_addSlot_2) ?_
  refine zcons (s_if_ne hx hb 10 dX1_addSlot_5 (by decide)) ?_
  refine zcons (s_iconst hx hb (-1) dX1_addSlot_8 (by decide)) ?_
  refine zcons (s_iret hx hb hr hK hlk dX1_addSlot_9) ?_
  refine zcons (s_aload_n hx hb 0 dX1_addSlot_10 rfl) ?_
  refine zcons (s_dup hx hb dX1_addSlot_11) ?_
  refine zcons (s_getI hx hb hts hown hK zcX1 hinX1 1 (by decide) w141 rfl (zptk (by decide) (by decide +kernel)) dX1_addSlot_12) ?_
  refine zcons (s_iconst hx hb 1 dX1_addSlot_15 (by decide)) ?_
  refine zcons (s_iadd hx hb dX1_addSlot_16) ?_
  refine zcons (s_put (hZ := fun _ h => h) hx hb hts hown hK zcX1 hinX1 tyX1 tyX1_ok nmX1 1 (by decide) w141 rfl rfl (zptk (by decide) (by decide +kernel)) (by decide +kernel) dX1_addSlot_17) ?_
  refine zcons (s_aload_n hx hb 0 dX1_addSlot_20 rfl) ?_
  refine zcons (s_aload_n hx hb 0 dX1_addSlot_21 rfl) ?_
  refine zcons (s_getI hx hb hts hown hK zcX1 hinX1 1 (by decide) w141 rfl (zptk (by decide) (by decide +kernel)) dX1_addSlot_22) ?_
  refine zcons (s_iconst hx hb 1 dX1_addSlot_25 (by decide)) ?_
  refine zcons (s_isub hx hb dX1_addSlot_26) ?_
  refine zcons (s_callV (hZ := fun _ h => h) hx hb hts hml hown hK hro zcX1 (kX1_slotAt l X) (zgoodV w353 w354 w355 w45 w356) rfl rfl rfl (by decide +kernel) ⟨Nat.le_of_ble_eq_true rfl, Nat.le_of_ble_eq_true rfl⟩ dX1_addSlot_27) ?_
  refine zcons (s_astore_n hx hb 3 dX1_addSlot_30 rfl) ?_
  refine zcons (s_aload_n hx hb 3 dX1_addSlot_31 rfl) ?_
  refine zcons (s_null hx hb 45 dX1_addSlot_32 (by decide)) ?_
  refine zcons (s_aload_n hx hb 3 dX1_addSlot_35 rfl) ?_
  refine zcons (s_iload_n hx hb 1 dX1_addSlot_36 rfl) ?_
  refine zcons (s_put (hZ := fun _ h => h) hx hb hts hown hK zcX5 hinX5 tyX5 tyX5_ok nmX5 0 (by decide) w77 rfl rfl (zptk (by decide) (by decide +kernel)) (by decide +kernel) dX1_addSlot_37) ?_
  refine zcons (s_aload_n hx hb 3 dX1_addSlot_40 rfl) ?_
  refine zcons (s_iload_n hx hb 2 dX1_addSlot_41 rfl) ?_
  refine zcons (s_putZ (hZ := fun _ h => h) hx hb hts hown hK zcX5 hinX5 tyX5 tyX5_ok nmX5 3 (by decide) w86 rfl rfl (zptk (by decide) (by decide +kernel)) (by decide +kernel) dX1_addSlot_42) ?_
  refine zcons (s_aload_n hx hb 0 dX1_addSlot_45 rfl) ?_
  refine zcons (s_callV (hZ := fun _ h => h) hx hb hts hml hown hK hro zcX1 (kX1_reckonNeeds l X) (zgoodV w357 w359 w1 w45 w360) rfl rfl rfl (by decide +kernel) ⟨Nat.le_of_ble_eq_true rfl, Nat.le_of_ble_eq_true rfl⟩ dX1_addSlot_46) ?_
  refine zcons (s_pop hx hb dX1_addSlot_49) ?_
  refine zcons (s_aload_n hx hb 0 dX1_addSlot_50 rfl) ?_
  refine zcons (s_getI hx hb hts hown hK zcX1 hinX1 1 (by decide) w141 rfl (zptk (by decide) (by decide +kernel)) dX1_addSlot_51) ?_
  refine zcons (s_iconst hx hb 1 dX1_addSlot_54 (by decide)) ?_
  refine zcons (s_isub hx hb dX1_addSlot_55) ?_
  refine zcons (s_iret hx hb hr hK hlk dX1_addSlot_56) ?_
  exact znil
noncomputable def tX1_addDigits : List (Nat × AI) := [(0, a_aload 1 0), (1, a_iload 2 1), (2, a_iload 4 4), (4, a_callV 7 2 1 mX1_addSlot), (7, a_istore 9 5), (9, a_aload 10 0), (10, a_iload 12 5), (12, a_callV 15 1 1 mX1_slotAt), (15, a_astore 17 6), (17, a_aload 19 6), (19, a_null 22 34), (22, a_aload 24 6), (24, a_iload 25 2), (25, a_put 28 5 1), (28, a_aload 30 6), (30, a_iload 31 3), (31, a_putZ 34 5 2), (34, a_iload 36 5), (36, a_iret)]
noncomputable def mX1_addDigits : List AV → MM → Option AR := zsem tX1_addDigits 7 5
def wX1_addDigits : List Cond := .code yX1_addDigits cX1_addDigits 7 (some .int) :: lw_g
def rX1_addDigits : Room := { frames := 3, cells := 0, slots := 0, locals := 67 }
set_option maxHeartbeats 4000000 in
set_option maxRecDepth 100000 in
theorem kX1_addDigits (l : Launch) (X : XC) : zM l X yX1_addDigits wX1_addDigits rX1_addDigits mX1_addDigits := by
  refine zMet tX1_addDigits 5 (by decide) rfl (by decide) ?_
  intro p e s m args below meth c res hC
  obtain ⟨hx, hb, hr, hts0, hown, hml, hlk, hK⟩ := hC
  have hts : ∀ w ∈ lw_g, w.before args s = true := fun w h => hts0 w (List.mem_cons_of_mem _ h)
  have hro : 0 ≤ (headSpec wX1_addDigits rX1_addDigits).room.cells ∧ 0 ≤ (headSpec wX1_addDigits rX1_addDigits).room.slots := ⟨Nat.zero_le _, Nat.zero_le _⟩
  refine zcons (s_aload_n hx hb 0 dX1_addDigits_0 rfl) ?_
  refine zcons (s_iload_n hx hb 1 dX1_addDigits_1 rfl) ?_
  refine zcons (s_iload hx hb dX1_addDigits_2) ?_
  refine zcons (s_callV (hZ := fun _ h => h) hx hb hts hml hown hK hro zcX1 (kX1_addSlot l X) (zgoodV w348 w350 w0 w45 w351) rfl rfl rfl (by decide +kernel) ⟨Nat.le_of_ble_eq_true rfl, Nat.le_of_ble_eq_true rfl⟩ dX1_addDigits_4) ?_
  refine zcons (s_istore hx hb dX1_addDigits_7) ?_
  refine zcons (s_aload_n hx hb 0 dX1_addDigits_9 rfl) ?_
  refine zcons (s_iload hx hb dX1_addDigits_10) ?_
  refine zcons (s_callV (hZ := fun _ h => h) hx hb hts hml hown hK hro zcX1 (kX1_slotAt l X) (zgoodV w353 w354 w355 w45 w356) rfl rfl rfl (by decide +kernel) ⟨Nat.le_of_ble_eq_true rfl, Nat.le_of_ble_eq_true rfl⟩ dX1_addDigits_12) ?_
  refine zcons (s_astore hx hb dX1_addDigits_15) ?_
  refine zcons (s_aload hx hb dX1_addDigits_17) ?_
  refine zcons (s_null hx hb 34 dX1_addDigits_19 (by decide)) ?_
  refine zcons (s_aload hx hb dX1_addDigits_22) ?_
  refine zcons (s_iload_n hx hb 2 dX1_addDigits_24 rfl) ?_
  refine zcons (s_put (hZ := fun _ h => h) hx hb hts hown hK zcX5 hinX5 tyX5 tyX5_ok nmX5 1 (by decide) w79 rfl rfl (zptk (by decide) (by decide +kernel)) (by decide +kernel) dX1_addDigits_25) ?_
  refine zcons (s_aload hx hb dX1_addDigits_28) ?_
  refine zcons (s_iload_n hx hb 3 dX1_addDigits_30 rfl) ?_
  refine zcons (s_putZ (hZ := fun _ h => h) hx hb hts hown hK zcX5 hinX5 tyX5 tyX5_ok nmX5 2 (by decide) w83 rfl rfl (zptk (by decide) (by decide +kernel)) (by decide +kernel) dX1_addDigits_31) ?_
  refine zcons (s_iload hx hb dX1_addDigits_34) ?_
  refine zcons (s_iret hx hb hr hK hlk dX1_addDigits_36) ?_
  exact znil
noncomputable def tX1_addChoice : List (Nat × AI) := [(0, a_aload 1 0), (1, a_iload 2 1), (2, a_iload 3 2), (3, a_callV 6 2 1 mX1_addSlot), (6, a_istore 8 5), (8, a_aload 9 0), (9, a_iload 11 5), (11, a_callV 14 1 1 mX1_slotAt), (14, a_astore 16 6), (16, a_aload 18 6), (18, a_null 21 74), (21, a_push 22 (.inl 0)), (22, a_istore 24 7), (24, a_iload 26 7), (26, a_iload 28 4), (28, a_c_ge 31 67), (31, a_iload 33 7), (33, a_aload 34 3), (34, a_len 35), (35, a_c_ge 38 67), (38, a_iload 40 7), (40, a_aload 42 6), (42, a_getR 45 5 (fun c => c + 12)), (45, a_len 46), (46, a_c_ge 49 67), (49, a_aload 51 6), (51, a_getR 54 5 (fun c => c + 12)), (54, a_iload 56 7), (56, a_aload 57 3), (57, a_iload 59 7), (59, a_ald 60 10), (60, a_ast 61), (61, a_iinc 64 7 1), (64, a_goto 24), (67, a_aload 69 6), (69, a_iload 71 4), (71, a_put 74 5 5), (74, a_iload 76 5), (76, a_iret)]
noncomputable def mX1_addChoice : List AV → MM → Option AR := zsem tX1_addChoice 8 5
def wX1_addChoice : List Cond := .code yX1_addChoice cX1_addChoice 8 (some .int) :: lw_g
def rX1_addChoice : Room := { frames := 3, cells := 0, slots := 0, locals := 67 }
set_option maxHeartbeats 4000000 in
set_option maxRecDepth 100000 in
theorem kX1_addChoice (l : Launch) (X : XC) : zM l X yX1_addChoice wX1_addChoice rX1_addChoice mX1_addChoice := by
  refine zMet tX1_addChoice 5 (by decide) rfl (by decide) ?_
  intro p e s m args below meth c res hC
  obtain ⟨hx, hb, hr, hts0, hown, hml, hlk, hK⟩ := hC
  have hts : ∀ w ∈ lw_g, w.before args s = true := fun w h => hts0 w (List.mem_cons_of_mem _ h)
  have hro : 0 ≤ (headSpec wX1_addChoice rX1_addChoice).room.cells ∧ 0 ≤ (headSpec wX1_addChoice rX1_addChoice).room.slots := ⟨Nat.zero_le _, Nat.zero_le _⟩
  refine zcons (s_aload_n hx hb 0 dX1_addChoice_0 rfl) ?_
  refine zcons (s_iload_n hx hb 1 dX1_addChoice_1 rfl) ?_
  refine zcons (s_iload_n hx hb 2 dX1_addChoice_2 rfl) ?_
  refine zcons (s_callV (hZ := fun _ h => h) hx hb hts hml hown hK hro zcX1 (kX1_addSlot l X) (zgoodV w348 w350 w0 w45 w351) rfl rfl rfl (by decide +kernel) ⟨Nat.le_of_ble_eq_true rfl, Nat.le_of_ble_eq_true rfl⟩ dX1_addChoice_3) ?_
  refine zcons (s_istore hx hb dX1_addChoice_6) ?_
  refine zcons (s_aload_n hx hb 0 dX1_addChoice_8 rfl) ?_
  refine zcons (s_iload hx hb dX1_addChoice_9) ?_
  refine zcons (s_callV (hZ := fun _ h => h) hx hb hts hml hown hK hro zcX1 (kX1_slotAt l X) (zgoodV w353 w354 w355 w45 w356) rfl rfl rfl (by decide +kernel) ⟨Nat.le_of_ble_eq_true rfl, Nat.le_of_ble_eq_true rfl⟩ dX1_addChoice_11) ?_
  refine zcons (s_astore hx hb dX1_addChoice_14) ?_
  refine zcons (s_aload hx hb dX1_addChoice_16) ?_
  refine zcons (s_null hx hb 74 dX1_addChoice_18 (by decide)) ?_
  refine zcons (s_iconst hx hb 0 dX1_addChoice_21 (by decide)) ?_
  refine zcons (s_istore hx hb dX1_addChoice_22) ?_
  refine zcons (s_iload hx hb dX1_addChoice_24) ?_
  refine zcons (s_iload hx hb dX1_addChoice_26) ?_
  refine zcons (s_c_ge hx hb 67 dX1_addChoice_28 (by decide)) ?_
  refine zcons (s_iload hx hb dX1_addChoice_31) ?_
  refine zcons (s_aload_n hx hb 3 dX1_addChoice_33 rfl) ?_
  refine zcons (s_len hx hb hK dX1_addChoice_34) ?_
  refine zcons (s_c_ge hx hb 67 dX1_addChoice_35 (by decide)) ?_
  refine zcons (s_iload hx hb dX1_addChoice_38) ?_
  refine zcons (s_aload hx hb dX1_addChoice_40) ?_
  refine zcons (s_getR hx hb hts hown hK zcX5 hinX5 4 (by decide) w88 rfl (fun c => c + 12) (zptf (by decide) (by decide +kernel)) dX1_addChoice_42) ?_
  refine zcons (s_len hx hb hK dX1_addChoice_45) ?_
  refine zcons (s_c_ge hx hb 67 dX1_addChoice_46 (by decide)) ?_
  refine zcons (s_aload hx hb dX1_addChoice_49) ?_
  refine zcons (s_getR hx hb hts hown hK zcX5 hinX5 4 (by decide) w88 rfl (fun c => c + 12) (zptf (by decide) (by decide +kernel)) dX1_addChoice_51) ?_
  refine zcons (s_iload hx hb dX1_addChoice_54) ?_
  refine zcons (s_aload_n hx hb 3 dX1_addChoice_56 rfl) ?_
  refine zcons (s_iload hx hb dX1_addChoice_57) ?_
  refine zcons (s_iald hx hb hK dX1_addChoice_59) ?_
  refine zcons (s_iast (hZ := fun _ h => h) hx hb hK dX1_addChoice_60) ?_
  refine zcons (s_iinc hx hb 1 dX1_addChoice_61 (by decide)) ?_
  refine zcons (s_goto hx hb 24 dX1_addChoice_64 (by decide)) ?_
  refine zcons (s_aload hx hb dX1_addChoice_67) ?_
  refine zcons (s_iload hx hb dX1_addChoice_69) ?_
  refine zcons (s_put (hZ := fun _ h => h) hx hb hts hown hK zcX5 hinX5 tyX5 tyX5_ok nmX5 5 (by decide) w90 rfl rfl (zptk (by decide) (by decide +kernel)) (by decide +kernel) dX1_addChoice_71) ?_
  refine zcons (s_iload hx hb dX1_addChoice_74) ?_
  refine zcons (s_iret hx hb hr hK hlk dX1_addChoice_76) ?_
  exact znil
noncomputable def tX1_addNeed : List (Nat × AI) := [(0, a_aload 1 0), (1, a_iload 2 1), (2, a_callV 5 1 1 mX1_slotAt), (5, a_astore 7 4), (7, a_aload 8 0), (8, a_iload 9 2), (9, a_callV 12 1 1 mX1_slotAt), (12, a_astore 14 5), (14, a_aload 16 4), (16, a_null 19 42), (19, a_aload 21 5), (21, a_null 24 42), (24, a_iload 25 2), (25, a_iload 26 1), (26, a_c_ge 29 42), (29, a_iload 30 3), (30, a_if_lt 33 42), (33, a_iload 34 3), (34, a_aload 36 5), (36, a_getI 39 5 5), (39, a_c_lt 42 44), (42, a_push 43 (.inl 0)), (43, a_zret), (44, a_aload 46 4), (46, a_iload 47 2), (47, a_put 50 5 6), (50, a_aload 52 4), (52, a_iload 53 3), (53, a_put 56 5 7), (56, a_aload 57 0), (57, a_callV 60 0 1 mX1_reckonNeeds), (60, a_pop 61), (61, a_push 62 (.inl 1)), (62, a_zret)]
noncomputable def mX1_addNeed : List AV → MM → Option AR := zsem tX1_addNeed 6 4
def wX1_addNeed : List Cond := .code yX1_addNeed cX1_addNeed 6 (some .boolean) :: lw_g
def rX1_addNeed : Room := { frames := 2, cells := 0, slots := 0, locals := 44 }
set_option maxHeartbeats 4000000 in
set_option maxRecDepth 100000 in
theorem kX1_addNeed (l : Launch) (X : XC) : zM l X yX1_addNeed wX1_addNeed rX1_addNeed mX1_addNeed := by
  refine zMet tX1_addNeed 4 (by decide) rfl (by decide) ?_
  intro p e s m args below meth c res hC
  obtain ⟨hx, hb, hr, hts0, hown, hml, hlk, hK⟩ := hC
  have hts : ∀ w ∈ lw_g, w.before args s = true := fun w h => hts0 w (List.mem_cons_of_mem _ h)
  have hro : 0 ≤ (headSpec wX1_addNeed rX1_addNeed).room.cells ∧ 0 ≤ (headSpec wX1_addNeed rX1_addNeed).room.slots := ⟨Nat.zero_le _, Nat.zero_le _⟩
  refine zcons (s_aload_n hx hb 0 dX1_addNeed_0 rfl) ?_
  refine zcons (s_iload_n hx hb 1 dX1_addNeed_1 rfl) ?_
  refine zcons (s_callV (hZ := fun _ h => h) hx hb hts hml hown hK hro zcX1 (kX1_slotAt l X) (zgoodV w353 w354 w355 w45 w356) rfl rfl rfl (by decide +kernel) ⟨Nat.le_of_ble_eq_true rfl, Nat.le_of_ble_eq_true rfl⟩ dX1_addNeed_2) ?_
  refine zcons (s_astore hx hb dX1_addNeed_5) ?_
  refine zcons (s_aload_n hx hb 0 dX1_addNeed_7 rfl) ?_
  refine zcons (s_iload_n hx hb 2 dX1_addNeed_8 rfl) ?_
  refine zcons (s_callV (hZ := fun _ h => h) hx hb hts hml hown hK hro zcX1 (kX1_slotAt l X) (zgoodV w353 w354 w355 w45 w356) rfl rfl rfl (by decide +kernel) ⟨Nat.le_of_ble_eq_true rfl, Nat.le_of_ble_eq_true rfl⟩ dX1_addNeed_9) ?_
  refine zcons (s_astore hx hb dX1_addNeed_12) ?_
  refine zcons (s_aload hx hb dX1_addNeed_14) ?_
  refine zcons (s_null hx hb 42 dX1_addNeed_16 (by decide)) ?_
  refine zcons (s_aload hx hb dX1_addNeed_19) ?_
  refine zcons (s_null hx hb 42 dX1_addNeed_21 (by decide)) ?_
  refine zcons (s_iload_n hx hb 2 dX1_addNeed_24 rfl) ?_
  refine zcons (s_iload_n hx hb 1 dX1_addNeed_25 rfl) ?_
  refine zcons (s_c_ge hx hb 42 dX1_addNeed_26 (by decide)) ?_
  refine zcons (s_iload_n hx hb 3 dX1_addNeed_29 rfl) ?_
  refine zcons (s_if_lt hx hb 42 dX1_addNeed_30 (by decide)) ?_
  refine zcons (s_iload_n hx hb 3 dX1_addNeed_33 rfl) ?_
  refine zcons (s_aload hx hb dX1_addNeed_34) ?_
  refine zcons (s_getI hx hb hts hown hK zcX5 hinX5 5 (by decide) w90 rfl (zptk (by decide) (by decide +kernel)) dX1_addNeed_36) ?_
  refine zcons (s_c_lt hx hb 44 dX1_addNeed_39 (by decide)) ?_
  refine zcons (s_iconst hx hb 0 dX1_addNeed_42 (by decide)) ?_
  refine zcons (s_zret hx hb hr hK hlk dX1_addNeed_43) ?_
  refine zcons (s_aload hx hb dX1_addNeed_44) ?_
  refine zcons (s_iload_n hx hb 2 dX1_addNeed_46 rfl) ?_
  refine zcons (s_put (hZ := fun _ h => h) hx hb hts hown hK zcX5 hinX5 tyX5 tyX5_ok nmX5 6 (by decide) w93 rfl rfl (zptk (by decide) (by decide +kernel)) (by decide +kernel) dX1_addNeed_47) ?_
  refine zcons (s_aload hx hb dX1_addNeed_50) ?_
  refine zcons (s_iload_n hx hb 3 dX1_addNeed_52 rfl) ?_
  refine zcons (s_put (hZ := fun _ h => h) hx hb hts hown hK zcX5 hinX5 tyX5 tyX5_ok nmX5 7 (by decide) w95 rfl rfl (zptk (by decide) (by decide +kernel)) (by decide +kernel) dX1_addNeed_53) ?_
  refine zcons (s_aload_n hx hb 0 dX1_addNeed_56 rfl) ?_
  refine zcons (s_callV (hZ := fun _ h => h) hx hb hts hml hown hK hro zcX1 (kX1_reckonNeeds l X) (zgoodV w357 w359 w1 w45 w360) rfl rfl rfl (by decide +kernel) ⟨Nat.le_of_ble_eq_true rfl, Nat.le_of_ble_eq_true rfl⟩ dX1_addNeed_57) ?_
  refine zcons (s_pop hx hb dX1_addNeed_60) ?_
  refine zcons (s_iconst hx hb 1 dX1_addNeed_61 (by decide)) ?_
  refine zcons (s_zret hx hb hr hK hlk dX1_addNeed_62) ?_
  exact znil
noncomputable def tX5_isOpen : List (Nat × AI) := [(0, a_aload 1 0), (1, a_getI 4 5 8), (4, a_if_eq 7 18), (7, a_aload 8 0), (8, a_getI 11 5 9), (11, a_if_ne 14 18), (14, a_push 15 (.inl 1)), (15, a_goto 19), (18, a_push 19 (.inl 0)), (19, a_zret)]
noncomputable def mX5_isOpen : List AV → MM → Option AR := zsem tX5_isOpen 1 1
def wX5_isOpen : List Cond := .code yX5_isOpen cX5_isOpen 1 (some .boolean) :: lw_g
def rX5_isOpen : Room := { frames := 0, cells := 0, slots := 0, locals := 0 }
set_option maxHeartbeats 4000000 in
set_option maxRecDepth 100000 in
theorem kX5_isOpen (l : Launch) (X : XC) : zM l X yX5_isOpen wX5_isOpen rX5_isOpen mX5_isOpen := by
  refine zMet tX5_isOpen 1 (by decide) rfl (by decide) ?_
  intro p e s m args below meth c res hC
  obtain ⟨hx, hb, hr, hts0, hown, hml, hlk, hK⟩ := hC
  have hts : ∀ w ∈ lw_g, w.before args s = true := fun w h => hts0 w (List.mem_cons_of_mem _ h)
  have hro : 0 ≤ (headSpec wX5_isOpen rX5_isOpen).room.cells ∧ 0 ≤ (headSpec wX5_isOpen rX5_isOpen).room.slots := ⟨Nat.zero_le _, Nat.zero_le _⟩
  refine zcons (s_aload_n hx hb 0 dX5_isOpen_0 rfl) ?_
  refine zcons (s_getI hx hb hts hown hK zcX5 hinX5 8 (by decide) w96 rfl (zptk (by decide) (by decide +kernel)) dX5_isOpen_1) ?_
  refine zcons (s_if_eq hx hb 18 dX5_isOpen_4 (by decide)) ?_
  refine zcons (s_aload_n hx hb 0 dX5_isOpen_7 rfl) ?_
  refine zcons (s_getI hx hb hts hown hK zcX5 hinX5 9 (by decide) w100 rfl (zptk (by decide) (by decide +kernel)) dX5_isOpen_8) ?_
  refine zcons (s_if_ne hx hb 18 dX5_isOpen_11 (by decide)) ?_
  refine zcons (s_iconst hx hb 1 dX5_isOpen_14 (by decide)) ?_
  refine zcons (s_goto hx hb 19 dX5_isOpen_15 (by decide)) ?_
  refine zcons (s_iconst hx hb 0 dX5_isOpen_18 (by decide)) ?_
  refine zcons (s_zret hx hb hr hK hlk dX5_isOpen_19) ?_
  exact znil
noncomputable def tX9_oneIf : List (Nat × AI) := [(0, a_iload 1 0), (1, a_if_eq 4 8), (4, a_push 5 (.inl 1)), (5, a_goto 9), (8, a_push 9 (.inl 0)), (9, a_iret)]
noncomputable def mX9_oneIf : List AV → MM → Option AR := zsem tX9_oneIf 1 1
def wX9_oneIf : List Cond := .code yX9_oneIf cX9_oneIf 1 (some .int) :: lw_g
def rX9_oneIf : Room := { frames := 0, cells := 0, slots := 0, locals := 0 }
set_option maxHeartbeats 4000000 in
set_option maxRecDepth 100000 in
theorem kX9_oneIf (l : Launch) (X : XC) : zM l X yX9_oneIf wX9_oneIf rX9_oneIf mX9_oneIf := by
  refine zMet tX9_oneIf 1 (by decide) rfl (by decide) ?_
  intro p e s m args below meth c res hC
  obtain ⟨hx, hb, hr, hts0, hown, hml, hlk, hK⟩ := hC
  have hts : ∀ w ∈ lw_g, w.before args s = true := fun w h => hts0 w (List.mem_cons_of_mem _ h)
  have hro : 0 ≤ (headSpec wX9_oneIf rX9_oneIf).room.cells ∧ 0 ≤ (headSpec wX9_oneIf rX9_oneIf).room.slots := ⟨Nat.zero_le _, Nat.zero_le _⟩
  refine zcons (s_iload_n hx hb 0 dX9_oneIf_0 rfl) ?_
  refine zcons (s_if_eq hx hb 8 dX9_oneIf_1 (by decide)) ?_
  refine zcons (s_iconst hx hb 1 dX9_oneIf_4 (by decide)) ?_
  refine zcons (s_goto hx hb 9 dX9_oneIf_5 (by decide)) ?_
  refine zcons (s_iconst hx hb 0 dX9_oneIf_8 (by decide)) ?_
  refine zcons (s_iret hx hb hr hK hlk dX9_oneIf_9) ?_
  exact znil
noncomputable def tX1_countOpen : List (Nat × AI) := [(0, a_push 1 (.inl 0)), (1, a_istore 2 1), (2, a_push 3 (.inl 0)), (3, a_istore 4 2), (4, a_iload 5 2), (5, a_aload 6 0), (6, a_getI 9 1 1), (9, a_c_ge 12 42), (12, a_iload 13 2), (13, a_aload 14 0), (14, a_getR 17 1 (fun _ => 6)), (17, a_len 18), (18, a_c_ge 21 42), (21, a_iload 22 1), (22, a_aload 23 0), (23, a_getR 26 1 (fun _ => 6)), (26, a_iload 27 2), (27, a_aald 28), (28, a_callV 31 0 5 mX5_isOpen), (31, a_callS 34 1 mX9_oneIf), (34, a_bin 35 (fun x y => x + y)), (35, a_istore 36 1), (36, a_iinc 39 2 1), (39, a_goto 4), (42, a_iload 43 1), (43, a_iret)]
noncomputable def mX1_countOpen : List AV → MM → Option AR := zsem tX1_countOpen 3 1
def wX1_countOpen : List Cond := .code yX1_countOpen cX1_countOpen 3 (some .int) :: lw_g
def rX1_countOpen : Room := { frames := 1, cells := 0, slots := 0, locals := 20 }
set_option maxHeartbeats 4000000 in
set_option maxRecDepth 100000 in
theorem kX1_countOpen (l : Launch) (X : XC) : zM l X yX1_countOpen wX1_countOpen rX1_countOpen mX1_countOpen := by
  refine zMet tX1_countOpen 1 (by decide) rfl (by decide) ?_
  intro p e s m args below meth c res hC
  obtain ⟨hx, hb, hr, hts0, hown, hml, hlk, hK⟩ := hC
  have hts : ∀ w ∈ lw_g, w.before args s = true := fun w h => hts0 w (List.mem_cons_of_mem _ h)
  have hro : 0 ≤ (headSpec wX1_countOpen rX1_countOpen).room.cells ∧ 0 ≤ (headSpec wX1_countOpen rX1_countOpen).room.slots := ⟨Nat.zero_le _, Nat.zero_le _⟩
  refine zcons (s_iconst hx hb 0 dX1_countOpen_0 (by decide)) ?_
  refine zcons (s_istore_n hx hb 1 dX1_countOpen_1 rfl) ?_
  refine zcons (s_iconst hx hb 0 dX1_countOpen_2 (by decide)) ?_
  refine zcons (s_istore_n hx hb 2 dX1_countOpen_3 rfl) ?_
  refine zcons (s_iload_n hx hb 2 dX1_countOpen_4 rfl) ?_
  refine zcons (s_aload_n hx hb 0 dX1_countOpen_5 rfl) ?_
  refine zcons (s_getI hx hb hts hown hK zcX1 hinX1 1 (by decide) w141 rfl (zptk (by decide) (by decide +kernel)) dX1_countOpen_6) ?_
  refine zcons (s_c_ge hx hb 42 dX1_countOpen_9 (by decide)) ?_
  refine zcons (s_iload_n hx hb 2 dX1_countOpen_12 rfl) ?_
  refine zcons (s_aload_n hx hb 0 dX1_countOpen_13 rfl) ?_
  refine zcons (s_getR hx hb hts hown hK zcX1 hinX1 0 (by decide) w140 rfl (fun _ => 6) (zptf (by decide) (by decide +kernel)) dX1_countOpen_14) ?_
  refine zcons (s_len hx hb hK dX1_countOpen_17) ?_
  refine zcons (s_c_ge hx hb 42 dX1_countOpen_18 (by decide)) ?_
  refine zcons (s_iload_n hx hb 1 dX1_countOpen_21 rfl) ?_
  refine zcons (s_aload_n hx hb 0 dX1_countOpen_22 rfl) ?_
  refine zcons (s_getR hx hb hts hown hK zcX1 hinX1 0 (by decide) w140 rfl (fun _ => 6) (zptf (by decide) (by decide +kernel)) dX1_countOpen_23) ?_
  refine zcons (s_iload_n hx hb 2 dX1_countOpen_26 rfl) ?_
  refine zcons (s_aald hx hb hK dX1_countOpen_27) ?_
  refine zcons (s_callV (hZ := fun _ h => h) hx hb hts hml hown hK hro zcX5 (kX5_isOpen l X) (zgoodV w607 w608 w609 w46 w610) rfl rfl rfl (by decide +kernel) ⟨Nat.le_of_ble_eq_true rfl, Nat.le_of_ble_eq_true rfl⟩ dX1_countOpen_28) ?_
  refine zcons (s_callSN (hZ := fun _ h => h) hx hb hts hml hown hK hro (kX9_oneIf l X) (zgoodC w670) rfl rfl rfl hK.2.2.2.2.1 w44 w669 (by decide +kernel) ⟨Nat.le_of_ble_eq_true rfl, Nat.le_of_ble_eq_true rfl⟩ dX1_countOpen_31) ?_
  refine zcons (s_iadd hx hb dX1_countOpen_34) ?_
  refine zcons (s_istore_n hx hb 1 dX1_countOpen_35 rfl) ?_
  refine zcons (s_iinc hx hb 1 dX1_countOpen_36 (by decide)) ?_
  refine zcons (s_goto hx hb 4 dX1_countOpen_39 (by decide)) ?_
  refine zcons (s_iload_n hx hb 1 dX1_countOpen_42 rfl) ?_
  refine zcons (s_iret hx hb hr hK hlk dX1_countOpen_43) ?_
  exact znil
noncomputable def tX5_isUnheard : List (Nat × AI) := [(0, a_aload 1 0), (1, a_getI 4 5 8), (4, a_if_eq 7 25), (7, a_aload 8 0), (8, a_getI 11 5 9), (11, a_if_eq 14 25), (14, a_aload 15 0), (15, a_getI 18 5 11), (18, a_if_ne 21 25), (21, a_push 22 (.inl 1)), (22, a_goto 26), (25, a_push 26 (.inl 0)), (26, a_zret)]
noncomputable def mX5_isUnheard : List AV → MM → Option AR := zsem tX5_isUnheard 1 1
def wX5_isUnheard : List Cond := .code yX5_isUnheard cX5_isUnheard 1 (some .boolean) :: lw_g
def rX5_isUnheard : Room := { frames := 0, cells := 0, slots := 0, locals := 0 }
set_option maxHeartbeats 4000000 in
set_option maxRecDepth 100000 in
theorem kX5_isUnheard (l : Launch) (X : XC) : zM l X yX5_isUnheard wX5_isUnheard rX5_isUnheard mX5_isUnheard := by
  refine zMet tX5_isUnheard 1 (by decide) rfl (by decide) ?_
  intro p e s m args below meth c res hC
  obtain ⟨hx, hb, hr, hts0, hown, hml, hlk, hK⟩ := hC
  have hts : ∀ w ∈ lw_g, w.before args s = true := fun w h => hts0 w (List.mem_cons_of_mem _ h)
  have hro : 0 ≤ (headSpec wX5_isUnheard rX5_isUnheard).room.cells ∧ 0 ≤ (headSpec wX5_isUnheard rX5_isUnheard).room.slots := ⟨Nat.zero_le _, Nat.zero_le _⟩
  refine zcons (s_aload_n hx hb 0 dX5_isUnheard_0 rfl) ?_
  refine zcons (s_getI hx hb hts hown hK zcX5 hinX5 8 (by decide) w96 rfl (zptk (by decide) (by decide +kernel)) dX5_isUnheard_1) ?_
  refine zcons (s_if_eq hx hb 25 dX5_isUnheard_4 (by decide)) ?_
  refine zcons (s_aload_n hx hb 0 dX5_isUnheard_7 rfl) ?_
  refine zcons (s_getI hx hb hts hown hK zcX5 hinX5 9 (by decide) w100 rfl (zptk (by decide) (by decide +kernel)) dX5_isUnheard_8) ?_
  refine zcons (s_if_eq hx hb 25 dX5_isUnheard_11 (by decide)) ?_
  refine zcons (s_aload_n hx hb 0 dX5_isUnheard_14 rfl) ?_
  refine zcons (s_getI hx hb hts hown hK zcX5 hinX5 11 (by decide) w106 rfl (zptk (by decide) (by decide +kernel)) dX5_isUnheard_15) ?_
  refine zcons (s_if_ne hx hb 25 dX5_isUnheard_18 (by decide)) ?_
  refine zcons (s_iconst hx hb 1 dX5_isUnheard_21 (by decide)) ?_
  refine zcons (s_goto hx hb 26 dX5_isUnheard_22 (by decide)) ?_
  refine zcons (s_iconst hx hb 0 dX5_isUnheard_25 (by decide)) ?_
  refine zcons (s_zret hx hb hr hK hlk dX5_isUnheard_26) ?_
  exact znil
noncomputable def tX1_countUnheard : List (Nat × AI) := [(0, a_push 1 (.inl 0)), (1, a_istore 2 1), (2, a_push 3 (.inl 0)), (3, a_istore 4 2), (4, a_iload 5 2), (5, a_aload 6 0), (6, a_getI 9 1 1), (9, a_c_ge 12 42), (12, a_iload 13 2), (13, a_aload 14 0), (14, a_getR 17 1 (fun _ => 6)), (17, a_len 18), (18, a_c_ge 21 42), (21, a_iload 22 1), (22, a_aload 23 0), (23, a_getR 26 1 (fun _ => 6)), (26, a_iload 27 2), (27, a_aald 28), (28, a_callV 31 0 5 mX5_isUnheard), (31, a_callS 34 1 mX9_oneIf), (34, a_bin 35 (fun x y => x + y)), (35, a_istore 36 1), (36, a_iinc 39 2 1), (39, a_goto 4), (42, a_iload 43 1), (43, a_iret)]
noncomputable def mX1_countUnheard : List AV → MM → Option AR := zsem tX1_countUnheard 3 1
def wX1_countUnheard : List Cond := .code yX1_countUnheard cX1_countUnheard 3 (some .int) :: lw_g
def rX1_countUnheard : Room := { frames := 1, cells := 0, slots := 0, locals := 20 }
set_option maxHeartbeats 4000000 in
set_option maxRecDepth 100000 in
theorem kX1_countUnheard (l : Launch) (X : XC) : zM l X yX1_countUnheard wX1_countUnheard rX1_countUnheard mX1_countUnheard := by
  refine zMet tX1_countUnheard 1 (by decide) rfl (by decide) ?_
  intro p e s m args below meth c res hC
  obtain ⟨hx, hb, hr, hts0, hown, hml, hlk, hK⟩ := hC
  have hts : ∀ w ∈ lw_g, w.before args s = true := fun w h => hts0 w (List.mem_cons_of_mem _ h)
  have hro : 0 ≤ (headSpec wX1_countUnheard rX1_countUnheard).room.cells ∧ 0 ≤ (headSpec wX1_countUnheard rX1_countUnheard).room.slots := ⟨Nat.zero_le _, Nat.zero_le _⟩
  refine zcons (s_iconst hx hb 0 dX1_countUnheard_0 (by decide)) ?_
  refine zcons (s_istore_n hx hb 1 dX1_countUnheard_1 rfl) ?_
  refine zcons (s_iconst hx hb 0 dX1_countUnheard_2 (by decide)) ?_
  refine zcons (s_istore_n hx hb 2 dX1_countUnheard_3 rfl) ?_
  refine zcons (s_iload_n hx hb 2 dX1_countUnheard_4 rfl) ?_
  refine zcons (s_aload_n hx hb 0 dX1_countUnheard_5 rfl) ?_
  refine zcons (s_getI hx hb hts hown hK zcX1 hinX1 1 (by decide) w141 rfl (zptk (by decide) (by decide +kernel)) dX1_countUnheard_6) ?_
  refine zcons (s_c_ge hx hb 42 dX1_countUnheard_9 (by decide)) ?_
  refine zcons (s_iload_n hx hb 2 dX1_countUnheard_12 rfl) ?_
  refine zcons (s_aload_n hx hb 0 dX1_countUnheard_13 rfl) ?_
  refine zcons (s_getR hx hb hts hown hK zcX1 hinX1 0 (by decide) w140 rfl (fun _ => 6) (zptf (by decide) (by decide +kernel)) dX1_countUnheard_14) ?_
  refine zcons (s_len hx hb hK dX1_countUnheard_17) ?_
  refine zcons (s_c_ge hx hb 42 dX1_countUnheard_18 (by decide)) ?_
  refine zcons (s_iload_n hx hb 1 dX1_countUnheard_21 rfl) ?_
  refine zcons (s_aload_n hx hb 0 dX1_countUnheard_22 rfl) ?_
  refine zcons (s_getR hx hb hts hown hK zcX1 hinX1 0 (by decide) w140 rfl (fun _ => 6) (zptf (by decide) (by decide +kernel)) dX1_countUnheard_23) ?_
  refine zcons (s_iload_n hx hb 2 dX1_countUnheard_26 rfl) ?_
  refine zcons (s_aald hx hb hK dX1_countUnheard_27) ?_
  refine zcons (s_callV (hZ := fun _ h => h) hx hb hts hml hown hK hro zcX5 (kX5_isUnheard l X) (zgoodV w676 w677 w678 w46 w679) rfl rfl rfl (by decide +kernel) ⟨Nat.le_of_ble_eq_true rfl, Nat.le_of_ble_eq_true rfl⟩ dX1_countUnheard_28) ?_
  refine zcons (s_callSN (hZ := fun _ h => h) hx hb hts hml hown hK hro (kX9_oneIf l X) (zgoodC w670) rfl rfl rfl hK.2.2.2.2.1 w44 w669 (by decide +kernel) ⟨Nat.le_of_ble_eq_true rfl, Nat.le_of_ble_eq_true rfl⟩ dX1_countUnheard_31) ?_
  refine zcons (s_iadd hx hb dX1_countUnheard_34) ?_
  refine zcons (s_istore_n hx hb 1 dX1_countUnheard_35 rfl) ?_
  refine zcons (s_iinc hx hb 1 dX1_countUnheard_36 (by decide)) ?_
  refine zcons (s_goto hx hb 4 dX1_countUnheard_39 (by decide)) ?_
  refine zcons (s_iload_n hx hb 1 dX1_countUnheard_42 rfl) ?_
  refine zcons (s_iret hx hb hr hK hlk dX1_countUnheard_43) ?_
  exact znil
noncomputable def tX1_hearAllBack : List (Nat × AI) := [(0, a_aload 1 0), (1, a_callV 4 0 1 mX1_countUnheard), (4, a_istore 5 1), (5, a_push 6 (.inl 0)), (6, a_istore 7 2), (7, a_iload 8 2), (8, a_aload 9 0), (9, a_getI 12 1 1), (12, a_c_ge 15 48), (15, a_iload 16 2), (16, a_aload 17 0), (17, a_getR 20 1 (fun _ => 6)), (20, a_len 21), (21, a_c_ge 24 48), (24, a_aload 25 0), (25, a_getR 28 1 (fun _ => 6)), (28, a_iload 29 2), (29, a_aald 30), (30, a_aload 31 0), (31, a_getR 34 1 (fun _ => 6)), (34, a_iload 35 2), (35, a_aald 36), (36, a_getI 39 5 9), (39, a_putZ 42 5 11), (42, a_iinc 45 2 1), (45, a_goto 7), (48, a_iload 49 1), (49, a_iret)]
noncomputable def mX1_hearAllBack : List AV → MM → Option AR := zsem tX1_hearAllBack 3 1
def wX1_hearAllBack : List Cond := .code yX1_hearAllBack cX1_hearAllBack 3 (some .int) :: lw_g
def rX1_hearAllBack : Room := { frames := 2, cells := 0, slots := 0, locals := 42 }
set_option maxHeartbeats 4000000 in
set_option maxRecDepth 100000 in
theorem kX1_hearAllBack (l : Launch) (X : XC) : zM l X yX1_hearAllBack wX1_hearAllBack rX1_hearAllBack mX1_hearAllBack := by
  refine zMet tX1_hearAllBack 1 (by decide) rfl (by decide) ?_
  intro p e s m args below meth c res hC
  obtain ⟨hx, hb, hr, hts0, hown, hml, hlk, hK⟩ := hC
  have hts : ∀ w ∈ lw_g, w.before args s = true := fun w h => hts0 w (List.mem_cons_of_mem _ h)
  have hro : 0 ≤ (headSpec wX1_hearAllBack rX1_hearAllBack).room.cells ∧ 0 ≤ (headSpec wX1_hearAllBack rX1_hearAllBack).room.slots := ⟨Nat.zero_le _, Nat.zero_le _⟩
  refine zcons (s_aload_n hx hb 0 dX1_hearAllBack_0 rfl) ?_
  refine zcons (s_callV (hZ := fun _ h => h) hx hb hts hml hown hK hro zcX1 (kX1_countUnheard l X) (zgoodV w692 w673 w674 w45 w675) rfl rfl rfl (by decide +kernel) ⟨Nat.le_of_ble_eq_true rfl, Nat.le_of_ble_eq_true rfl⟩ dX1_hearAllBack_1) ?_
  refine zcons (s_istore_n hx hb 1 dX1_hearAllBack_4 rfl) ?_
  refine zcons (s_iconst hx hb 0 dX1_hearAllBack_5 (by decide)) ?_
  refine zcons (s_istore_n hx hb 2 dX1_hearAllBack_6 rfl) ?_
  refine zcons (s_iload_n hx hb 2 dX1_hearAllBack_7 rfl) ?_
  refine zcons (s_aload_n hx hb 0 dX1_hearAllBack_8 rfl) ?_
  refine zcons (s_getI hx hb hts hown hK zcX1 hinX1 1 (by decide) w141 rfl (zptk (by decide) (by decide +kernel)) dX1_hearAllBack_9) ?_
  refine zcons (s_c_ge hx hb 48 dX1_hearAllBack_12 (by decide)) ?_
  refine zcons (s_iload_n hx hb 2 dX1_hearAllBack_15 rfl) ?_
  refine zcons (s_aload_n hx hb 0 dX1_hearAllBack_16 rfl) ?_
  refine zcons (s_getR hx hb hts hown hK zcX1 hinX1 0 (by decide) w140 rfl (fun _ => 6) (zptf (by decide) (by decide +kernel)) dX1_hearAllBack_17) ?_
  refine zcons (s_len hx hb hK dX1_hearAllBack_20) ?_
  refine zcons (s_c_ge hx hb 48 dX1_hearAllBack_21 (by decide)) ?_
  refine zcons (s_aload_n hx hb 0 dX1_hearAllBack_24 rfl) ?_
  refine zcons (s_getR hx hb hts hown hK zcX1 hinX1 0 (by decide) w140 rfl (fun _ => 6) (zptf (by decide) (by decide +kernel)) dX1_hearAllBack_25) ?_
  refine zcons (s_iload_n hx hb 2 dX1_hearAllBack_28 rfl) ?_
  refine zcons (s_aald hx hb hK dX1_hearAllBack_29) ?_
  refine zcons (s_aload_n hx hb 0 dX1_hearAllBack_30 rfl) ?_
  refine zcons (s_getR hx hb hts hown hK zcX1 hinX1 0 (by decide) w140 rfl (fun _ => 6) (zptf (by decide) (by decide +kernel)) dX1_hearAllBack_31) ?_
  refine zcons (s_iload_n hx hb 2 dX1_hearAllBack_34 rfl) ?_
  refine zcons (s_aald hx hb hK dX1_hearAllBack_35) ?_
  refine zcons (s_getI hx hb hts hown hK zcX5 hinX5 9 (by decide) w101 rfl (zptk (by decide) (by decide +kernel)) dX1_hearAllBack_36) ?_
  refine zcons (s_putZ (hZ := fun _ h => h) hx hb hts hown hK zcX5 hinX5 tyX5 tyX5_ok nmX5 11 (by decide) w107 rfl rfl (zptk (by decide) (by decide +kernel)) (by decide +kernel) dX1_hearAllBack_39) ?_
  refine zcons (s_iinc hx hb 1 dX1_hearAllBack_42 (by decide)) ?_
  refine zcons (s_goto hx hb 7 dX1_hearAllBack_45 (by decide)) ?_
  refine zcons (s_iload_n hx hb 1 dX1_hearAllBack_48 rfl) ?_
  refine zcons (s_iret hx hb hr hK hlk dX1_hearAllBack_49) ?_
  exact znil
noncomputable def tX1_firstToCome : List (Nat × AI) := [(0, a_iload 1 1), (1, a_push 2 (.inl 0)), (2, a_max 5), (5, a_istore 6 2), (6, a_iload 7 2), (7, a_aload 8 0), (8, a_getI 11 1 1), (11, a_c_ge 14 55), (14, a_iload 15 2), (15, a_aload 16 0), (16, a_getR 19 1 (fun _ => 6)), (19, a_len 20), (20, a_c_ge 23 55), (23, a_aload 24 0), (24, a_getR 27 1 (fun _ => 6)), (27, a_iload 28 2), (28, a_aald 29), (29, a_callV 32 0 5 mX5_isOpen), (32, a_if_eq 35 49), (35, a_aload 36 0), (36, a_getR 39 1 (fun _ => 6)), (39, a_iload 40 2), (40, a_aald 41), (41, a_getI 44 5 12), (44, a_if_ne 47 49), (47, a_iload 48 2), (48, a_iret), (49, a_iinc 52 2 1), (52, a_goto 6), (55, a_push 56 (.inl (-1))), (56, a_iret)]
noncomputable def mX1_firstToCome : List AV → MM → Option AR := zsem tX1_firstToCome 3 2
def wX1_firstToCome : List Cond := .code yX1_firstToCome cX1_firstToCome 3 (some .int) :: lw_g
def rX1_firstToCome : Room := { frames := 1, cells := 0, slots := 0, locals := 21 }
set_option maxHeartbeats 4000000 in
set_option maxRecDepth 100000 in
theorem kX1_firstToCome (l : Launch) (X : XC) : zM l X yX1_firstToCome wX1_firstToCome rX1_firstToCome mX1_firstToCome := by
  refine zMet tX1_firstToCome 2 (by decide) rfl (by decide) ?_
  intro p e s m args below meth c res hC
  obtain ⟨hx, hb, hr, hts0, hown, hml, hlk, hK⟩ := hC
  have hts : ∀ w ∈ lw_g, w.before args s = true := fun w h => hts0 w (List.mem_cons_of_mem _ h)
  have hro : 0 ≤ (headSpec wX1_firstToCome rX1_firstToCome).room.cells ∧ 0 ≤ (headSpec wX1_firstToCome rX1_firstToCome).room.slots := ⟨Nat.zero_le _, Nat.zero_le _⟩
  refine zcons (s_iload_n hx hb 1 dX1_firstToCome_0 rfl) ?_
  refine zcons (s_iconst hx hb 0 dX1_firstToCome_1 (by decide)) ?_
  refine zcons (s_max hx hb hts hml hown hro w604 w605 w55 w606 ⟨Nat.le_of_ble_eq_true rfl, Nat.le_of_ble_eq_true rfl⟩ dX1_firstToCome_2) ?_
  refine zcons (s_istore_n hx hb 2 dX1_firstToCome_5 rfl) ?_
  refine zcons (s_iload_n hx hb 2 dX1_firstToCome_6 rfl) ?_
  refine zcons (s_aload_n hx hb 0 dX1_firstToCome_7 rfl) ?_
  refine zcons (s_getI hx hb hts hown hK zcX1 hinX1 1 (by decide) w141 rfl (zptk (by decide) (by decide +kernel)) dX1_firstToCome_8) ?_
  refine zcons (s_c_ge hx hb 55 dX1_firstToCome_11 (by decide)) ?_
  refine zcons (s_iload_n hx hb 2 dX1_firstToCome_14 rfl) ?_
  refine zcons (s_aload_n hx hb 0 dX1_firstToCome_15 rfl) ?_
  refine zcons (s_getR hx hb hts hown hK zcX1 hinX1 0 (by decide) w140 rfl (fun _ => 6) (zptf (by decide) (by decide +kernel)) dX1_firstToCome_16) ?_
  refine zcons (s_len hx hb hK dX1_firstToCome_19) ?_
  refine zcons (s_c_ge hx hb 55 dX1_firstToCome_20 (by decide)) ?_
  refine zcons (s_aload_n hx hb 0 dX1_firstToCome_23 rfl) ?_
  refine zcons (s_getR hx hb hts hown hK zcX1 hinX1 0 (by decide) w140 rfl (fun _ => 6) (zptf (by decide) (by decide +kernel)) dX1_firstToCome_24) ?_
  refine zcons (s_iload_n hx hb 2 dX1_firstToCome_27 rfl) ?_
  refine zcons (s_aald hx hb hK dX1_firstToCome_28) ?_
  refine zcons (s_callV (hZ := fun _ h => h) hx hb hts hml hown hK hro zcX5 (kX5_isOpen l X) (zgoodV w607 w608 w609 w46 w610) rfl rfl rfl (by decide +kernel) ⟨Nat.le_of_ble_eq_true rfl, Nat.le_of_ble_eq_true rfl⟩ dX1_firstToCome_29) ?_
  refine zcons (s_if_eq hx hb 49 dX1_firstToCome_32 (by decide)) ?_
  refine zcons (s_aload_n hx hb 0 dX1_firstToCome_35 rfl) ?_
  refine zcons (s_getR hx hb hts hown hK zcX1 hinX1 0 (by decide) w140 rfl (fun _ => 6) (zptf (by decide) (by decide +kernel)) dX1_firstToCome_36) ?_
  refine zcons (s_iload_n hx hb 2 dX1_firstToCome_39 rfl) ?_
  refine zcons (s_aald hx hb hK dX1_firstToCome_40) ?_
  refine zcons (s_getI hx hb hts hown hK zcX5 hinX5 12 (by decide) w111 rfl (zptk (by decide) (by decide +kernel)) dX1_firstToCome_41) ?_
  refine zcons (s_if_ne hx hb 49 dX1_firstToCome_44 (by decide)) ?_
  refine zcons (s_iload_n hx hb 2 dX1_firstToCome_47 rfl) ?_
  refine zcons (s_iret hx hb hr hK hlk dX1_firstToCome_48) ?_
  refine zcons (s_iinc hx hb 1 dX1_firstToCome_49 (by decide)) ?_
  refine zcons (s_goto hx hb 6 dX1_firstToCome_52 (by decide)) ?_
  refine zcons (s_iconst hx hb (-1) dX1_firstToCome_55 (by decide)) ?_
  refine zcons (s_iret hx hb hr hK hlk dX1_firstToCome_56) ?_
  exact znil
noncomputable def tX1_nextBehind : List (Nat × AI) := [(0, a_aload 1 0), (1, a_iload 2 1), (2, a_push 3 (.inl 1)), (3, a_bin 4 (fun x y => x + y)), (4, a_callV 7 1 1 mX1_firstToCome), (7, a_istore 8 2), (8, a_iload 9 2), (9, a_push 10 (.inl (-1))), (10, a_c_ne 13 21), (13, a_aload 14 0), (14, a_push 15 (.inl 0)), (15, a_callV 18 1 1 mX1_firstToCome), (18, a_goto 22), (21, a_iload 22 2), (22, a_iret)]
noncomputable def mX1_nextBehind : List AV → MM → Option AR := zsem tX1_nextBehind 3 2
def wX1_nextBehind : List Cond := .code yX1_nextBehind cX1_nextBehind 3 (some .int) :: lw_g
def rX1_nextBehind : Room := { frames := 2, cells := 0, slots := 0, locals := 43 }
set_option maxHeartbeats 4000000 in
set_option maxRecDepth 100000 in
theorem kX1_nextBehind (l : Launch) (X : XC) : zM l X yX1_nextBehind wX1_nextBehind rX1_nextBehind mX1_nextBehind := by
  refine zMet tX1_nextBehind 2 (by decide) rfl (by decide) ?_
  intro p e s m args below meth c res hC
  obtain ⟨hx, hb, hr, hts0, hown, hml, hlk, hK⟩ := hC
  have hts : ∀ w ∈ lw_g, w.before args s = true := fun w h => hts0 w (List.mem_cons_of_mem _ h)
  have hro : 0 ≤ (headSpec wX1_nextBehind rX1_nextBehind).room.cells ∧ 0 ≤ (headSpec wX1_nextBehind rX1_nextBehind).room.slots := ⟨Nat.zero_le _, Nat.zero_le _⟩
  refine zcons (s_aload_n hx hb 0 dX1_nextBehind_0 rfl) ?_
  refine zcons (s_iload_n hx hb 1 dX1_nextBehind_1 rfl) ?_
  refine zcons (s_iconst hx hb 1 dX1_nextBehind_2 (by decide)) ?_
  refine zcons (s_iadd hx hb dX1_nextBehind_3) ?_
  refine zcons (s_callV (hZ := fun _ h => h) hx hb hts hml hown hK hro zcX1 (kX1_firstToCome l X) (zgoodV w600 w602 w15 w45 w603) rfl rfl rfl (by decide +kernel) ⟨Nat.le_of_ble_eq_true rfl, Nat.le_of_ble_eq_true rfl⟩ dX1_nextBehind_4) ?_
  refine zcons (s_istore_n hx hb 2 dX1_nextBehind_7 rfl) ?_
  refine zcons (s_iload_n hx hb 2 dX1_nextBehind_8 rfl) ?_
  refine zcons (s_iconst hx hb (-1) dX1_nextBehind_9 (by decide)) ?_
  refine zcons (s_c_ne hx hb 21 dX1_nextBehind_10 (by decide)) ?_
  refine zcons (s_aload_n hx hb 0 dX1_nextBehind_13 rfl) ?_
  refine zcons (s_iconst hx hb 0 dX1_nextBehind_14 (by decide)) ?_
  refine zcons (s_callV (hZ := fun _ h => h) hx hb hts hml hown hK hro zcX1 (kX1_firstToCome l X) (zgoodV w600 w602 w15 w45 w603) rfl rfl rfl (by decide +kernel) ⟨Nat.le_of_ble_eq_true rfl, Nat.le_of_ble_eq_true rfl⟩ dX1_nextBehind_15) ?_
  refine zcons (s_goto hx hb 22 dX1_nextBehind_18 (by decide)) ?_
  refine zcons (s_iload_n hx hb 2 dX1_nextBehind_21 rfl) ?_
  refine zcons (s_iret hx hb hr hK hlk dX1_nextBehind_22) ?_
  exact znil
noncomputable def tX1_keepValue : List (Nat × AI) := [(0, a_aload 1 0), (1, a_iload 2 1), (2, a_callV 5 1 1 mX1_slotAt), (5, a_astore 7 4), (7, a_aload 9 4), (9, a_nonnull 12 14), (12, a_push 13 (.inl 0)), (13, a_iret), (14, a_aload 16 4), (16, a_push 17 (.inl 1)), (17, a_putZ 20 5 9), (20, a_aload 22 4), (22, a_iload 23 2), (23, a_put 26 5 10), (26, a_aload 28 4), (28, a_iload 29 3), (29, a_putZ 32 5 11), (32, a_aload 33 0), (33, a_callV 36 0 1 mX1_reckonNeeds), (36, a_iret)]
noncomputable def mX1_keepValue : List AV → MM → Option AR := zsem tX1_keepValue 5 4
def wX1_keepValue : List Cond := .code yX1_keepValue cX1_keepValue 5 (some .int) :: lw_g
def rX1_keepValue : Room := { frames := 2, cells := 0, slots := 0, locals := 44 }
set_option maxHeartbeats 4000000 in
set_option maxRecDepth 100000 in
theorem kX1_keepValue (l : Launch) (X : XC) : zM l X yX1_keepValue wX1_keepValue rX1_keepValue mX1_keepValue := by
  refine zMet tX1_keepValue 4 (by decide) rfl (by decide) ?_
  intro p e s m args below meth c res hC
  obtain ⟨hx, hb, hr, hts0, hown, hml, hlk, hK⟩ := hC
  have hts : ∀ w ∈ lw_g, w.before args s = true := fun w h => hts0 w (List.mem_cons_of_mem _ h)
  have hro : 0 ≤ (headSpec wX1_keepValue rX1_keepValue).room.cells ∧ 0 ≤ (headSpec wX1_keepValue rX1_keepValue).room.slots := ⟨Nat.zero_le _, Nat.zero_le _⟩
  refine zcons (s_aload_n hx hb 0 dX1_keepValue_0 rfl) ?_
  refine zcons (s_iload_n hx hb 1 dX1_keepValue_1 rfl) ?_
  refine zcons (s_callV (hZ := fun _ h => h) hx hb hts hml hown hK hro zcX1 (kX1_slotAt l X) (zgoodV w353 w354 w355 w45 w356) rfl rfl rfl (by decide +kernel) ⟨Nat.le_of_ble_eq_true rfl, Nat.le_of_ble_eq_true rfl⟩ dX1_keepValue_2) ?_
  refine zcons (s_astore hx hb dX1_keepValue_5) ?_
  refine zcons (s_aload hx hb dX1_keepValue_7) ?_
  refine zcons (s_nonnull hx hb 14 dX1_keepValue_9 (by decide)) ?_
  refine zcons (s_iconst hx hb 0 dX1_keepValue_12 (by decide)) ?_
  refine zcons (s_iret hx hb hr hK hlk dX1_keepValue_13) ?_
  refine zcons (s_aload hx hb dX1_keepValue_14) ?_
  refine zcons (s_iconst hx hb 1 dX1_keepValue_16 (by decide)) ?_
  refine zcons (s_putZ (hZ := fun _ h => h) hx hb hts hown hK zcX5 hinX5 tyX5 tyX5_ok nmX5 9 (by decide) w101 rfl rfl (zptk (by decide) (by decide +kernel)) (by decide +kernel) dX1_keepValue_17) ?_
  refine zcons (s_aload hx hb dX1_keepValue_20) ?_
  refine zcons (s_iload_n hx hb 2 dX1_keepValue_22 rfl) ?_
  refine zcons (s_put (hZ := fun _ h => h) hx hb hts hown hK zcX5 hinX5 tyX5 tyX5_ok nmX5 10 (by decide) w105 rfl rfl (zptk (by decide) (by decide +kernel)) (by decide +kernel) dX1_keepValue_23) ?_
  refine zcons (s_aload hx hb dX1_keepValue_26) ?_
  refine zcons (s_iload_n hx hb 3 dX1_keepValue_28 rfl) ?_
  refine zcons (s_putZ (hZ := fun _ h => h) hx hb hts hown hK zcX5 hinX5 tyX5 tyX5_ok nmX5 11 (by decide) w107 rfl rfl (zptk (by decide) (by decide +kernel)) (by decide +kernel) dX1_keepValue_29) ?_
  refine zcons (s_aload_n hx hb 0 dX1_keepValue_32 rfl) ?_
  refine zcons (s_callV (hZ := fun _ h => h) hx hb hts hml hown hK hro zcX1 (kX1_reckonNeeds l X) (zgoodV w357 w359 w1 w45 w360) rfl rfl rfl (by decide +kernel) ⟨Nat.le_of_ble_eq_true rfl, Nat.le_of_ble_eq_true rfl⟩ dX1_keepValue_33) ?_
  refine zcons (s_iret hx hb hr hK hlk dX1_keepValue_36) ?_
  exact znil
noncomputable def tX2_clear : List (Nat × AI) := [(0, a_aload 1 0), (1, a_push 2 (.inl 0)), (2, a_put 5 2 3), (5, a_vret)]
noncomputable def mX2_clear : List AV → MM → Option AR := zsem tX2_clear 1 1
def wX2_clear : List Cond := .code yX2_clear cX2_clear 1 none :: lw_g
def rX2_clear : Room := { frames := 0, cells := 0, slots := 0, locals := 0 }
set_option maxHeartbeats 4000000 in
set_option maxRecDepth 100000 in
theorem kX2_clear (l : Launch) (X : XC) : zM l X yX2_clear wX2_clear rX2_clear mX2_clear := by
  refine zMet tX2_clear 1 (by decide) rfl (by decide) ?_
  intro p e s m args below meth c res hC
  obtain ⟨hx, hb, hr, hts0, hown, hml, hlk, hK⟩ := hC
  have hts : ∀ w ∈ lw_g, w.before args s = true := fun w h => hts0 w (List.mem_cons_of_mem _ h)
  have hro : 0 ≤ (headSpec wX2_clear rX2_clear).room.cells ∧ 0 ≤ (headSpec wX2_clear rX2_clear).room.slots := ⟨Nat.zero_le _, Nat.zero_le _⟩
  refine zcons (s_aload_n hx hb 0 dX2_clear_0 rfl) ?_
  refine zcons (s_iconst hx hb 0 dX2_clear_1 (by decide)) ?_
  refine zcons (s_put (hZ := fun _ h => h) hx hb hts hown hK zcX2 hinX2 tyX2 tyX2_ok nmX2 3 (by decide) w157 rfl rfl (zptk (by decide) (by decide +kernel)) (by decide +kernel) dX2_clear_2) ?_
  refine zcons (s_vret hx hb hr hK hlk dX2_clear_5) ?_
  exact znil
noncomputable def tX2_addPlace : List (Nat × AI) := [(0, a_aload 1 0), (1, a_getI 4 2 3), (4, a_aload 5 0), (5, a_getR 8 2 (fun _ => 9)), (8, a_len 9), (9, a_c_lt 12 14), (12, a_push 13 (.inl (-1))), (13, a_iret), (14, a_aload 15 0), (15, a_getR 18 2 (fun _ => 9)), (18, a_aload 19 0), (19, a_getI 22 2 3), (22, a_push 23 (.inl 0)), (23, a_ast 24), (24, a_aload 25 0), (25, a_dup 26), (26, a_getI 29 2 3), (29, a_push 30 (.inl 1)), (30, a_bin 31 (fun x y => x + y)), (31, a_put 34 2 3), (34, a_aload 35 0), (35, a_getI 38 2 3), (38, a_iret)]
noncomputable def mX2_addPlace : List AV → MM → Option AR := zsem tX2_addPlace 1 1
def wX2_addPlace : List Cond := .code yX2_addPlace cX2_addPlace 1 (some .int) :: lw_g
def rX2_addPlace : Room := { frames := 0, cells := 0, slots := 0, locals := 0 }
set_option maxHeartbeats 4000000 in
set_option maxRecDepth 100000 in
theorem kX2_addPlace (l : Launch) (X : XC) : zM l X yX2_addPlace wX2_addPlace rX2_addPlace mX2_addPlace := by
  refine zMet tX2_addPlace 1 (by decide) rfl (by decide) ?_
  intro p e s m args below meth c res hC
  obtain ⟨hx, hb, hr, hts0, hown, hml, hlk, hK⟩ := hC
  have hts : ∀ w ∈ lw_g, w.before args s = true := fun w h => hts0 w (List.mem_cons_of_mem _ h)
  have hro : 0 ≤ (headSpec wX2_addPlace rX2_addPlace).room.cells ∧ 0 ≤ (headSpec wX2_addPlace rX2_addPlace).room.slots := ⟨Nat.zero_le _, Nat.zero_le _⟩
  refine zcons (s_aload_n hx hb 0 dX2_addPlace_0 rfl) ?_
  refine zcons (s_getI hx hb hts hown hK zcX2 hinX2 3 (by decide) w157 rfl (zptk (by decide) (by decide +kernel)) dX2_addPlace_1) ?_
  refine zcons (s_aload_n hx hb 0 dX2_addPlace_4 rfl) ?_
  refine zcons (s_getR hx hb hts hown hK zcX2 hinX2 2 (by decide) w156 rfl (fun _ => 9) (zptf (by decide) (by decide +kernel)) dX2_addPlace_5) ?_
  refine zcons (s_len hx hb hK dX2_addPlace_8) ?_
  refine zcons (s_c_lt hx hb 14 dX2_addPlace_9 (by decide)) ?_
  refine zcons (s_iconst hx hb (-1) dX2_addPlace_12 (by decide)) ?_
  refine zcons (s_iret hx hb hr hK hlk dX2_addPlace_13) ?_
  refine zcons (s_aload_n hx hb 0 dX2_addPlace_14 rfl) ?_
  refine zcons (s_getR hx hb hts hown hK zcX2 hinX2 2 (by decide) w156 rfl (fun _ => 9) (zptf (by decide) (by decide +kernel)) dX2_addPlace_15) ?_
  refine zcons (s_aload_n hx hb 0 dX2_addPlace_18 rfl) ?_
  refine zcons (s_getI hx hb hts hown hK zcX2 hinX2 3 (by decide) w157 rfl (zptk (by decide) (by decide +kernel)) dX2_addPlace_19) ?_
  refine zcons (s_iconst hx hb 0 dX2_addPlace_22 (by decide)) ?_
  refine zcons (s_iast (hZ := fun _ h => h) hx hb hK dX2_addPlace_23) ?_
  refine zcons (s_aload_n hx hb 0 dX2_addPlace_24 rfl) ?_
  refine zcons (s_dup hx hb dX2_addPlace_25) ?_
  refine zcons (s_getI hx hb hts hown hK zcX2 hinX2 3 (by decide) w157 rfl (zptk (by decide) (by decide +kernel)) dX2_addPlace_26) ?_
  refine zcons (s_iconst hx hb 1 dX2_addPlace_29 (by decide)) ?_
  refine zcons (s_iadd hx hb dX2_addPlace_30) ?_
  refine zcons (s_put (hZ := fun _ h => h) hx hb hts hown hK zcX2 hinX2 tyX2 tyX2_ok nmX2 3 (by decide) w157 rfl rfl (zptk (by decide) (by decide +kernel)) (by decide +kernel) dX2_addPlace_31) ?_
  refine zcons (s_aload_n hx hb 0 dX2_addPlace_34 rfl) ?_
  refine zcons (s_getI hx hb hts hown hK zcX2 hinX2 3 (by decide) w157 rfl (zptk (by decide) (by decide +kernel)) dX2_addPlace_35) ?_
  refine zcons (s_iret hx hb hr hK hlk dX2_addPlace_38) ?_
  exact znil
noncomputable def tX2_costOf : List (Nat × AI) := [(0, a_push 1 (.inl 0)), (1, a_istore 2 3), (2, a_iload 3 3), (3, a_aload 4 0), (4, a_iload 5 1), (5, a_callV 8 1 2 mX2_wordsIn), (8, a_c_ge 11 34), (11, a_aload 12 0), (12, a_iload 13 1), (13, a_iload 14 3), (14, a_callV 17 2 2 mX2_wordAt), (17, a_iload 18 2), (18, a_c_ne 21 28), (21, a_aload 22 0), (22, a_iload 23 1), (23, a_iload 24 3), (24, a_callV 27 2 2 mX2_costAt), (27, a_iret), (28, a_iinc 31 3 1), (31, a_goto 2), (34, a_push 35 (.inl (-1))), (35, a_iret)]
noncomputable def mX2_costOf : List AV → MM → Option AR := zsem tX2_costOf 4 3
def wX2_costOf : List Cond := .code yX2_costOf cX2_costOf 4 (some .int) :: lw_g
def rX2_costOf : Room := { frames := 2, cells := 0, slots := 0, locals := 44 }
set_option maxHeartbeats 4000000 in
set_option maxRecDepth 100000 in
theorem kX2_costOf (l : Launch) (X : XC) : zM l X yX2_costOf wX2_costOf rX2_costOf mX2_costOf := by
  refine zMet tX2_costOf 3 (by decide) rfl (by decide) ?_
  intro p e s m args below meth c res hC
  obtain ⟨hx, hb, hr, hts0, hown, hml, hlk, hK⟩ := hC
  have hts : ∀ w ∈ lw_g, w.before args s = true := fun w h => hts0 w (List.mem_cons_of_mem _ h)
  have hro : 0 ≤ (headSpec wX2_costOf rX2_costOf).room.cells ∧ 0 ≤ (headSpec wX2_costOf rX2_costOf).room.slots := ⟨Nat.zero_le _, Nat.zero_le _⟩
  refine zcons (s_iconst hx hb 0 dX2_costOf_0 (by decide)) ?_
  refine zcons (s_istore_n hx hb 3 dX2_costOf_1 rfl) ?_
  refine zcons (s_iload_n hx hb 3 dX2_costOf_2 rfl) ?_
  refine zcons (s_aload_n hx hb 0 dX2_costOf_3 rfl) ?_
  refine zcons (s_iload_n hx hb 1 dX2_costOf_4 rfl) ?_
  refine zcons (s_callV (hZ := fun _ h => h) hx hb hts hml hown hK hro zcX2 (kX2_wordsIn l X) (zgoodV w413 w414 w415 w47 w416) rfl rfl rfl (by decide +kernel) ⟨Nat.le_of_ble_eq_true rfl, Nat.le_of_ble_eq_true rfl⟩ dX2_costOf_5) ?_
  refine zcons (s_c_ge hx hb 34 dX2_costOf_8 (by decide)) ?_
  refine zcons (s_aload_n hx hb 0 dX2_costOf_11 rfl) ?_
  refine zcons (s_iload_n hx hb 1 dX2_costOf_12 rfl) ?_
  refine zcons (s_iload_n hx hb 3 dX2_costOf_13 rfl) ?_
  refine zcons (s_callV (hZ := fun _ h => h) hx hb hts hml hown hK hro zcX2 (kX2_wordAt l X) (zgoodV w417 w418 w419 w47 w420) rfl rfl rfl (by decide +kernel) ⟨Nat.le_of_ble_eq_true rfl, Nat.le_of_ble_eq_true rfl⟩ dX2_costOf_14) ?_
  refine zcons (s_iload_n hx hb 2 dX2_costOf_17 rfl) ?_
  refine zcons (s_c_ne hx hb 28 dX2_costOf_18 (by decide)) ?_
  refine zcons (s_aload_n hx hb 0 dX2_costOf_21 rfl) ?_
  refine zcons (s_iload_n hx hb 1 dX2_costOf_22 rfl) ?_
  refine zcons (s_iload_n hx hb 3 dX2_costOf_23 rfl) ?_
  refine zcons (s_callV (hZ := fun _ h => h) hx hb hts hml hown hK hro zcX2 (kX2_costAt l X) (zgoodV w421 w422 w423 w47 w424) rfl rfl rfl (by decide +kernel) ⟨Nat.le_of_ble_eq_true rfl, Nat.le_of_ble_eq_true rfl⟩ dX2_costOf_24) ?_
  refine zcons (s_iret hx hb hr hK hlk dX2_costOf_27) ?_
  refine zcons (s_iinc hx hb 1 dX2_costOf_28 (by decide)) ?_
  refine zcons (s_goto hx hb 2 dX2_costOf_31 (by decide)) ?_
  refine zcons (s_iconst hx hb (-1) dX2_costOf_34 (by decide)) ?_
  refine zcons (s_iret hx hb hr hK hlk dX2_costOf_35) ?_
  exact znil
noncomputable def tX2_addWord : List (Nat × AI) := [(0, a_aload 1 0), (1, a_getI 4 2 3), (4, a_push 5 (.inl 1)), (5, a_bin 6 (fun x y => x - y)), (6, a_istore 7 3), (7, a_iload 8 3), (8, a_if_lt 11 40), (11, a_iload 12 3), (12, a_aload 13 0), (13, a_getR 16 2 (fun _ => 9)), (16, a_len 17), (17, a_c_ge 20 40), (20, a_aload 21 0), (21, a_getR 24 2 (fun _ => 9)), (24, a_iload 25 3), (25, a_ald 26 10), (26, a_push 27 (.inl 4)), (27, a_c_ge 30 40), (30, a_aload 31 0), (31, a_iload 32 3), (32, a_iload 33 1), (33, a_callV 36 2 2 mX2_costOf), (36, a_push 37 (.inl (-1))), (37, a_c_eq 40 42), (40, a_push 41 (.inl (-1))), (41, a_iret), (42, a_iload 43 3), (43, a_push 44 (.inl 4)), (44, a_bin 45 (fun x y => x * y)), (45, a_aload 46 0), (46, a_getR 49 2 (fun _ => 9)), (49, a_iload 50 3), (50, a_ald 51 10), (51, a_bin 52 (fun x y => x + y)), (52, a_istore 54 4), (54, a_iload 56 4), (56, a_if_lt 59 79), (59, a_iload 61 4), (61, a_aload 62 0), (62, a_getR 65 2 (fun _ => 7)), (65, a_len 66), (66, a_c_ge 69 79), (69, a_iload 71 4), (71, a_aload 72 0), (72, a_getR 75 2 (fun _ => 8)), (75, a_len 76), (76, a_c_lt 79 81), (79, a_push 80 (.inl (-1))), (80, a_iret), (81, a_aload 82 0), (82, a_getR 85 2 (fun _ => 7)), (85, a_iload 87 4), (87, a_iload 88 1), (88, a_ast 89), (89, a_aload 90 0), (90, a_getR 93 2 (fun _ => 8)), (93, a_iload 95 4), (95, a_iload 96 2), (96, a_ast 97), (97, a_aload 98 0), (98, a_getR 101 2 (fun _ => 9)), (101, a_iload 102 3), (102, a_dup2 103), (103, a_ald 104 10), (104, a_push 105 (.inl 1)), (105, a_bin 106 (fun x y => x + y)), (106, a_ast 107), (107, a_aload 108 0), (108, a_getR 111 2 (fun _ => 9)), (111, a_iload 112 3), (112, a_ald 113 10), (113, a_iret)]
noncomputable def mX2_addWord : List AV → MM → Option AR := zsem tX2_addWord 5 3
def wX2_addWord : List Cond := .code yX2_addWord cX2_addWord 5 (some .int) :: lw_g
def rX2_addWord : Room := { frames := 3, cells := 0, slots := 0, locals := 67 }
set_option maxHeartbeats 4000000 in
set_option maxRecDepth 100000 in
theorem kX2_addWord (l : Launch) (X : XC) : zM l X yX2_addWord wX2_addWord rX2_addWord mX2_addWord := by
  refine zMet tX2_addWord 3 (by decide) rfl (by decide) ?_
  intro p e s m args below meth c res hC
  obtain ⟨hx, hb, hr, hts0, hown, hml, hlk, hK⟩ := hC
  have hts : ∀ w ∈ lw_g, w.before args s = true := fun w h => hts0 w (List.mem_cons_of_mem _ h)
  have hro : 0 ≤ (headSpec wX2_addWord rX2_addWord).room.cells ∧ 0 ≤ (headSpec wX2_addWord rX2_addWord).room.slots := ⟨Nat.zero_le _, Nat.zero_le _⟩
  refine zcons (s_aload_n hx hb 0 dX2_addWord_0 rfl) ?_
  refine zcons (s_getI hx hb hts hown hK zcX2 hinX2 3 (by decide) w157 rfl (zptk (by decide) (by decide +kernel)) dX2_addWord_1) ?_
  refine zcons (s_iconst hx hb 1 dX2_addWord_4 (by decide)) ?_
  refine zcons (s_isub hx hb dX2_addWord_5) ?_
  refine zcons (s_istore_n hx hb 3 dX2_addWord_6 rfl) ?_
  refine zcons (s_iload_n hx hb 3 dX2_addWord_7 rfl) ?_
  refine zcons (s_if_lt hx hb 40 dX2_addWord_8 (by decide)) ?_
  refine zcons (s_iload_n hx hb 3 dX2_addWord_11 rfl) ?_
  refine zcons (s_aload_n hx hb 0 dX2_addWord_12 rfl) ?_
  refine zcons (s_getR hx hb hts hown hK zcX2 hinX2 2 (by decide) w156 rfl (fun _ => 9) (zptf (by decide) (by decide +kernel)) dX2_addWord_13) ?_
  refine zcons (s_len hx hb hK dX2_addWord_16) ?_
  refine zcons (s_c_ge hx hb 40 dX2_addWord_17 (by decide)) ?_
  refine zcons (s_aload_n hx hb 0 dX2_addWord_20 rfl) ?_
  refine zcons (s_getR hx hb hts hown hK zcX2 hinX2 2 (by decide) w156 rfl (fun _ => 9) (zptf (by decide) (by decide +kernel)) dX2_addWord_21) ?_
  refine zcons (s_iload_n hx hb 3 dX2_addWord_24 rfl) ?_
  refine zcons (s_iald hx hb hK dX2_addWord_25) ?_
  refine zcons (s_iconst hx hb 4 dX2_addWord_26 (by decide)) ?_
  refine zcons (s_c_ge hx hb 40 dX2_addWord_27 (by decide)) ?_
  refine zcons (s_aload_n hx hb 0 dX2_addWord_30 rfl) ?_
  refine zcons (s_iload_n hx hb 3 dX2_addWord_31 rfl) ?_
  refine zcons (s_iload_n hx hb 1 dX2_addWord_32 rfl) ?_
  refine zcons (s_callV (hZ := fun _ h => h) hx hb hts hml hown hK hro zcX2 (kX2_costOf l X) (zgoodV w409 w410 w411 w47 w412) rfl rfl rfl (by decide +kernel) ⟨Nat.le_of_ble_eq_true rfl, Nat.le_of_ble_eq_true rfl⟩ dX2_addWord_33) ?_
  refine zcons (s_iconst hx hb (-1) dX2_addWord_36 (by decide)) ?_
  refine zcons (s_c_eq hx hb 42 dX2_addWord_37 (by decide)) ?_
  refine zcons (s_iconst hx hb (-1) dX2_addWord_40 (by decide)) ?_
  refine zcons (s_iret hx hb hr hK hlk dX2_addWord_41) ?_
  refine zcons (s_iload_n hx hb 3 dX2_addWord_42 rfl) ?_
  refine zcons (s_iconst hx hb 4 dX2_addWord_43 (by decide)) ?_
  refine zcons (s_imul hx hb dX2_addWord_44) ?_
  refine zcons (s_aload_n hx hb 0 dX2_addWord_45 rfl) ?_
  refine zcons (s_getR hx hb hts hown hK zcX2 hinX2 2 (by decide) w156 rfl (fun _ => 9) (zptf (by decide) (by decide +kernel)) dX2_addWord_46) ?_
  refine zcons (s_iload_n hx hb 3 dX2_addWord_49 rfl) ?_
  refine zcons (s_iald hx hb hK dX2_addWord_50) ?_
  refine zcons (s_iadd hx hb dX2_addWord_51) ?_
  refine zcons (s_istore hx hb dX2_addWord_52) ?_
  refine zcons (s_iload hx hb dX2_addWord_54) ?_
  refine zcons (s_if_lt hx hb 79 dX2_addWord_56 (by decide)) ?_
  refine zcons (s_iload hx hb dX2_addWord_59) ?_
  refine zcons (s_aload_n hx hb 0 dX2_addWord_61 rfl) ?_
  refine zcons (s_getR hx hb hts hown hK zcX2 hinX2 0 (by decide) w154 rfl (fun _ => 7) (zptf (by decide) (by decide +kernel)) dX2_addWord_62) ?_
  refine zcons (s_len hx hb hK dX2_addWord_65) ?_
  refine zcons (s_c_ge hx hb 79 dX2_addWord_66 (by decide)) ?_
  refine zcons (s_iload hx hb dX2_addWord_69) ?_
  refine zcons (s_aload_n hx hb 0 dX2_addWord_71 rfl) ?_
  refine zcons (s_getR hx hb hts hown hK zcX2 hinX2 1 (by decide) w155 rfl (fun _ => 8) (zptf (by decide) (by decide +kernel)) dX2_addWord_72) ?_
  refine zcons (s_len hx hb hK dX2_addWord_75) ?_
  refine zcons (s_c_lt hx hb 81 dX2_addWord_76 (by decide)) ?_
  refine zcons (s_iconst hx hb (-1) dX2_addWord_79 (by decide)) ?_
  refine zcons (s_iret hx hb hr hK hlk dX2_addWord_80) ?_
  refine zcons (s_aload_n hx hb 0 dX2_addWord_81 rfl) ?_
  refine zcons (s_getR hx hb hts hown hK zcX2 hinX2 0 (by decide) w154 rfl (fun _ => 7) (zptf (by decide) (by decide +kernel)) dX2_addWord_82) ?_
  refine zcons (s_iload hx hb dX2_addWord_85) ?_
  refine zcons (s_iload_n hx hb 1 dX2_addWord_87 rfl) ?_
  refine zcons (s_iast (hZ := fun _ h => h) hx hb hK dX2_addWord_88) ?_
  refine zcons (s_aload_n hx hb 0 dX2_addWord_89 rfl) ?_
  refine zcons (s_getR hx hb hts hown hK zcX2 hinX2 1 (by decide) w155 rfl (fun _ => 8) (zptf (by decide) (by decide +kernel)) dX2_addWord_90) ?_
  refine zcons (s_iload hx hb dX2_addWord_93) ?_
  refine zcons (s_iload_n hx hb 2 dX2_addWord_95 rfl) ?_
  refine zcons (s_iast (hZ := fun _ h => h) hx hb hK dX2_addWord_96) ?_
  refine zcons (s_aload_n hx hb 0 dX2_addWord_97 rfl) ?_
  refine zcons (s_getR hx hb hts hown hK zcX2 hinX2 2 (by decide) w156 rfl (fun _ => 9) (zptf (by decide) (by decide +kernel)) dX2_addWord_98) ?_
  refine zcons (s_iload_n hx hb 3 dX2_addWord_101 rfl) ?_
  refine zcons (s_dup2 hx hb dX2_addWord_102) ?_
  refine zcons (s_iald hx hb hK dX2_addWord_103) ?_
  refine zcons (s_iconst hx hb 1 dX2_addWord_104 (by decide)) ?_
  refine zcons (s_iadd hx hb dX2_addWord_105) ?_
  refine zcons (s_iast (hZ := fun _ h => h) hx hb hK dX2_addWord_106) ?_
  refine zcons (s_aload_n hx hb 0 dX2_addWord_107 rfl) ?_
  refine zcons (s_getR hx hb hts hown hK zcX2 hinX2 2 (by decide) w156 rfl (fun _ => 9) (zptf (by decide) (by decide +kernel)) dX2_addWord_108) ?_
  refine zcons (s_iload_n hx hb 3 dX2_addWord_111 rfl) ?_
  refine zcons (s_iald hx hb hK dX2_addWord_112) ?_
  refine zcons (s_iret hx hb hr hK hlk dX2_addWord_113) ?_
  exact znil
noncomputable def tX3_push : List (Nat × AI) := [(0, a_aload 1 0), (1, a_getI 4 3 1), (4, a_aload 5 0), (5, a_getR 8 3 (fun _ => 18)), (8, a_len 9), (9, a_c_lt 12 54), (12, a_push 13 (.inl 1)), (13, a_istore 14 2), (14, a_iload 15 2), (15, a_aload 16 0), (16, a_getR 19 3 (fun _ => 18)), (19, a_len 20), (20, a_c_ge 23 43), (23, a_aload 24 0), (24, a_getR 27 3 (fun _ => 18)), (27, a_iload 28 2), (28, a_push 29 (.inl 1)), (29, a_bin 30 (fun x y => x - y)), (30, a_aload 31 0), (31, a_getR 34 3 (fun _ => 18)), (34, a_iload 35 2), (35, a_ald 36 10), (36, a_ast 37), (37, a_iinc 40 2 1), (40, a_goto 14), (43, a_aload 44 0), (44, a_aload 45 0), (45, a_getR 48 3 (fun _ => 18)), (48, a_len 49), (49, a_push 50 (.inl 1)), (50, a_bin 51 (fun x y => x - y)), (51, a_put 54 3 1), (54, a_aload 55 0), (55, a_getI 58 3 1), (58, a_if_lt 61 93), (61, a_aload 62 0), (62, a_getI 65 3 1), (65, a_aload 66 0), (66, a_getR 69 3 (fun _ => 18)), (69, a_len 70), (70, a_c_ge 73 93), (73, a_aload 74 0), (74, a_getR 77 3 (fun _ => 18)), (77, a_aload 78 0), (78, a_getI 81 3 1), (81, a_iload 82 1), (82, a_ast 83), (83, a_aload 84 0), (84, a_dup 85), (85, a_getI 88 3 1), (88, a_push 89 (.inl 1)), (89, a_bin 90 (fun x y => x + y)), (90, a_put 93 3 1), (93, a_vret)]
noncomputable def mX3_push : List AV → MM → Option AR := zsem tX3_push 3 2
def wX3_push : List Cond := .code yX3_push cX3_push 3 none :: lw_g
def rX3_push : Room := { frames := 0, cells := 0, slots := 0, locals := 0 }
set_option maxHeartbeats 4000000 in
set_option maxRecDepth 100000 in
theorem kX3_push (l : Launch) (X : XC) : zM l X yX3_push wX3_push rX3_push mX3_push := by
  refine zMet tX3_push 2 (by decide) rfl (by decide) ?_
  intro p e s m args below meth c res hC
  obtain ⟨hx, hb, hr, hts0, hown, hml, hlk, hK⟩ := hC
  have hts : ∀ w ∈ lw_g, w.before args s = true := fun w h => hts0 w (List.mem_cons_of_mem _ h)
  have hro : 0 ≤ (headSpec wX3_push rX3_push).room.cells ∧ 0 ≤ (headSpec wX3_push rX3_push).room.slots := ⟨Nat.zero_le _, Nat.zero_le _⟩
  refine zcons (s_aload_n hx hb 0 dX3_push_0 rfl) ?_
  refine zcons (s_getI hx hb hts hown hK zcX3 hinX3 1 (by decide) w252 rfl (zptk (by decide) (by decide +kernel)) dX3_push_1) ?_
  refine zcons (s_aload_n hx hb 0 dX3_push_4 rfl) ?_
  refine zcons (s_getR hx hb hts hown hK zcX3 hinX3 0 (by decide) w251 rfl (fun _ => 18) (zptf (by decide) (by decide +kernel)) dX3_push_5) ?_
  refine zcons (s_len hx hb hK dX3_push_8) ?_
  refine zcons (s_c_lt hx hb 54 dX3_push_9 (by decide)) ?_
  refine zcons (s_iconst hx hb 1 dX3_push_12 (by decide)) ?_
  refine zcons (s_istore_n hx hb 2 dX3_push_13 rfl) ?_
  refine zcons (s_iload_n hx hb 2 dX3_push_14 rfl) ?_
  refine zcons (s_aload_n hx hb 0 dX3_push_15 rfl) ?_
  refine zcons (s_getR hx hb hts hown hK zcX3 hinX3 0 (by decide) w251 rfl (fun _ => 18) (zptf (by decide) (by decide +kernel)) dX3_push_16) ?_
  refine zcons (s_len hx hb hK dX3_push_19) ?_
  refine zcons (s_c_ge hx hb 43 dX3_push_20 (by decide)) ?_
  refine zcons (s_aload_n hx hb 0 dX3_push_23 rfl) ?_
  refine zcons (s_getR hx hb hts hown hK zcX3 hinX3 0 (by decide) w251 rfl (fun _ => 18) (zptf (by decide) (by decide +kernel)) dX3_push_24) ?_
  refine zcons (s_iload_n hx hb 2 dX3_push_27 rfl) ?_
  refine zcons (s_iconst hx hb 1 dX3_push_28 (by decide)) ?_
  refine zcons (s_isub hx hb dX3_push_29) ?_
  refine zcons (s_aload_n hx hb 0 dX3_push_30 rfl) ?_
  refine zcons (s_getR hx hb hts hown hK zcX3 hinX3 0 (by decide) w251 rfl (fun _ => 18) (zptf (by decide) (by decide +kernel)) dX3_push_31) ?_
  refine zcons (s_iload_n hx hb 2 dX3_push_34 rfl) ?_
  refine zcons (s_iald hx hb hK dX3_push_35) ?_
  refine zcons (s_iast (hZ := fun _ h => h) hx hb hK dX3_push_36) ?_
  refine zcons (s_iinc hx hb 1 dX3_push_37 (by decide)) ?_
  refine zcons (s_goto hx hb 14 dX3_push_40 (by decide)) ?_
  refine zcons (s_aload_n hx hb 0 dX3_push_43 rfl) ?_
  refine zcons (s_aload_n hx hb 0 dX3_push_44 rfl) ?_
  refine zcons (s_getR hx hb hts hown hK zcX3 hinX3 0 (by decide) w251 rfl (fun _ => 18) (zptf (by decide) (by decide +kernel)) dX3_push_45) ?_
  refine zcons (s_len hx hb hK dX3_push_48) ?_
  refine zcons (s_iconst hx hb 1 dX3_push_49 (by decide)) ?_
  refine zcons (s_isub hx hb dX3_push_50) ?_
  refine zcons (s_put (hZ := fun _ h => h) hx hb hts hown hK zcX3 hinX3 tyX3 tyX3_ok nmX3 1 (by decide) w252 rfl rfl (zptk (by decide) (by decide +kernel)) (by decide +kernel) dX3_push_51) ?_
  refine zcons (s_aload_n hx hb 0 dX3_push_54 rfl) ?_
  refine zcons (s_getI hx hb hts hown hK zcX3 hinX3 1 (by decide) w252 rfl (zptk (by decide) (by decide +kernel)) dX3_push_55) ?_
  refine zcons (s_if_lt hx hb 93 dX3_push_58 (by decide)) ?_
  refine zcons (s_aload_n hx hb 0 dX3_push_61 rfl) ?_
  refine zcons (s_getI hx hb hts hown hK zcX3 hinX3 1 (by decide) w252 rfl (zptk (by decide) (by decide +kernel)) dX3_push_62) ?_
  refine zcons (s_aload_n hx hb 0 dX3_push_65 rfl) ?_
  refine zcons (s_getR hx hb hts hown hK zcX3 hinX3 0 (by decide) w251 rfl (fun _ => 18) (zptf (by decide) (by decide +kernel)) dX3_push_66) ?_
  refine zcons (s_len hx hb hK dX3_push_69) ?_
  refine zcons (s_c_ge hx hb 93 dX3_push_70 (by decide)) ?_
  refine zcons (s_aload_n hx hb 0 dX3_push_73 rfl) ?_
  refine zcons (s_getR hx hb hts hown hK zcX3 hinX3 0 (by decide) w251 rfl (fun _ => 18) (zptf (by decide) (by decide +kernel)) dX3_push_74) ?_
  refine zcons (s_aload_n hx hb 0 dX3_push_77 rfl) ?_
  refine zcons (s_getI hx hb hts hown hK zcX3 hinX3 1 (by decide) w252 rfl (zptk (by decide) (by decide +kernel)) dX3_push_78) ?_
  refine zcons (s_iload_n hx hb 1 dX3_push_81 rfl) ?_
  refine zcons (s_iast (hZ := fun _ h => h) hx hb hK dX3_push_82) ?_
  refine zcons (s_aload_n hx hb 0 dX3_push_83 rfl) ?_
  refine zcons (s_dup hx hb dX3_push_84) ?_
  refine zcons (s_getI hx hb hts hown hK zcX3 hinX3 1 (by decide) w252 rfl (zptk (by decide) (by decide +kernel)) dX3_push_85) ?_
  refine zcons (s_iconst hx hb 1 dX3_push_88 (by decide)) ?_
  refine zcons (s_iadd hx hb dX3_push_89) ?_
  refine zcons (s_put (hZ := fun _ h => h) hx hb hts hown hK zcX3 hinX3 tyX3 tyX3_ok nmX3 1 (by decide) w252 rfl rfl (zptk (by decide) (by decide +kernel)) (by decide +kernel) dX3_push_90) ?_
  refine zcons (s_vret hx hb hr hK hlk dX3_push_93) ?_
  exact znil
noncomputable def tX3_pop : List (Nat × AI) := [(0, a_aload 1 0), (1, a_getI 4 3 1), (4, a_if_le 7 19), (7, a_aload 8 0), (8, a_getI 11 3 1), (11, a_aload 12 0), (12, a_getR 15 3 (fun _ => 18)), (15, a_len 16), (16, a_c_le 19 21), (19, a_push 20 (.inl (-1))), (20, a_iret), (21, a_aload 22 0), (22, a_dup 23), (23, a_getI 26 3 1), (26, a_push 27 (.inl 1)), (27, a_bin 28 (fun x y => x - y)), (28, a_put 31 3 1), (31, a_aload 32 0), (32, a_getR 35 3 (fun _ => 18)), (35, a_aload 36 0), (36, a_getI 39 3 1), (39, a_ald 40 10), (40, a_iret)]
noncomputable def mX3_pop : List AV → MM → Option AR := zsem tX3_pop 1 1
def wX3_pop : List Cond := .code yX3_pop cX3_pop 1 (some .int) :: lw_g
def rX3_pop : Room := { frames := 0, cells := 0, slots := 0, locals := 0 }
set_option maxHeartbeats 4000000 in
set_option maxRecDepth 100000 in
theorem kX3_pop (l : Launch) (X : XC) : zM l X yX3_pop wX3_pop rX3_pop mX3_pop := by
  refine zMet tX3_pop 1 (by decide) rfl (by decide) ?_
  intro p e s m args below meth c res hC
  obtain ⟨hx, hb, hr, hts0, hown, hml, hlk, hK⟩ := hC
  have hts : ∀ w ∈ lw_g, w.before args s = true := fun w h => hts0 w (List.mem_cons_of_mem _ h)
  have hro : 0 ≤ (headSpec wX3_pop rX3_pop).room.cells ∧ 0 ≤ (headSpec wX3_pop rX3_pop).room.slots := ⟨Nat.zero_le _, Nat.zero_le _⟩
  refine zcons (s_aload_n hx hb 0 dX3_pop_0 rfl) ?_
  refine zcons (s_getI hx hb hts hown hK zcX3 hinX3 1 (by decide) w252 rfl (zptk (by decide) (by decide +kernel)) dX3_pop_1) ?_
  refine zcons (s_if_le hx hb 19 dX3_pop_4 (by decide)) ?_
  refine zcons (s_aload_n hx hb 0 dX3_pop_7 rfl) ?_
  refine zcons (s_getI hx hb hts hown hK zcX3 hinX3 1 (by decide) w252 rfl (zptk (by decide) (by decide +kernel)) dX3_pop_8) ?_
  refine zcons (s_aload_n hx hb 0 dX3_pop_11 rfl) ?_
  refine zcons (s_getR hx hb hts hown hK zcX3 hinX3 0 (by decide) w251 rfl (fun _ => 18) (zptf (by decide) (by decide +kernel)) dX3_pop_12) ?_
  refine zcons (s_len hx hb hK dX3_pop_15) ?_
  refine zcons (s_c_le hx hb 21 dX3_pop_16 (by decide)) ?_
  refine zcons (s_iconst hx hb (-1) dX3_pop_19 (by decide)) ?_
  refine zcons (s_iret hx hb hr hK hlk dX3_pop_20) ?_
  refine zcons (s_aload_n hx hb 0 dX3_pop_21 rfl) ?_
  refine zcons (s_dup hx hb dX3_pop_22) ?_
  refine zcons (s_getI hx hb hts hown hK zcX3 hinX3 1 (by decide) w252 rfl (zptk (by decide) (by decide +kernel)) dX3_pop_23) ?_
  refine zcons (s_iconst hx hb 1 dX3_pop_26 (by decide)) ?_
  refine zcons (s_isub hx hb dX3_pop_27) ?_
  refine zcons (s_put (hZ := fun _ h => h) hx hb hts hown hK zcX3 hinX3 tyX3 tyX3_ok nmX3 1 (by decide) w252 rfl rfl (zptk (by decide) (by decide +kernel)) (by decide +kernel) dX3_pop_28) ?_
  refine zcons (s_aload_n hx hb 0 dX3_pop_31 rfl) ?_
  refine zcons (s_getR hx hb hts hown hK zcX3 hinX3 0 (by decide) w251 rfl (fun _ => 18) (zptf (by decide) (by decide +kernel)) dX3_pop_32) ?_
  refine zcons (s_aload_n hx hb 0 dX3_pop_35 rfl) ?_
  refine zcons (s_getI hx hb hts hown hK zcX3 hinX3 1 (by decide) w252 rfl (zptk (by decide) (by decide +kernel)) dX3_pop_36) ?_
  refine zcons (s_iald hx hb hK dX3_pop_39) ?_
  refine zcons (s_iret hx hb hr hK hlk dX3_pop_40) ?_
  exact znil
noncomputable def tX4_forget : List (Nat × AI) := [(0, a_aload 1 0), (1, a_getR 4 4 (fun _ => 10)), (4, a_callV 7 0 7 mX7_clear), (7, a_vret)]
noncomputable def mX4_forget : List AV → MM → Option AR := zsem tX4_forget 1 1
def wX4_forget : List Cond := .code yX4_forget cX4_forget 1 none :: lw_g
def rX4_forget : Room := { frames := 2, cells := 0, slots := 0, locals := 43 }
set_option maxHeartbeats 4000000 in
set_option maxRecDepth 100000 in
theorem kX4_forget (l : Launch) (X : XC) : zM l X yX4_forget wX4_forget rX4_forget mX4_forget := by
  refine zMet tX4_forget 1 (by decide) rfl (by decide) ?_
  intro p e s m args below meth c res hC
  obtain ⟨hx, hb, hr, hts0, hown, hml, hlk, hK⟩ := hC
  have hts : ∀ w ∈ lw_g, w.before args s = true := fun w h => hts0 w (List.mem_cons_of_mem _ h)
  have hro : 0 ≤ (headSpec wX4_forget rX4_forget).room.cells ∧ 0 ≤ (headSpec wX4_forget rX4_forget).room.slots := ⟨Nat.zero_le _, Nat.zero_le _⟩
  refine zcons (s_aload_n hx hb 0 dX4_forget_0 rfl) ?_
  refine zcons (s_getR hx hb hts hown hK zcX4 hinX4 2 (by decide) w216 rfl (fun _ => 10) (zptf (by decide) (by decide +kernel)) dX4_forget_1) ?_
  refine zcons (s_callV (hZ := fun _ h => h) hx hb hts hml hown hK hro zcX7 (kX7_clear l X) (zgoodV w206 w207 w208 w49 w209) rfl rfl rfl (by decide +kernel) ⟨Nat.le_of_ble_eq_true rfl, Nat.le_of_ble_eq_true rfl⟩ dX4_forget_4) ?_
  refine zcons (s_vret hx hb hr hK hlk dX4_forget_7) ?_
  exact znil
noncomputable def tX4_leadAtFirst : List (Nat × AI) := [(0, a_iload 1 0), (1, a_if_ne 4 8), (4, a_push 5 (.inl 0)), (5, a_goto 10), (8, a_push 10 (.inl 1000000)), (10, a_iret)]
noncomputable def mX4_leadAtFirst : List AV → MM → Option AR := zsem tX4_leadAtFirst 1 1
def wX4_leadAtFirst : List Cond := .code yX4_leadAtFirst cX4_leadAtFirst 1 (some .int) :: lw_g
def rX4_leadAtFirst : Room := { frames := 0, cells := 0, slots := 0, locals := 0 }
set_option maxHeartbeats 4000000 in
set_option maxRecDepth 100000 in
theorem kX4_leadAtFirst (l : Launch) (X : XC) : zM l X yX4_leadAtFirst wX4_leadAtFirst rX4_leadAtFirst mX4_leadAtFirst := by
  refine zMet tX4_leadAtFirst 1 (by decide) rfl (by decide) ?_
  intro p e s m args below meth c res hC
  obtain ⟨hx, hb, hr, hts0, hown, hml, hlk, hK⟩ := hC
  have hts : ∀ w ∈ lw_g, w.before args s = true := fun w h => hts0 w (List.mem_cons_of_mem _ h)
  have hro : 0 ≤ (headSpec wX4_leadAtFirst rX4_leadAtFirst).room.cells ∧ 0 ≤ (headSpec wX4_leadAtFirst rX4_leadAtFirst).room.slots := ⟨Nat.zero_le _, Nat.zero_le _⟩
  refine zcons (s_iload_n hx hb 0 dX4_leadAtFirst_0 rfl) ?_
  refine zcons (s_if_ne hx hb 8 dX4_leadAtFirst_1 (by decide)) ?_
  refine zcons (s_iconst hx hb 0 dX4_leadAtFirst_4 (by decide)) ?_
  refine zcons (s_goto hx hb 10 dX4_leadAtFirst_5 (by decide)) ?_
  refine zcons (s_ldc hx hb 1000000 hown (hts _ w454) dX4_leadAtFirst_8) ?_
  refine zcons (s_iret hx hb hr hK hlk dX4_leadAtFirst_10) ?_
  exact znil
