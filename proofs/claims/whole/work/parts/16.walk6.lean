/-! The tables of methods and their contracts (written by wip/whole/gen.py). -/
noncomputable def tX10_keep : List (Nat × AI) := [(0, a_aload 1 0), (1, a_getR 4 9 (fun _ => 28)), (4, a_iload 5 1), (5, a_iload 6 2), (6, a_ast 7), (7, a_aload 8 0), (8, a_getR 11 9 (fun _ => 29)), (11, a_iload 12 1), (12, a_iload 13 3), (13, a_zst 14), (14, a_aload 15 0), (15, a_iload 16 1), (16, a_put 19 9 30), (19, a_aload 20 0), (20, a_push 21 (.inl 0)), (21, a_putZ 24 9 28), (24, a_push 25 (.inl 0)), (25, a_istore 27 4), (27, a_iload 29 4), (29, a_aload 30 0), (30, a_getI 33 9 0), (33, a_c_ge 36 104), (36, a_aload 37 0), (37, a_getR 40 9 (fun _ => 28)), (40, a_iload 42 4), (42, a_ald 43 10), (43, a_if_lt 46 98), (46, a_aload 47 0), (47, a_iload 49 4), (49, a_callV 52 1 9 mX10_isAsked), (52, a_if_eq 55 58), (55, a_goto 98), (58, a_aload 59 0), (59, a_getR 62 9 (fun _ => 28)), (62, a_iload 64 4), (64, a_push 65 (.inl (-1))), (65, a_ast 66), (66, a_aload 67 0), (67, a_getR 70 9 (fun _ => 29)), (70, a_iload 72 4), (72, a_push 73 (.inl 0)), (73, a_zst 74), (74, a_aload 75 0), (75, a_dup 76), (76, a_getI 79 9 34), (79, a_push 80 (.inl 1)), (80, a_bin 81 (fun x y => x + y)), (81, a_put 84 9 34), (84, a_aload 85 0), (85, a_getI 88 9 30), (88, a_iload 90 4), (90, a_c_ne 93 98), (93, a_aload 94 0), (94, a_push 95 (.inl (-1))), (95, a_put 98 9 30), (98, a_iinc 101 4 1), (101, a_goto 27), (104, a_aload 105 0), (105, a_getI 108 9 29), (108, a_if_lt 111 142), (111, a_iload 112 1), (112, a_aload 113 0), (113, a_getI 116 9 29), (116, a_c_eq 119 130), (119, a_aload 120 0), (120, a_aload 121 0), (121, a_getI 124 9 29), (124, a_callV 127 1 9 mX10_isAsked), (127, a_if_ne 130 142), (130, a_aload 131 0), (131, a_aload 132 0), (132, a_aload 133 0), (133, a_getI 136 9 29), (136, a_callV 139 1 9 mX10_nextBehind), (139, a_callV 142 1 9 mX10_comesNow), (142, a_push 143 (.inl 4)), (143, a_iret)]
noncomputable def mX10_keep : List AV → MM → Option AR := zsem tX10_keep 5 4
def wX10_keep : List Cond := .code yX10_keep cX10_keep 5 (some .int) :: lw_g
def rX10_keep : Room := { frames := 3, cells := 0, slots := 0, locals := 65 }
set_option maxHeartbeats 4000000 in
set_option maxRecDepth 100000 in
theorem kX10_keep (l : Launch) (X : XC) : zM l X yX10_keep wX10_keep rX10_keep mX10_keep := by
  refine zMet tX10_keep 4 (by decide) rfl (by decide) ?_
  intro p e s m args below meth c res hC
  obtain ⟨hx, hb, hr, hts0, hown, hml, hlk, hK⟩ := hC
  have hts : ∀ w ∈ lw_g, w.before args s = true := fun w h => hts0 w (List.mem_cons_of_mem _ h)
  have hro : 0 ≤ (headSpec wX10_keep rX10_keep).room.cells ∧ 0 ≤ (headSpec wX10_keep rX10_keep).room.slots := ⟨Nat.zero_le _, Nat.zero_le _⟩
  refine zcons (s_aload_n hx hb 0 dX10_keep_0 rfl) ?_
  refine zcons (s_getR hx hb hts hown hK zcX10 hinX10 9 (by decide) w712 rfl (fun _ => 28) (zptf (by decide) (by decide +kernel)) dX10_keep_1) ?_
  refine zcons (s_iload_n hx hb 1 dX10_keep_4 rfl) ?_
  refine zcons (s_iload_n hx hb 2 dX10_keep_5 rfl) ?_
  refine zcons (s_iast (hZ := fun _ h => h) hx hb hK dX10_keep_6) ?_
  refine zcons (s_aload_n hx hb 0 dX10_keep_7 rfl) ?_
  refine zcons (s_getR hx hb hts hown hK zcX10 hinX10 10 (by decide) w713 rfl (fun _ => 29) (zptf (by decide) (by decide +kernel)) dX10_keep_8) ?_
  refine zcons (s_iload_n hx hb 1 dX10_keep_11 rfl) ?_
  refine zcons (s_iload_n hx hb 3 dX10_keep_12 rfl) ?_
  refine zcons (s_zast (hZ := fun _ h => h) hx hb hK dX10_keep_13) ?_
  refine zcons (s_aload_n hx hb 0 dX10_keep_14 rfl) ?_
  refine zcons (s_iload_n hx hb 1 dX10_keep_15 rfl) ?_
  refine zcons (s_put (hZ := fun _ h => h) hx hb hts hown hK zcX10 hinX10 tyX10 tyX10_ok nmX10 30 (by decide) w733 rfl rfl (zptk (by decide) (by decide +kernel)) (by decide +kernel) dX10_keep_16) ?_
  refine zcons (s_aload_n hx hb 0 dX10_keep_19 rfl) ?_
  refine zcons (s_iconst hx hb 0 dX10_keep_20 (by decide)) ?_
  refine zcons (s_putZ (hZ := fun _ h => h) hx hb hts hown hK zcX10 hinX10 tyX10 tyX10_ok nmX10 28 (by decide) w731 rfl rfl (zptk (by decide) (by decide +kernel)) (by decide +kernel) dX10_keep_21) ?_
  refine zcons (s_iconst hx hb 0 dX10_keep_24 (by decide)) ?_
  refine zcons (s_istore hx hb dX10_keep_25) ?_
  refine zcons (s_iload hx hb dX10_keep_27) ?_
  refine zcons (s_aload_n hx hb 0 dX10_keep_29 rfl) ?_
  refine zcons (s_getI hx hb hts hown hK zcX10 hinX10 0 (by decide) w703 rfl (zptk (by decide) (by decide +kernel)) dX10_keep_30) ?_
  refine zcons (s_c_ge hx hb 104 dX10_keep_33 (by decide)) ?_
  refine zcons (s_aload_n hx hb 0 dX10_keep_36 rfl) ?_
  refine zcons (s_getR hx hb hts hown hK zcX10 hinX10 9 (by decide) w712 rfl (fun _ => 28) (zptf (by decide) (by decide +kernel)) dX10_keep_37) ?_
  refine zcons (s_iload hx hb dX10_keep_40) ?_
  refine zcons (s_iald hx hb hK dX10_keep_42) ?_
  refine zcons (s_if_lt hx hb 98 dX10_keep_43 (by decide)) ?_
  refine zcons (s_aload_n hx hb 0 dX10_keep_46 rfl) ?_
  refine zcons (s_iload hx hb dX10_keep_47) ?_
  refine zcons (s_callV (hZ := fun _ h => h) hx hb hts hml hown hK hro zcX10 (kX10_isAsked l X) (zgoodV w923 w925 w36 w54 w926) rfl rfl rfl (by decide +kernel) ⟨Nat.le_of_ble_eq_true rfl, Nat.le_of_ble_eq_true rfl⟩ dX10_keep_49) ?_
  refine zcons (s_if_eq hx hb 58 dX10_keep_52 (by decide)) ?_
  refine zcons (s_goto hx hb 98 dX10_keep_55 (by decide)) ?_
  refine zcons (s_aload_n hx hb 0 dX10_keep_58 rfl) ?_
  refine zcons (s_getR hx hb hts hown hK zcX10 hinX10 9 (by decide) w712 rfl (fun _ => 28) (zptf (by decide) (by decide +kernel)) dX10_keep_59) ?_
  refine zcons (s_iload hx hb dX10_keep_62) ?_
  refine zcons (s_iconst hx hb (-1) dX10_keep_64 (by decide)) ?_
  refine zcons (s_iast (hZ := fun _ h => h) hx hb hK dX10_keep_65) ?_
  refine zcons (s_aload_n hx hb 0 dX10_keep_66 rfl) ?_
  refine zcons (s_getR hx hb hts hown hK zcX10 hinX10 10 (by decide) w713 rfl (fun _ => 29) (zptf (by decide) (by decide +kernel)) dX10_keep_67) ?_
  refine zcons (s_iload hx hb dX10_keep_70) ?_
  refine zcons (s_iconst hx hb 0 dX10_keep_72 (by decide)) ?_
  refine zcons (s_zast (hZ := fun _ h => h) hx hb hK dX10_keep_73) ?_
  refine zcons (s_aload_n hx hb 0 dX10_keep_74 rfl) ?_
  refine zcons (s_dup hx hb dX10_keep_75) ?_
  refine zcons (s_getI hx hb hts hown hK zcX10 hinX10 34 (by decide) w737 rfl (zptk (by decide) (by decide +kernel)) dX10_keep_76) ?_
  refine zcons (s_iconst hx hb 1 dX10_keep_79 (by decide)) ?_
  refine zcons (s_iadd hx hb dX10_keep_80) ?_
  refine zcons (s_put (hZ := fun _ h => h) hx hb hts hown hK zcX10 hinX10 tyX10 tyX10_ok nmX10 34 (by decide) w737 rfl rfl (zptk (by decide) (by decide +kernel)) (by decide +kernel) dX10_keep_81) ?_
  refine zcons (s_aload_n hx hb 0 dX10_keep_84 rfl) ?_
  refine zcons (s_getI hx hb hts hown hK zcX10 hinX10 30 (by decide) w733 rfl (zptk (by decide) (by decide +kernel)) dX10_keep_85) ?_
  refine zcons (s_iload hx hb dX10_keep_88) ?_
  refine zcons (s_c_ne hx hb 98 dX10_keep_90 (by decide)) ?_
  refine zcons (s_aload_n hx hb 0 dX10_keep_93 rfl) ?_
  refine zcons (s_iconst hx hb (-1) dX10_keep_94 (by decide)) ?_
  refine zcons (s_put (hZ := fun _ h => h) hx hb hts hown hK zcX10 hinX10 tyX10 tyX10_ok nmX10 30 (by decide) w733 rfl rfl (zptk (by decide) (by decide +kernel)) (by decide +kernel) dX10_keep_95) ?_
  refine zcons (s_iinc hx hb 1 dX10_keep_98 (by decide)) ?_
  refine zcons (s_goto hx hb 27 dX10_keep_101 (by decide)) ?_
  refine zcons (s_aload_n hx hb 0 dX10_keep_104 rfl) ?_
  refine zcons (s_getI hx hb hts hown hK zcX10 hinX10 29 (by decide) w732 rfl (zptk (by decide) (by decide +kernel)) dX10_keep_105) ?_
  refine zcons (s_if_lt hx hb 142 dX10_keep_108 (by decide)) ?_
  refine zcons (s_iload_n hx hb 1 dX10_keep_111 rfl) ?_
  refine zcons (s_aload_n hx hb 0 dX10_keep_112 rfl) ?_
  refine zcons (s_getI hx hb hts hown hK zcX10 hinX10 29 (by decide) w732 rfl (zptk (by decide) (by decide +kernel)) dX10_keep_113) ?_
  refine zcons (s_c_eq hx hb 130 dX10_keep_116 (by decide)) ?_
  refine zcons (s_aload_n hx hb 0 dX10_keep_119 rfl) ?_
  refine zcons (s_aload_n hx hb 0 dX10_keep_120 rfl) ?_
  refine zcons (s_getI hx hb hts hown hK zcX10 hinX10 29 (by decide) w732 rfl (zptk (by decide) (by decide +kernel)) dX10_keep_121) ?_
  refine zcons (s_callV (hZ := fun _ h => h) hx hb hts hml hown hK hro zcX10 (kX10_isAsked l X) (zgoodV w923 w925 w36 w54 w926) rfl rfl rfl (by decide +kernel) ⟨Nat.le_of_ble_eq_true rfl, Nat.le_of_ble_eq_true rfl⟩ dX10_keep_124) ?_
  refine zcons (s_if_ne hx hb 142 dX10_keep_127 (by decide)) ?_
  refine zcons (s_aload_n hx hb 0 dX10_keep_130 rfl) ?_
  refine zcons (s_aload_n hx hb 0 dX10_keep_131 rfl) ?_
  refine zcons (s_aload_n hx hb 0 dX10_keep_132 rfl) ?_
  refine zcons (s_getI hx hb hts hown hK zcX10 hinX10 29 (by decide) w732 rfl (zptk (by decide) (by decide +kernel)) dX10_keep_133) ?_
  refine zcons (s_callV (hZ := fun _ h => h) hx hb hts hml hown hK hro zcX10 (kX10_nextBehind l X) (zgoodV w927 w929 w37 w54 w930) rfl rfl rfl (by decide +kernel) ⟨Nat.le_of_ble_eq_true rfl, Nat.le_of_ble_eq_true rfl⟩ dX10_keep_136) ?_
  refine zcons (s_callV (hZ := fun _ h => h) hx hb hts hml hown hK hro zcX10 (kX10_comesNow l X) (zgoodV w935 w937 w39 w54 w938) rfl rfl rfl (by decide +kernel) ⟨Nat.le_of_ble_eq_true rfl, Nat.le_of_ble_eq_true rfl⟩ dX10_keep_139) ?_
  refine zcons (s_iconst hx hb 4 dX10_keep_142 (by decide)) ?_
  refine zcons (s_iret hx hb hr hK hlk dX10_keep_143) ?_
  exact znil
noncomputable def tX10_answered : List (Nat × AI) := [(0, a_aload 1 0), (1, a_getR 4 9 (fun _ => 24)), (4, a_iload 5 1), (5, a_ald 6 11), (6, a_if_eq 9 27), (9, a_aload 10 0), (10, a_getR 13 9 (fun _ => 21)), (13, a_iload 14 1), (14, a_ald 15 10), (15, a_if_le 18 35), (18, a_aload 19 0), (19, a_getR 22 9 (fun _ => 23)), (22, a_iload 23 1), (23, a_ald 24 11), (24, a_if_eq 27 35), (27, a_aload 28 0), (28, a_iload 29 1), (29, a_iload 30 2), (30, a_push 31 (.inl 0)), (31, a_callV 34 3 9 mX10_keep), (34, a_iret), (35, a_aload 36 0), (36, a_push 37 (.inl 1)), (37, a_put 40 9 32), (40, a_aload 41 0), (41, a_iload 42 1), (42, a_put 45 9 36), (45, a_aload 46 0), (46, a_iload 47 2), (47, a_put 50 9 37), (50, a_push 51 (.inl 3)), (51, a_iret)]
noncomputable def mX10_answered : List AV → MM → Option AR := zsem tX10_answered 3 3
def wX10_answered : List Cond := .code yX10_answered cX10_answered 3 (some .int) :: lw_g
def rX10_answered : Room := { frames := 4, cells := 0, slots := 0, locals := 89 }
set_option maxHeartbeats 4000000 in
set_option maxRecDepth 100000 in
theorem kX10_answered (l : Launch) (X : XC) : zM l X yX10_answered wX10_answered rX10_answered mX10_answered := by
  refine zMet tX10_answered 3 (by decide) rfl (by decide) ?_
  intro p e s m args below meth c res hC
  obtain ⟨hx, hb, hr, hts0, hown, hml, hlk, hK⟩ := hC
  have hts : ∀ w ∈ lw_g, w.before args s = true := fun w h => hts0 w (List.mem_cons_of_mem _ h)
  have hro : 0 ≤ (headSpec wX10_answered rX10_answered).room.cells ∧ 0 ≤ (headSpec wX10_answered rX10_answered).room.slots := ⟨Nat.zero_le _, Nat.zero_le _⟩
  refine zcons (s_aload_n hx hb 0 dX10_answered_0 rfl) ?_
  refine zcons (s_getR hx hb hts hown hK zcX10 hinX10 5 (by decide) w708 rfl (fun _ => 24) (zptf (by decide) (by decide +kernel)) dX10_answered_1) ?_
  refine zcons (s_iload_n hx hb 1 dX10_answered_4 rfl) ?_
  refine zcons (s_zald hx hb hK dX10_answered_5) ?_
  refine zcons (s_if_eq hx hb 27 dX10_answered_6 (by decide)) ?_
  refine zcons (s_aload_n hx hb 0 dX10_answered_9 rfl) ?_
  refine zcons (s_getR hx hb hts hown hK zcX10 hinX10 2 (by decide) w705 rfl (fun _ => 21) (zptf (by decide) (by decide +kernel)) dX10_answered_10) ?_
  refine zcons (s_iload_n hx hb 1 dX10_answered_13 rfl) ?_
  refine zcons (s_iald hx hb hK dX10_answered_14) ?_
  refine zcons (s_if_le hx hb 35 dX10_answered_15 (by decide)) ?_
  refine zcons (s_aload_n hx hb 0 dX10_answered_18 rfl) ?_
  refine zcons (s_getR hx hb hts hown hK zcX10 hinX10 4 (by decide) w707 rfl (fun _ => 23) (zptf (by decide) (by decide +kernel)) dX10_answered_19) ?_
  refine zcons (s_iload_n hx hb 1 dX10_answered_22 rfl) ?_
  refine zcons (s_zald hx hb hK dX10_answered_23) ?_
  refine zcons (s_if_eq hx hb 35 dX10_answered_24 (by decide)) ?_
  refine zcons (s_aload_n hx hb 0 dX10_answered_27 rfl) ?_
  refine zcons (s_iload_n hx hb 1 dX10_answered_28 rfl) ?_
  refine zcons (s_iload_n hx hb 2 dX10_answered_29 rfl) ?_
  refine zcons (s_iconst hx hb 0 dX10_answered_30 (by decide)) ?_
  refine zcons (s_callV (hZ := fun _ h => h) hx hb hts hml hown hK hro zcX10 (kX10_keep l X) (zgoodV w919 w921 w35 w54 w922) rfl rfl rfl (by decide +kernel) ⟨Nat.le_of_ble_eq_true rfl, Nat.le_of_ble_eq_true rfl⟩ dX10_answered_31) ?_
  refine zcons (s_iret hx hb hr hK hlk dX10_answered_34) ?_
  refine zcons (s_aload_n hx hb 0 dX10_answered_35 rfl) ?_
  refine zcons (s_iconst hx hb 1 dX10_answered_36 (by decide)) ?_
  refine zcons (s_put (hZ := fun _ h => h) hx hb hts hown hK zcX10 hinX10 tyX10 tyX10_ok nmX10 32 (by decide) w735 rfl rfl (zptk (by decide) (by decide +kernel)) (by decide +kernel) dX10_answered_37) ?_
  refine zcons (s_aload_n hx hb 0 dX10_answered_40 rfl) ?_
  refine zcons (s_iload_n hx hb 1 dX10_answered_41 rfl) ?_
  refine zcons (s_put (hZ := fun _ h => h) hx hb hts hown hK zcX10 hinX10 tyX10 tyX10_ok nmX10 36 (by decide) w739 rfl rfl (zptk (by decide) (by decide +kernel)) (by decide +kernel) dX10_answered_42) ?_
  refine zcons (s_aload_n hx hb 0 dX10_answered_45 rfl) ?_
  refine zcons (s_iload_n hx hb 2 dX10_answered_46 rfl) ?_
  refine zcons (s_put (hZ := fun _ h => h) hx hb hts hown hK zcX10 hinX10 tyX10 tyX10_ok nmX10 37 (by decide) w740 rfl rfl (zptk (by decide) (by decide +kernel)) (by decide +kernel) dX10_answered_47) ?_
  refine zcons (s_iconst hx hb 3 dX10_answered_50 (by decide)) ?_
  refine zcons (s_iret hx hb hr hK hlk dX10_answered_51) ?_
  exact znil
noncomputable def tX10_goBack : List (Nat × AI) := [(0, a_aload 1 0), (1, a_getI 4 9 31), (4, a_if_le 7 51), (7, a_aload 8 0), (8, a_dup 9), (9, a_getI 12 9 31), (12, a_push 13 (.inl 1)), (13, a_bin 14 (fun x y => x - y)), (14, a_put 17 9 31), (17, a_aload 18 0), (18, a_aload 19 0), (19, a_getR 22 9 (fun _ => 40)), (22, a_aload 23 0), (23, a_getI 26 9 31), (26, a_ald 27 10), (27, a_callV 30 1 9 mX10_isAsked), (30, a_if_ne 33 36), (33, a_goto 0), (36, a_aload 37 0), (37, a_aload 38 0), (38, a_getR 41 9 (fun _ => 40)), (41, a_aload 42 0), (42, a_getI 45 9 31), (45, a_ald 46 10), (46, a_put 49 9 29), (49, a_push 50 (.inl 5)), (50, a_iret), (51, a_push 53 (.inl 6)), (53, a_iret)]
noncomputable def mX10_goBack : List AV → MM → Option AR := zsem tX10_goBack 1 1
def wX10_goBack : List Cond := .code yX10_goBack cX10_goBack 1 (some .int) :: lw_g
def rX10_goBack : Room := { frames := 1, cells := 0, slots := 0, locals := 22 }
set_option maxHeartbeats 4000000 in
set_option maxRecDepth 100000 in
theorem kX10_goBack (l : Launch) (X : XC) : zM l X yX10_goBack wX10_goBack rX10_goBack mX10_goBack := by
  refine zMet tX10_goBack 1 (by decide) rfl (by decide) ?_
  intro p e s m args below meth c res hC
  obtain ⟨hx, hb, hr, hts0, hown, hml, hlk, hK⟩ := hC
  have hts : ∀ w ∈ lw_g, w.before args s = true := fun w h => hts0 w (List.mem_cons_of_mem _ h)
  have hro : 0 ≤ (headSpec wX10_goBack rX10_goBack).room.cells ∧ 0 ≤ (headSpec wX10_goBack rX10_goBack).room.slots := ⟨Nat.zero_le _, Nat.zero_le _⟩
  refine zcons (s_aload_n hx hb 0 dX10_goBack_0 rfl) ?_
  refine zcons (s_getI hx hb hts hown hK zcX10 hinX10 31 (by decide) w734 rfl (zptk (by decide) (by decide +kernel)) dX10_goBack_1) ?_
  refine zcons (s_if_le hx hb 51 dX10_goBack_4 (by decide)) ?_
  refine zcons (s_aload_n hx hb 0 dX10_goBack_7 rfl) ?_
  refine zcons (s_dup hx hb dX10_goBack_8) ?_
  refine zcons (s_getI hx hb hts hown hK zcX10 hinX10 31 (by decide) w734 rfl (zptk (by decide) (by decide +kernel)) dX10_goBack_9) ?_
  refine zcons (s_iconst hx hb 1 dX10_goBack_12 (by decide)) ?_
  refine zcons (s_isub hx hb dX10_goBack_13) ?_
  refine zcons (s_put (hZ := fun _ h => h) hx hb hts hown hK zcX10 hinX10 tyX10 tyX10_ok nmX10 31 (by decide) w734 rfl rfl (zptk (by decide) (by decide +kernel)) (by decide +kernel) dX10_goBack_14) ?_
  refine zcons (s_aload_n hx hb 0 dX10_goBack_17 rfl) ?_
  refine zcons (s_aload_n hx hb 0 dX10_goBack_18 rfl) ?_
  refine zcons (s_getR hx hb hts hown hK zcX10 hinX10 35 (by decide) w738 rfl (fun _ => 40) (zptf (by decide) (by decide +kernel)) dX10_goBack_19) ?_
  refine zcons (s_aload_n hx hb 0 dX10_goBack_22 rfl) ?_
  refine zcons (s_getI hx hb hts hown hK zcX10 hinX10 31 (by decide) w734 rfl (zptk (by decide) (by decide +kernel)) dX10_goBack_23) ?_
  refine zcons (s_iald hx hb hK dX10_goBack_26) ?_
  refine zcons (s_callV (hZ := fun _ h => h) hx hb hts hml hown hK hro zcX10 (kX10_isAsked l X) (zgoodV w923 w925 w36 w54 w926) rfl rfl rfl (by decide +kernel) ⟨Nat.le_of_ble_eq_true rfl, Nat.le_of_ble_eq_true rfl⟩ dX10_goBack_27) ?_
  refine zcons (s_if_ne hx hb 36 dX10_goBack_30 (by decide)) ?_
  refine zcons (s_goto hx hb 0 dX10_goBack_33 (by decide)) ?_
  refine zcons (s_aload_n hx hb 0 dX10_goBack_36 rfl) ?_
  refine zcons (s_aload_n hx hb 0 dX10_goBack_37 rfl) ?_
  refine zcons (s_getR hx hb hts hown hK zcX10 hinX10 35 (by decide) w738 rfl (fun _ => 40) (zptf (by decide) (by decide +kernel)) dX10_goBack_38) ?_
  refine zcons (s_aload_n hx hb 0 dX10_goBack_41 rfl) ?_
  refine zcons (s_getI hx hb hts hown hK zcX10 hinX10 31 (by decide) w734 rfl (zptk (by decide) (by decide +kernel)) dX10_goBack_42) ?_
  refine zcons (s_iald hx hb hK dX10_goBack_45) ?_
  refine zcons (s_put (hZ := fun _ h => h) hx hb hts hown hK zcX10 hinX10 tyX10 tyX10_ok nmX10 29 (by decide) w732 rfl rfl (zptk (by decide) (by decide +kernel)) (by decide +kernel) dX10_goBack_46) ?_
  refine zcons (s_iconst hx hb 5 dX10_goBack_49 (by decide)) ?_
  refine zcons (s_iret hx hb hr hK hlk dX10_goBack_50) ?_
  refine zcons (s_bipush hx hb 6 dX10_goBack_51 (by decide)) ?_
  refine zcons (s_iret hx hb hr hK hlk dX10_goBack_53) ?_
  exact znil
noncomputable def tX10_skip : List (Nat × AI) := [(0, a_aload 1 0), (1, a_getI 4 9 29), (4, a_if_ge 7 10), (7, a_push 9 (.inl 6)), (9, a_iret), (10, a_aload 11 0), (11, a_getR 14 9 (fun _ => 30)), (14, a_aload 15 0), (15, a_getI 18 9 29), (18, a_push 19 (.inl 1)), (19, a_zst 20), (20, a_aload 21 0), (21, a_aload 22 0), (22, a_aload 23 0), (23, a_getI 26 9 29), (26, a_callV 29 1 9 mX10_nextBehind), (29, a_callV 32 1 9 mX10_comesNow), (32, a_push 33 (.inl 5)), (33, a_iret)]
noncomputable def mX10_skip : List AV → MM → Option AR := zsem tX10_skip 1 1
def wX10_skip : List Cond := .code yX10_skip cX10_skip 1 (some .int) :: lw_g
def rX10_skip : Room := { frames := 3, cells := 0, slots := 0, locals := 65 }
set_option maxHeartbeats 4000000 in
set_option maxRecDepth 100000 in
theorem kX10_skip (l : Launch) (X : XC) : zM l X yX10_skip wX10_skip rX10_skip mX10_skip := by
  refine zMet tX10_skip 1 (by decide) rfl (by decide) ?_
  intro p e s m args below meth c res hC
  obtain ⟨hx, hb, hr, hts0, hown, hml, hlk, hK⟩ := hC
  have hts : ∀ w ∈ lw_g, w.before args s = true := fun w h => hts0 w (List.mem_cons_of_mem _ h)
  have hro : 0 ≤ (headSpec wX10_skip rX10_skip).room.cells ∧ 0 ≤ (headSpec wX10_skip rX10_skip).room.slots := ⟨Nat.zero_le _, Nat.zero_le _⟩
  refine zcons (s_aload_n hx hb 0 dX10_skip_0 rfl) ?_
  refine zcons (s_getI hx hb hts hown hK zcX10 hinX10 29 (by decide) w732 rfl (zptk (by decide) (by decide +kernel)) dX10_skip_1) ?_
  refine zcons (s_if_ge hx hb 10 dX10_skip_4 (by decide)) ?_
  refine zcons (s_bipush hx hb 6 dX10_skip_7 (by decide)) ?_
  refine zcons (s_iret hx hb hr hK hlk dX10_skip_9) ?_
  refine zcons (s_aload_n hx hb 0 dX10_skip_10 rfl) ?_
  refine zcons (s_getR hx hb hts hown hK zcX10 hinX10 11 (by decide) w714 rfl (fun _ => 30) (zptf (by decide) (by decide +kernel)) dX10_skip_11) ?_
  refine zcons (s_aload_n hx hb 0 dX10_skip_14 rfl) ?_
  refine zcons (s_getI hx hb hts hown hK zcX10 hinX10 29 (by decide) w732 rfl (zptk (by decide) (by decide +kernel)) dX10_skip_15) ?_
  refine zcons (s_iconst hx hb 1 dX10_skip_18 (by decide)) ?_
  refine zcons (s_zast (hZ := fun _ h => h) hx hb hK dX10_skip_19) ?_
  refine zcons (s_aload_n hx hb 0 dX10_skip_20 rfl) ?_
  refine zcons (s_aload_n hx hb 0 dX10_skip_21 rfl) ?_
  refine zcons (s_aload_n hx hb 0 dX10_skip_22 rfl) ?_
  refine zcons (s_getI hx hb hts hown hK zcX10 hinX10 29 (by decide) w732 rfl (zptk (by decide) (by decide +kernel)) dX10_skip_23) ?_
  refine zcons (s_callV (hZ := fun _ h => h) hx hb hts hml hown hK hro zcX10 (kX10_nextBehind l X) (zgoodV w927 w929 w37 w54 w930) rfl rfl rfl (by decide +kernel) ⟨Nat.le_of_ble_eq_true rfl, Nat.le_of_ble_eq_true rfl⟩ dX10_skip_26) ?_
  refine zcons (s_callV (hZ := fun _ h => h) hx hb hts hml hown hK hro zcX10 (kX10_comesNow l X) (zgoodV w935 w937 w39 w54 w938) rfl rfl rfl (by decide +kernel) ⟨Nat.le_of_ble_eq_true rfl, Nat.le_of_ble_eq_true rfl⟩ dX10_skip_29) ?_
  refine zcons (s_iconst hx hb 5 dX10_skip_32 (by decide)) ?_
  refine zcons (s_iret hx hb hr hK hlk dX10_skip_33) ?_
  exact znil
noncomputable def tX10_go : List (Nat × AI) := [(0, a_aload 1 0), (1, a_iload 2 1), (2, a_callV 5 1 9 mX10_isAsked), (5, a_if_ne 8 11), (8, a_push 10 (.inl 6)), (10, a_iret), (11, a_aload 12 0), (12, a_getR 15 9 (fun _ => 30)), (15, a_iload 16 1), (16, a_push 17 (.inl 0)), (17, a_zst 18), (18, a_aload 19 0), (19, a_iload 20 1), (20, a_callV 23 1 9 mX10_comesNow), (23, a_push 24 (.inl 5)), (24, a_iret)]
noncomputable def mX10_go : List AV → MM → Option AR := zsem tX10_go 2 2
def wX10_go : List Cond := .code yX10_go cX10_go 2 (some .int) :: lw_g
def rX10_go : Room := { frames := 1, cells := 0, slots := 0, locals := 22 }
set_option maxHeartbeats 4000000 in
set_option maxRecDepth 100000 in
theorem kX10_go (l : Launch) (X : XC) : zM l X yX10_go wX10_go rX10_go mX10_go := by
  refine zMet tX10_go 2 (by decide) rfl (by decide) ?_
  intro p e s m args below meth c res hC
  obtain ⟨hx, hb, hr, hts0, hown, hml, hlk, hK⟩ := hC
  have hts : ∀ w ∈ lw_g, w.before args s = true := fun w h => hts0 w (List.mem_cons_of_mem _ h)
  have hro : 0 ≤ (headSpec wX10_go rX10_go).room.cells ∧ 0 ≤ (headSpec wX10_go rX10_go).room.slots := ⟨Nat.zero_le _, Nat.zero_le _⟩
  refine zcons (s_aload_n hx hb 0 dX10_go_0 rfl) ?_
  refine zcons (s_iload_n hx hb 1 dX10_go_1 rfl) ?_
  refine zcons (s_callV (hZ := fun _ h => h) hx hb hts hml hown hK hro zcX10 (kX10_isAsked l X) (zgoodV w923 w925 w36 w54 w926) rfl rfl rfl (by decide +kernel) ⟨Nat.le_of_ble_eq_true rfl, Nat.le_of_ble_eq_true rfl⟩ dX10_go_2) ?_
  refine zcons (s_if_ne hx hb 11 dX10_go_5 (by decide)) ?_
  refine zcons (s_bipush hx hb 6 dX10_go_8 (by decide)) ?_
  refine zcons (s_iret hx hb hr hK hlk dX10_go_10) ?_
  refine zcons (s_aload_n hx hb 0 dX10_go_11 rfl) ?_
  refine zcons (s_getR hx hb hts hown hK zcX10 hinX10 11 (by decide) w714 rfl (fun _ => 30) (zptf (by decide) (by decide +kernel)) dX10_go_12) ?_
  refine zcons (s_iload_n hx hb 1 dX10_go_15 rfl) ?_
  refine zcons (s_iconst hx hb 0 dX10_go_16 (by decide)) ?_
  refine zcons (s_zast (hZ := fun _ h => h) hx hb hK dX10_go_17) ?_
  refine zcons (s_aload_n hx hb 0 dX10_go_18 rfl) ?_
  refine zcons (s_iload_n hx hb 1 dX10_go_19 rfl) ?_
  refine zcons (s_callV (hZ := fun _ h => h) hx hb hts hml hown hK hro zcX10 (kX10_comesNow l X) (zgoodV w935 w937 w39 w54 w938) rfl rfl rfl (by decide +kernel) ⟨Nat.le_of_ble_eq_true rfl, Nat.le_of_ble_eq_true rfl⟩ dX10_go_20) ?_
  refine zcons (s_iconst hx hb 5 dX10_go_23 (by decide)) ?_
  refine zcons (s_iret hx hb hr hK hlk dX10_go_24) ?_
  exact znil
noncomputable def tX10_take : List (Nat × AI) := [(0, a_iload 1 1), (1, a_switch [(0, 52), (1, 72), (2, 77), (3, 82), (4, 84), (5, 97), (6, 97), (7, 91), (8, 62)] 97), (52, a_aload 53 0), (53, a_aload 54 0), (54, a_getI 57 9 29), (57, a_iload 58 2), (58, a_callV 61 2 9 mX10_answered), (61, a_iret), (62, a_aload 63 0), (63, a_aload 64 0), (64, a_getI 67 9 30), (67, a_iload 68 2), (68, a_callV 71 2 9 mX10_answered), (71, a_iret), (72, a_aload 73 0), (73, a_callV 76 0 9 mX10_goBack), (76, a_iret), (77, a_aload 78 0), (78, a_callV 81 0 9 mX10_skip), (81, a_iret), (82, a_push 83 (.inl 5)), (83, a_iret), (84, a_aload 85 0), (85, a_push 86 (.inl 1)), (86, a_putZ 89 9 27), (89, a_push 90 (.inl 5)), (90, a_iret), (91, a_aload 92 0), (92, a_iload 93 2), (93, a_callV 96 1 9 mX10_go), (96, a_iret), (97, a_push 99 (.inl 6)), (99, a_iret)]
noncomputable def mX10_take : List AV → MM → Option AR := zsem tX10_take 3 3
def wX10_take : List Cond := .code yX10_take cX10_take 3 (some .int) :: lw_g
def rX10_take : Room := { frames := 5, cells := 0, slots := 0, locals := 111 }
set_option maxHeartbeats 4000000 in
set_option maxRecDepth 100000 in
theorem kX10_take (l : Launch) (X : XC) : zM l X yX10_take wX10_take rX10_take mX10_take := by
  refine zMet tX10_take 3 (by decide) rfl (by decide) ?_
  intro p e s m args below meth c res hC
  obtain ⟨hx, hb, hr, hts0, hown, hml, hlk, hK⟩ := hC
  have hts : ∀ w ∈ lw_g, w.before args s = true := fun w h => hts0 w (List.mem_cons_of_mem _ h)
  have hro : 0 ≤ (headSpec wX10_take rX10_take).room.cells ∧ 0 ≤ (headSpec wX10_take rX10_take).room.slots := ⟨Nat.zero_le _, Nat.zero_le _⟩
  refine zcons (s_iload_n hx hb 1 dX10_take_0 rfl) ?_
  refine zcons (s_switchD hx hb [(0, 52), (1, 72), (2, 77), (3, 82), (4, 84), (5, 97), (6, 97), (7, 91), (8, 62)] 97 dX10_take_1 (by decide +kernel) (by decide)) ?_
  refine zcons (s_aload_n hx hb 0 dX10_take_52 rfl) ?_
  refine zcons (s_aload_n hx hb 0 dX10_take_53 rfl) ?_
  refine zcons (s_getI hx hb hts hown hK zcX10 hinX10 29 (by decide) w732 rfl (zptk (by decide) (by decide +kernel)) dX10_take_54) ?_
  refine zcons (s_iload_n hx hb 2 dX10_take_57 rfl) ?_
  refine zcons (s_callV (hZ := fun _ h => h) hx hb hts hml hown hK hro zcX10 (kX10_answered l X) (zgoodV w915 w917 w34 w54 w918) rfl rfl rfl (by decide +kernel) ⟨Nat.le_of_ble_eq_true rfl, Nat.le_of_ble_eq_true rfl⟩ dX10_take_58) ?_
  refine zcons (s_iret hx hb hr hK hlk dX10_take_61) ?_
  refine zcons (s_aload_n hx hb 0 dX10_take_62 rfl) ?_
  refine zcons (s_aload_n hx hb 0 dX10_take_63 rfl) ?_
  refine zcons (s_getI hx hb hts hown hK zcX10 hinX10 30 (by decide) w733 rfl (zptk (by decide) (by decide +kernel)) dX10_take_64) ?_
  refine zcons (s_iload_n hx hb 2 dX10_take_67 rfl) ?_
  refine zcons (s_callV (hZ := fun _ h => h) hx hb hts hml hown hK hro zcX10 (kX10_answered l X) (zgoodV w915 w917 w34 w54 w918) rfl rfl rfl (by decide +kernel) ⟨Nat.le_of_ble_eq_true rfl, Nat.le_of_ble_eq_true rfl⟩ dX10_take_68) ?_
  refine zcons (s_iret hx hb hr hK hlk dX10_take_71) ?_
  refine zcons (s_aload_n hx hb 0 dX10_take_72 rfl) ?_
  refine zcons (s_callV (hZ := fun _ h => h) hx hb hts hml hown hK hro zcX10 (kX10_goBack l X) (zgoodV w939 w941 w40 w54 w942) rfl rfl rfl (by decide +kernel) ⟨Nat.le_of_ble_eq_true rfl, Nat.le_of_ble_eq_true rfl⟩ dX10_take_73) ?_
  refine zcons (s_iret hx hb hr hK hlk dX10_take_76) ?_
  refine zcons (s_aload_n hx hb 0 dX10_take_77 rfl) ?_
  refine zcons (s_callV (hZ := fun _ h => h) hx hb hts hml hown hK hro zcX10 (kX10_skip l X) (zgoodV w943 w945 w41 w54 w946) rfl rfl rfl (by decide +kernel) ⟨Nat.le_of_ble_eq_true rfl, Nat.le_of_ble_eq_true rfl⟩ dX10_take_78) ?_
  refine zcons (s_iret hx hb hr hK hlk dX10_take_81) ?_
  refine zcons (s_iconst hx hb 5 dX10_take_82 (by decide)) ?_
  refine zcons (s_iret hx hb hr hK hlk dX10_take_83) ?_
  refine zcons (s_aload_n hx hb 0 dX10_take_84 rfl) ?_
  refine zcons (s_iconst hx hb 1 dX10_take_85 (by decide)) ?_
  refine zcons (s_putZ (hZ := fun _ h => h) hx hb hts hown hK zcX10 hinX10 tyX10 tyX10_ok nmX10 27 (by decide) w730 rfl rfl (zptk (by decide) (by decide +kernel)) (by decide +kernel) dX10_take_86) ?_
  refine zcons (s_iconst hx hb 5 dX10_take_89 (by decide)) ?_
  refine zcons (s_iret hx hb hr hK hlk dX10_take_90) ?_
  refine zcons (s_aload_n hx hb 0 dX10_take_91 rfl) ?_
  refine zcons (s_iload_n hx hb 2 dX10_take_92 rfl) ?_
  refine zcons (s_callV (hZ := fun _ h => h) hx hb hts hml hown hK hro zcX10 (kX10_go l X) (zgoodV w947 w949 w42 w54 w950) rfl rfl rfl (by decide +kernel) ⟨Nat.le_of_ble_eq_true rfl, Nat.le_of_ble_eq_true rfl⟩ dX10_take_93) ?_
  refine zcons (s_iret hx hb hr hK hlk dX10_take_96) ?_
  refine zcons (s_bipush hx hb 6 dX10_take_97 (by decide)) ?_
  refine zcons (s_iret hx hb hr hK hlk dX10_take_99) ?_
  exact znil
noncomputable def tX10_act : List (Nat × AI) := [(0, a_aload 1 0), (1, a_getI 4 9 32), (4, a_istore 5 1), (5, a_aload 6 0), (6, a_getR 9 9 (fun _ => 35)), (9, a_push 10 (.inl 0)), (10, a_ald 11 10), (11, a_istore 12 2), (12, a_aload 13 0), (13, a_push 14 (.inl 0)), (14, a_put 17 9 32), (17, a_aload 18 0), (18, a_getR 21 9 (fun _ => 37)), (21, a_push 22 (.inl 1)), (22, a_ald 23 10), (23, a_push 25 (.inl 1000000)), (25, a_c_ge 28 92), (28, a_aload 29 0), (29, a_getR 32 9 (fun _ => 37)), (32, a_push 33 (.inl 1)), (33, a_ald 34 10), (34, a_aload 35 0), (35, a_getR 38 9 (fun _ => 37)), (38, a_push 39 (.inl 0)), (39, a_ald 40 10), (40, a_aload 41 0), (41, a_getI 44 9 14), (44, a_bin 45 (fun x y => x + y)), (45, a_c_ge 48 92), (48, a_aload 49 0), (49, a_push 50 (.inl 2)), (50, a_put 53 9 32), (53, a_push 54 (.inl 0)), (54, a_istore 55 3), (55, a_iload 56 3), (56, a_push 57 (.inl 2)), (57, a_c_ge 60 90), (60, a_aload 61 0), (61, a_getR 64 9 (fun _ => 41)), (64, a_iload 65 3), (65, a_aload 66 0), (66, a_getR 69 9 (fun _ => 35)), (69, a_iload 70 3), (70, a_ald 71 10), (71, a_ast 72), (72, a_aload 73 0), (73, a_getR 76 9 (fun _ => 42)), (76, a_iload 77 3), (77, a_aload 78 0), (78, a_getR 81 9 (fun _ => 36)), (81, a_iload 82 3), (82, a_ald 83 10), (83, a_ast 84), (84, a_iinc 87 3 1), (87, a_goto 55), (90, a_push 91 (.inl 2)), (91, a_iret), (92, a_iload 93 1), (93, a_push 94 (.inl 2)), (94, a_c_ne 97 143), (97, a_iload 98 2), (98, a_push 99 (.inl 5)), (99, a_c_eq 102 108), (102, a_iload 103 2), (103, a_push 105 (.inl 6)), (105, a_c_ne 108 143), (108, a_aload 109 0), (109, a_aload 110 0), (110, a_getR 113 9 (fun _ => 41)), (113, a_iload 114 2), (114, a_push 115 (.inl 5)), (115, a_c_ne 118 122), (118, a_push 119 (.inl 0)), (119, a_goto 123), (122, a_push 123 (.inl 1)), (123, a_ald 124 10), (124, a_aload 125 0), (125, a_getR 128 9 (fun _ => 42)), (128, a_iload 129 2), (129, a_push 130 (.inl 5)), (130, a_c_ne 133 137), (133, a_push 134 (.inl 0)), (134, a_goto 138), (137, a_push 138 (.inl 1)), (138, a_ald 139 10), (139, a_callV 142 2 9 mX10_take), (142, a_iret), (143, a_iload 144 1), (144, a_push 145 (.inl 1)), (145, a_c_ne 148 167), (148, a_iload 149 2), (149, a_push 150 (.inl 5)), (150, a_c_ne 153 167), (153, a_aload 154 0), (154, a_aload 155 0), (155, a_getI 158 9 36), (158, a_aload 159 0), (159, a_getI 162 9 37), (162, a_push 163 (.inl 1)), (163, a_callV 166 3 9 mX10_keep), (166, a_iret), (167, a_iload 168 1), (168, a_push 169 (.inl 1)), (169, a_c_ne 172 180), (172, a_iload 173 2), (173, a_push 175 (.inl 6)), (175, a_c_ne 178 180), (178, a_push 179 (.inl 5)), (179, a_iret), (180, a_aload 181 0), (181, a_iload 182 2), (182, a_aload 183 0), (183, a_getR 186 9 (fun _ => 36)), (186, a_push 187 (.inl 0)), (187, a_ald 188 10), (188, a_callV 191 2 9 mX10_take), (191, a_iret)]
noncomputable def mX10_act : List AV → MM → Option AR := zsem tX10_act 4 1
def wX10_act : List Cond := .code yX10_act cX10_act 4 (some .int) :: lw_g
def rX10_act : Room := { frames := 6, cells := 0, slots := 0, locals := 133 }
set_option maxHeartbeats 4000000 in
set_option maxRecDepth 100000 in
theorem kX10_act (l : Launch) (X : XC) : zM l X yX10_act wX10_act rX10_act mX10_act := by
  refine zMet tX10_act 1 (by decide) rfl (by decide) ?_
  intro p e s m args below meth c res hC
  obtain ⟨hx, hb, hr, hts0, hown, hml, hlk, hK⟩ := hC
  have hts : ∀ w ∈ lw_g, w.before args s = true := fun w h => hts0 w (List.mem_cons_of_mem _ h)
  have hro : 0 ≤ (headSpec wX10_act rX10_act).room.cells ∧ 0 ≤ (headSpec wX10_act rX10_act).room.slots := ⟨Nat.zero_le _, Nat.zero_le _⟩
  refine zcons (s_aload_n hx hb 0 dX10_act_0 rfl) ?_
  refine zcons (s_getI hx hb hts hown hK zcX10 hinX10 32 (by decide) w735 rfl (zptk (by decide) (by decide +kernel)) dX10_act_1) ?_
  refine zcons (s_istore_n hx hb 1 dX10_act_4 rfl) ?_
  refine zcons (s_aload_n hx hb 0 dX10_act_5 rfl) ?_
  refine zcons (s_getR hx hb hts hown hK zcX10 hinX10 20 (by decide) w723 rfl (fun _ => 35) (zptf (by decide) (by decide +kernel)) dX10_act_6) ?_
  refine zcons (s_iconst hx hb 0 dX10_act_9 (by decide)) ?_
  refine zcons (s_iald hx hb hK dX10_act_10) ?_
  refine zcons (s_istore_n hx hb 2 dX10_act_11 rfl) ?_
  refine zcons (s_aload_n hx hb 0 dX10_act_12 rfl) ?_
  refine zcons (s_iconst hx hb 0 dX10_act_13 (by decide)) ?_
  refine zcons (s_put (hZ := fun _ h => h) hx hb hts hown hK zcX10 hinX10 tyX10 tyX10_ok nmX10 32 (by decide) w735 rfl rfl (zptk (by decide) (by decide +kernel)) (by decide +kernel) dX10_act_14) ?_
  refine zcons (s_aload_n hx hb 0 dX10_act_17 rfl) ?_
  refine zcons (s_getR hx hb hts hown hK zcX10 hinX10 22 (by decide) w725 rfl (fun _ => 37) (zptf (by decide) (by decide +kernel)) dX10_act_18) ?_
  refine zcons (s_iconst hx hb 1 dX10_act_21 (by decide)) ?_
  refine zcons (s_iald hx hb hK dX10_act_22) ?_
  refine zcons (s_ldc hx hb 1000000 hown (hts _ w875) dX10_act_23) ?_
  refine zcons (s_c_ge hx hb 92 dX10_act_25 (by decide)) ?_
  refine zcons (s_aload_n hx hb 0 dX10_act_28 rfl) ?_
  refine zcons (s_getR hx hb hts hown hK zcX10 hinX10 22 (by decide) w725 rfl (fun _ => 37) (zptf (by decide) (by decide +kernel)) dX10_act_29) ?_
  refine zcons (s_iconst hx hb 1 dX10_act_32 (by decide)) ?_
  refine zcons (s_iald hx hb hK dX10_act_33) ?_
  refine zcons (s_aload_n hx hb 0 dX10_act_34 rfl) ?_
  refine zcons (s_getR hx hb hts hown hK zcX10 hinX10 22 (by decide) w725 rfl (fun _ => 37) (zptf (by decide) (by decide +kernel)) dX10_act_35) ?_
  refine zcons (s_iconst hx hb 0 dX10_act_38 (by decide)) ?_
  refine zcons (s_iald hx hb hK dX10_act_39) ?_
  refine zcons (s_aload_n hx hb 0 dX10_act_40 rfl) ?_
  refine zcons (s_getI hx hb hts hown hK zcX10 hinX10 14 (by decide) w717 rfl (zptk (by decide) (by decide +kernel)) dX10_act_41) ?_
  refine zcons (s_iadd hx hb dX10_act_44) ?_
  refine zcons (s_c_ge hx hb 92 dX10_act_45 (by decide)) ?_
  refine zcons (s_aload_n hx hb 0 dX10_act_48 rfl) ?_
  refine zcons (s_iconst hx hb 2 dX10_act_49 (by decide)) ?_
  refine zcons (s_put (hZ := fun _ h => h) hx hb hts hown hK zcX10 hinX10 tyX10 tyX10_ok nmX10 32 (by decide) w735 rfl rfl (zptk (by decide) (by decide +kernel)) (by decide +kernel) dX10_act_50) ?_
  refine zcons (s_iconst hx hb 0 dX10_act_53 (by decide)) ?_
  refine zcons (s_istore_n hx hb 3 dX10_act_54 rfl) ?_
  refine zcons (s_iload_n hx hb 3 dX10_act_55 rfl) ?_
  refine zcons (s_iconst hx hb 2 dX10_act_56 (by decide)) ?_
  refine zcons (s_c_ge hx hb 90 dX10_act_57 (by decide)) ?_
  refine zcons (s_aload_n hx hb 0 dX10_act_60 rfl) ?_
  refine zcons (s_getR hx hb hts hown hK zcX10 hinX10 38 (by decide) w741 rfl (fun _ => 41) (zptf (by decide) (by decide +kernel)) dX10_act_61) ?_
  refine zcons (s_iload_n hx hb 3 dX10_act_64 rfl) ?_
  refine zcons (s_aload_n hx hb 0 dX10_act_65 rfl) ?_
  refine zcons (s_getR hx hb hts hown hK zcX10 hinX10 20 (by decide) w723 rfl (fun _ => 35) (zptf (by decide) (by decide +kernel)) dX10_act_66) ?_
  refine zcons (s_iload_n hx hb 3 dX10_act_69 rfl) ?_
  refine zcons (s_iald hx hb hK dX10_act_70) ?_
  refine zcons (s_iast (hZ := fun _ h => h) hx hb hK dX10_act_71) ?_
  refine zcons (s_aload_n hx hb 0 dX10_act_72 rfl) ?_
  refine zcons (s_getR hx hb hts hown hK zcX10 hinX10 39 (by decide) w742 rfl (fun _ => 42) (zptf (by decide) (by decide +kernel)) dX10_act_73) ?_
  refine zcons (s_iload_n hx hb 3 dX10_act_76 rfl) ?_
  refine zcons (s_aload_n hx hb 0 dX10_act_77 rfl) ?_
  refine zcons (s_getR hx hb hts hown hK zcX10 hinX10 21 (by decide) w724 rfl (fun _ => 36) (zptf (by decide) (by decide +kernel)) dX10_act_78) ?_
  refine zcons (s_iload_n hx hb 3 dX10_act_81 rfl) ?_
  refine zcons (s_iald hx hb hK dX10_act_82) ?_
  refine zcons (s_iast (hZ := fun _ h => h) hx hb hK dX10_act_83) ?_
  refine zcons (s_iinc hx hb 1 dX10_act_84 (by decide)) ?_
  refine zcons (s_goto hx hb 55 dX10_act_87 (by decide)) ?_
  refine zcons (s_iconst hx hb 2 dX10_act_90 (by decide)) ?_
  refine zcons (s_iret hx hb hr hK hlk dX10_act_91) ?_
  refine zcons (s_iload_n hx hb 1 dX10_act_92 rfl) ?_
  refine zcons (s_iconst hx hb 2 dX10_act_93 (by decide)) ?_
  refine zcons (s_c_ne hx hb 143 dX10_act_94 (by decide)) ?_
  refine zcons (s_iload_n hx hb 2 dX10_act_97 rfl) ?_
  refine zcons (s_iconst hx hb 5 dX10_act_98 (by decide)) ?_
  refine zcons (s_c_eq hx hb 108 dX10_act_99 (by decide)) ?_
  refine zcons (s_iload_n hx hb 2 dX10_act_102 rfl) ?_
  refine zcons (s_bipush hx hb 6 dX10_act_103 (by decide)) ?_
  refine zcons (s_c_ne hx hb 143 dX10_act_105 (by decide)) ?_
  refine zcons (s_aload_n hx hb 0 dX10_act_108 rfl) ?_
  refine zcons (s_aload_n hx hb 0 dX10_act_109 rfl) ?_
  refine zcons (s_getR hx hb hts hown hK zcX10 hinX10 38 (by decide) w741 rfl (fun _ => 41) (zptf (by decide) (by decide +kernel)) dX10_act_110) ?_
  refine zcons (s_iload_n hx hb 2 dX10_act_113 rfl) ?_
  refine zcons (s_iconst hx hb 5 dX10_act_114 (by decide)) ?_
  refine zcons (s_c_ne hx hb 122 dX10_act_115 (by decide)) ?_
  refine zcons (s_iconst hx hb 0 dX10_act_118 (by decide)) ?_
  refine zcons (s_goto hx hb 123 dX10_act_119 (by decide)) ?_
  refine zcons (s_iconst hx hb 1 dX10_act_122 (by decide)) ?_
  refine zcons (s_iald hx hb hK dX10_act_123) ?_
  refine zcons (s_aload_n hx hb 0 dX10_act_124 rfl) ?_
  refine zcons (s_getR hx hb hts hown hK zcX10 hinX10 39 (by decide) w742 rfl (fun _ => 42) (zptf (by decide) (by decide +kernel)) dX10_act_125) ?_
  refine zcons (s_iload_n hx hb 2 dX10_act_128 rfl) ?_
  refine zcons (s_iconst hx hb 5 dX10_act_129 (by decide)) ?_
  refine zcons (s_c_ne hx hb 137 dX10_act_130 (by decide)) ?_
  refine zcons (s_iconst hx hb 0 dX10_act_133 (by decide)) ?_
  refine zcons (s_goto hx hb 138 dX10_act_134 (by decide)) ?_
  refine zcons (s_iconst hx hb 1 dX10_act_137 (by decide)) ?_
  refine zcons (s_iald hx hb hK dX10_act_138) ?_
  refine zcons (s_callV (hZ := fun _ h => h) hx hb hts hml hown hK hro zcX10 (kX10_take l X) (zgoodV w911 w913 w33 w54 w914) rfl rfl rfl (by decide +kernel) ⟨Nat.le_of_ble_eq_true rfl, Nat.le_of_ble_eq_true rfl⟩ dX10_act_139) ?_
  refine zcons (s_iret hx hb hr hK hlk dX10_act_142) ?_
  refine zcons (s_iload_n hx hb 1 dX10_act_143 rfl) ?_
  refine zcons (s_iconst hx hb 1 dX10_act_144 (by decide)) ?_
  refine zcons (s_c_ne hx hb 167 dX10_act_145 (by decide)) ?_
  refine zcons (s_iload_n hx hb 2 dX10_act_148 rfl) ?_
  refine zcons (s_iconst hx hb 5 dX10_act_149 (by decide)) ?_
  refine zcons (s_c_ne hx hb 167 dX10_act_150 (by decide)) ?_
  refine zcons (s_aload_n hx hb 0 dX10_act_153 rfl) ?_
  refine zcons (s_aload_n hx hb 0 dX10_act_154 rfl) ?_
  refine zcons (s_getI hx hb hts hown hK zcX10 hinX10 36 (by decide) w739 rfl (zptk (by decide) (by decide +kernel)) dX10_act_155) ?_
  refine zcons (s_aload_n hx hb 0 dX10_act_158 rfl) ?_
  refine zcons (s_getI hx hb hts hown hK zcX10 hinX10 37 (by decide) w740 rfl (zptk (by decide) (by decide +kernel)) dX10_act_159) ?_
  refine zcons (s_iconst hx hb 1 dX10_act_162 (by decide)) ?_
  refine zcons (s_callV (hZ := fun _ h => h) hx hb hts hml hown hK hro zcX10 (kX10_keep l X) (zgoodV w919 w921 w35 w54 w922) rfl rfl rfl (by decide +kernel) ⟨Nat.le_of_ble_eq_true rfl, Nat.le_of_ble_eq_true rfl⟩ dX10_act_163) ?_
  refine zcons (s_iret hx hb hr hK hlk dX10_act_166) ?_
  refine zcons (s_iload_n hx hb 1 dX10_act_167 rfl) ?_
  refine zcons (s_iconst hx hb 1 dX10_act_168 (by decide)) ?_
  refine zcons (s_c_ne hx hb 180 dX10_act_169 (by decide)) ?_
  refine zcons (s_iload_n hx hb 2 dX10_act_172 rfl) ?_
  refine zcons (s_bipush hx hb 6 dX10_act_173 (by decide)) ?_
  refine zcons (s_c_ne hx hb 180 dX10_act_175 (by decide)) ?_
  refine zcons (s_iconst hx hb 5 dX10_act_178 (by decide)) ?_
  refine zcons (s_iret hx hb hr hK hlk dX10_act_179) ?_
  refine zcons (s_aload_n hx hb 0 dX10_act_180 rfl) ?_
  refine zcons (s_iload_n hx hb 2 dX10_act_181 rfl) ?_
  refine zcons (s_aload_n hx hb 0 dX10_act_182 rfl) ?_
  refine zcons (s_getR hx hb hts hown hK zcX10 hinX10 21 (by decide) w724 rfl (fun _ => 36) (zptf (by decide) (by decide +kernel)) dX10_act_183) ?_
  refine zcons (s_iconst hx hb 0 dX10_act_186 (by decide)) ?_
  refine zcons (s_iald hx hb hK dX10_act_187) ?_
  refine zcons (s_callV (hZ := fun _ h => h) hx hb hts hml hown hK hro zcX10 (kX10_take l X) (zgoodV w911 w913 w33 w54 w914) rfl rfl rfl (by decide +kernel) ⟨Nat.le_of_ble_eq_true rfl, Nat.le_of_ble_eq_true rfl⟩ dX10_act_188) ?_
  refine zcons (s_iret hx hb hr hK hlk dX10_act_191) ?_
  exact znil
noncomputable def tX10_unlike : List (Nat × AI) := [(0, a_push 1 (.inl 0)), (1, a_istore 2 1), (2, a_aload 3 0), (3, a_getR 6 9 (fun _ => 36)), (6, a_push 7 (.inl 0)), (7, a_ald 8 10), (8, a_istore 9 2), (9, a_aload 10 0), (10, a_getR 13 9 (fun _ => 36)), (13, a_push 14 (.inl 1)), (14, a_ald 15 10), (15, a_istore 16 3), (16, a_aload 17 0), (17, a_getR 20 9 (fun _ => 21)), (20, a_aload 21 0), (21, a_getI 24 9 29), (24, a_ald 25 10), (25, a_push 26 (.inl 1)), (26, a_bin 27 (fun x y => x - y)), (27, a_istore 29 4), (29, a_iload 31 4), (31, a_if_lt 34 68), (34, a_iload 35 2), (35, a_push 37 (.inl 10)), (37, a_rem 38), (38, a_iload 39 3), (39, a_push 41 (.inl 10)), (41, a_rem 42), (42, a_c_eq 45 52), (45, a_iload 46 1), (46, a_push 47 (.inl 1)), (47, a_iload 49 4), (49, a_bin 50 (fun x y => x <<< (y &&& 31))), (50, a_bin 51 (fun x y => x ||| y)), (51, a_istore 52 1), (52, a_iload 53 2), (53, a_push 55 (.inl 10)), (55, a_div 56), (56, a_istore 57 2), (57, a_iload 58 3), (58, a_push 60 (.inl 10)), (60, a_div 61), (61, a_istore 62 3), (62, a_iinc 65 4 (-1)), (65, a_goto 29), (68, a_iload 69 1), (69, a_iret)]
noncomputable def mX10_unlike : List AV → MM → Option AR := zsem tX10_unlike 5 1
def wX10_unlike : List Cond := .code yX10_unlike cX10_unlike 5 (some .int) :: lw_g
def rX10_unlike : Room := { frames := 0, cells := 0, slots := 0, locals := 0 }
set_option maxHeartbeats 4000000 in
set_option maxRecDepth 100000 in
theorem kX10_unlike (l : Launch) (X : XC) : zM l X yX10_unlike wX10_unlike rX10_unlike mX10_unlike := by
  refine zMet tX10_unlike 1 (by decide) rfl (by decide) ?_
  intro p e s m args below meth c res hC
  obtain ⟨hx, hb, hr, hts0, hown, hml, hlk, hK⟩ := hC
  have hts : ∀ w ∈ lw_g, w.before args s = true := fun w h => hts0 w (List.mem_cons_of_mem _ h)
  have hro : 0 ≤ (headSpec wX10_unlike rX10_unlike).room.cells ∧ 0 ≤ (headSpec wX10_unlike rX10_unlike).room.slots := ⟨Nat.zero_le _, Nat.zero_le _⟩
  refine zcons (s_iconst hx hb 0 dX10_unlike_0 (by decide)) ?_
  refine zcons (s_istore_n hx hb 1 dX10_unlike_1 rfl) ?_
  refine zcons (s_aload_n hx hb 0 dX10_unlike_2 rfl) ?_
  refine zcons (s_getR hx hb hts hown hK zcX10 hinX10 21 (by decide) w724 rfl (fun _ => 36) (zptf (by decide) (by decide +kernel)) dX10_unlike_3) ?_
  refine zcons (s_iconst hx hb 0 dX10_unlike_6 (by decide)) ?_
  refine zcons (s_iald hx hb hK dX10_unlike_7) ?_
  refine zcons (s_istore_n hx hb 2 dX10_unlike_8 rfl) ?_
  refine zcons (s_aload_n hx hb 0 dX10_unlike_9 rfl) ?_
  refine zcons (s_getR hx hb hts hown hK zcX10 hinX10 21 (by decide) w724 rfl (fun _ => 36) (zptf (by decide) (by decide +kernel)) dX10_unlike_10) ?_
  refine zcons (s_iconst hx hb 1 dX10_unlike_13 (by decide)) ?_
  refine zcons (s_iald hx hb hK dX10_unlike_14) ?_
  refine zcons (s_istore_n hx hb 3 dX10_unlike_15 rfl) ?_
  refine zcons (s_aload_n hx hb 0 dX10_unlike_16 rfl) ?_
  refine zcons (s_getR hx hb hts hown hK zcX10 hinX10 2 (by decide) w705 rfl (fun _ => 21) (zptf (by decide) (by decide +kernel)) dX10_unlike_17) ?_
  refine zcons (s_aload_n hx hb 0 dX10_unlike_20 rfl) ?_
  refine zcons (s_getI hx hb hts hown hK zcX10 hinX10 29 (by decide) w732 rfl (zptk (by decide) (by decide +kernel)) dX10_unlike_21) ?_
  refine zcons (s_iald hx hb hK dX10_unlike_24) ?_
  refine zcons (s_iconst hx hb 1 dX10_unlike_25 (by decide)) ?_
  refine zcons (s_isub hx hb dX10_unlike_26) ?_
  refine zcons (s_istore hx hb dX10_unlike_27) ?_
  refine zcons (s_iload hx hb dX10_unlike_29) ?_
  refine zcons (s_if_lt hx hb 68 dX10_unlike_31 (by decide)) ?_
  refine zcons (s_iload_n hx hb 2 dX10_unlike_34 rfl) ?_
  refine zcons (s_bipush hx hb 10 dX10_unlike_35 (by decide)) ?_
  refine zcons (s_irem hx hb dX10_unlike_37) ?_
  refine zcons (s_iload_n hx hb 3 dX10_unlike_38 rfl) ?_
  refine zcons (s_bipush hx hb 10 dX10_unlike_39 (by decide)) ?_
  refine zcons (s_irem hx hb dX10_unlike_41) ?_
  refine zcons (s_c_eq hx hb 52 dX10_unlike_42 (by decide)) ?_
  refine zcons (s_iload_n hx hb 1 dX10_unlike_45 rfl) ?_
  refine zcons (s_iconst hx hb 1 dX10_unlike_46 (by decide)) ?_
  refine zcons (s_iload hx hb dX10_unlike_47) ?_
  refine zcons (s_ishl hx hb dX10_unlike_49) ?_
  refine zcons (s_ior hx hb dX10_unlike_50) ?_
  refine zcons (s_istore_n hx hb 1 dX10_unlike_51 rfl) ?_
  refine zcons (s_iload_n hx hb 2 dX10_unlike_52 rfl) ?_
  refine zcons (s_bipush hx hb 10 dX10_unlike_53 (by decide)) ?_
  refine zcons (s_idiv hx hb dX10_unlike_55) ?_
  refine zcons (s_istore_n hx hb 2 dX10_unlike_56 rfl) ?_
  refine zcons (s_iload_n hx hb 3 dX10_unlike_57 rfl) ?_
  refine zcons (s_bipush hx hb 10 dX10_unlike_58 (by decide)) ?_
  refine zcons (s_idiv hx hb dX10_unlike_60) ?_
  refine zcons (s_istore_n hx hb 3 dX10_unlike_61 rfl) ?_
  refine zcons (s_iinc hx hb (-1) dX10_unlike_62 (by decide)) ?_
  refine zcons (s_goto hx hb 29 dX10_unlike_65 (by decide)) ?_
  refine zcons (s_iload_n hx hb 1 dX10_unlike_68 rfl) ?_
  refine zcons (s_iret hx hb hr hK hlk dX10_unlike_69) ?_
  exact znil
noncomputable def tX10_say : List (Nat × AI) := [(0, a_aload 1 0), (1, a_push 2 (.inl 1)), (2, a_putZ 5 9 26), (5, a_aload 6 0), (6, a_push 7 (.inl 0)), (7, a_put 10 9 34), (10, a_push 11 (.inl 0)), (11, a_istore 12 1), (12, a_iload 13 1), (13, a_push 15 (.inl 9)), (15, a_c_ge 18 41), (18, a_aload 19 0), (19, a_getR 22 9 (fun _ => 43)), (22, a_iload 23 1), (23, a_iload 24 1), (24, a_push 26 (.inl 7)), (26, a_c_ge 29 33), (29, a_push 30 (.inl (-1))), (30, a_goto 34), (33, a_push 34 (.inl 0)), (34, a_ast 35), (35, a_iinc 38 1 1), (38, a_goto 12), (41, a_aload 42 0), (42, a_getI 45 9 16), (45, a_if_ne 48 59), (48, a_aload 49 0), (49, a_getI 52 9 27), (52, a_if_ne 55 59), (55, a_push 56 (.inl 0)), (56, a_goto 60), (59, a_push 60 (.inl 1)), (60, a_istore 61 1), (61, a_aload 62 0), (62, a_getI 65 9 16), (65, a_if_le 68 260), (68, a_aload 69 0), (69, a_getI 72 9 27), (72, a_if_ne 75 260), (75, a_aload 76 0), (76, a_callV 79 0 9 mX10_readAll), (79, a_aload 80 0), (80, a_getR 83 9 (fun _ => 37)), (83, a_push 84 (.inl 0)), (84, a_ald 85 10), (85, a_push 87 (.inl 1000000)), (87, a_c_ge 90 260), (90, a_aload 91 0), (91, a_getI 94 9 29), (94, a_if_lt 97 142), (97, a_aload 98 0), (98, a_getR 101 9 (fun _ => 21)), (101, a_aload 102 0), (102, a_getI 105 9 29), (105, a_ald 106 10), (106, a_if_le 109 142), (109, a_aload 110 0), (110, a_getR 113 9 (fun _ => 37)), (113, a_push 114 (.inl 1)), (114, a_ald 115 10), (115, a_push 117 (.inl 1000000)), (117, a_c_ge 120 142), (120, a_aload 121 0), (121, a_getR 124 9 (fun _ => 35)), (124, a_push 125 (.inl 0)), (125, a_ald 126 10), (126, a_if_ne 129 142), (129, a_aload 130 0), (130, a_getR 133 9 (fun _ => 35)), (133, a_push 134 (.inl 1)), (134, a_ald 135 10), (135, a_if_ne 138 142), (138, a_push 139 (.inl 1)), (139, a_goto 143), (142, a_push 143 (.inl 0)), (143, a_istore 144 2), (144, a_aload 145 0), (145, a_getR 148 9 (fun _ => 43)), (148, a_push 150 (.inl 8)), (150, a_iload 151 2), (151, a_if_eq 154 181), (154, a_aload 155 0), (155, a_getR 158 9 (fun _ => 37)), (158, a_push 159 (.inl 1)), (159, a_ald 160 10), (160, a_aload 161 0), (161, a_getR 164 9 (fun _ => 37)), (164, a_push 165 (.inl 0)), (165, a_ald 166 10), (166, a_aload 167 0), (167, a_getI 170 9 14), (170, a_bin 171 (fun x y => x + y)), (171, a_c_ge 174 181), (174, a_aload 175 0), (175, a_callV 178 0 9 mX10_unlike), (178, a_goto 182), (181, a_push 182 (.inl 0)), (182, a_ast 183), (183, a_push 184 (.inl 0)), (184, a_istore 185 3), (185, a_iload 186 3), (186, a_push 187 (.inl 2)), (187, a_c_ge 190 255), (190, a_aload 191 0), (191, a_getR 194 9 (fun _ => 37)), (194, a_iload 195 3), (195, a_ald 196 10), (196, a_push 198 (.inl 1000000)), (198, a_c_ge 201 255), (201, a_aload 202 0), (202, a_getR 205 9 (fun _ => 43)), (205, a_push 206 (.inl 3)), (206, a_iload 207 3), (207, a_bin 208 (fun x y => x * y)), (208, a_push 209 (.inl 1)), (209, a_bin 210 (fun x y => x + y)), (210, a_aload 211 0), (211, a_getR 214 9 (fun _ => 35)), (214, a_iload 215 3), (215, a_ald 216 10), (216, a_ast 217), (217, a_aload 218 0), (218, a_getR 221 9 (fun _ => 43)), (221, a_push 222 (.inl 3)), (222, a_iload 223 3), (223, a_bin 224 (fun x y => x * y)), (224, a_push 225 (.inl 2)), (225, a_bin 226 (fun x y => x + y)), (226, a_aload 227 0), (227, a_getR 230 9 (fun _ => 36)), (230, a_iload 231 3), (231, a_ald 232 10), (232, a_ast 233), (233, a_aload 234 0), (234, a_getR 237 9 (fun _ => 43)), (237, a_push 238 (.inl 3)), (238, a_iload 239 3), (239, a_bin 240 (fun x y => x * y)), (240, a_push 241 (.inl 3)), (241, a_bin 242 (fun x y => x + y)), (242, a_aload 243 0), (243, a_getR 246 9 (fun _ => 37)), (246, a_iload 247 3), (247, a_ald 248 10), (248, a_ast 249), (249, a_iinc 252 3 1), (252, a_goto 185), (255, a_aload 256 0), (256, a_callV 259 0 9 mX10_act), (259, a_istore 260 1), (260, a_aload 261 0), (261, a_push 262 (.inl 0)), (262, a_put 265 9 16), (265, a_aload 266 0), (266, a_getR 269 9 (fun _ => 43)), (269, a_push 270 (.inl 0)), (270, a_iload 271 1), (271, a_ast 272), (272, a_aload 273 0), (273, a_getR 276 9 (fun _ => 43)), (276, a_push 278 (.inl 7)), (278, a_aload 279 0), (279, a_getI 282 9 34), (282, a_ast 283), (283, a_aload 284 0), (284, a_iload 285 1), (285, a_push 286 (.inl 1)), (286, a_c_le 289 293), (289, a_push 290 (.inl 0)), (290, a_goto 313), (293, a_aload 294 0), (294, a_getI 297 9 33), (297, a_push 299 (.inl 9)), (299, a_c_ne 302 307), (302, a_push 304 (.inl 9)), (304, a_goto 313), (307, a_aload 308 0), (308, a_getI 311 9 33), (311, a_push 312 (.inl 1)), (312, a_bin 313 (fun x y => x + y)), (313, a_put 316 9 33), (316, a_iload 317 1), (317, a_iret)]
noncomputable def mX10_say : List AV → MM → Option AR := zsem tX10_say 4 1
def wX10_say : List Cond := .code yX10_say cX10_say 4 (some .int) :: lw_g
def rX10_say : Room := { frames := 7, cells := 0, slots := 0, locals := 156 }
set_option maxHeartbeats 4000000 in
set_option maxRecDepth 100000 in
theorem kX10_say (l : Launch) (X : XC) : zM l X yX10_say wX10_say rX10_say mX10_say := by
  refine zMet tX10_say 1 (by decide) rfl (by decide) ?_
  intro p e s m args below meth c res hC
  obtain ⟨hx, hb, hr, hts0, hown, hml, hlk, hK⟩ := hC
  have hts : ∀ w ∈ lw_g, w.before args s = true := fun w h => hts0 w (List.mem_cons_of_mem _ h)
  have hro : 0 ≤ (headSpec wX10_say rX10_say).room.cells ∧ 0 ≤ (headSpec wX10_say rX10_say).room.slots := ⟨Nat.zero_le _, Nat.zero_le _⟩
  refine zcons (s_aload_n hx hb 0 dX10_say_0 rfl) ?_
  refine zcons (s_iconst hx hb 1 dX10_say_1 (by decide)) ?_
  refine zcons (s_putZ (hZ := fun _ h => h) hx hb hts hown hK zcX10 hinX10 tyX10 tyX10_ok nmX10 26 (by decide) w729 rfl rfl (zptk (by decide) (by decide +kernel)) (by decide +kernel) dX10_say_2) ?_
  refine zcons (s_aload_n hx hb 0 dX10_say_5 rfl) ?_
  refine zcons (s_iconst hx hb 0 dX10_say_6 (by decide)) ?_
  refine zcons (s_put (hZ := fun _ h => h) hx hb hts hown hK zcX10 hinX10 tyX10 tyX10_ok nmX10 34 (by decide) w737 rfl rfl (zptk (by decide) (by decide +kernel)) (by decide +kernel) dX10_say_7) ?_
  refine zcons (s_iconst hx hb 0 dX10_say_10 (by decide)) ?_
  refine zcons (s_istore_n hx hb 1 dX10_say_11 rfl) ?_
  refine zcons (s_iload_n hx hb 1 dX10_say_12 rfl) ?_
  refine zcons (s_bipush hx hb 9 dX10_say_13 (by decide)) ?_
  refine zcons (s_c_ge hx hb 41 dX10_say_15 (by decide)) ?_
  refine zcons (s_aload_n hx hb 0 dX10_say_18 rfl) ?_
  refine zcons (s_getR hx hb hts hown hK zcX10 hinX10 40 (by decide) w743 rfl (fun _ => 43) (zptf (by decide) (by decide +kernel)) dX10_say_19) ?_
  refine zcons (s_iload_n hx hb 1 dX10_say_22 rfl) ?_
  refine zcons (s_iload_n hx hb 1 dX10_say_23 rfl) ?_
  refine zcons (s_bipush hx hb 7 dX10_say_24 (by decide)) ?_
  refine zcons (s_c_ge hx hb 33 dX10_say_26 (by decide)) ?_
  refine zcons (s_iconst hx hb (-1) dX10_say_29 (by decide)) ?_
  refine zcons (s_goto hx hb 34 dX10_say_30 (by decide)) ?_
  refine zcons (s_iconst hx hb 0 dX10_say_33 (by decide)) ?_
  refine zcons (s_iast (hZ := fun _ h => h) hx hb hK dX10_say_34) ?_
  refine zcons (s_iinc hx hb 1 dX10_say_35 (by decide)) ?_
  refine zcons (s_goto hx hb 12 dX10_say_38 (by decide)) ?_
  refine zcons (s_aload_n hx hb 0 dX10_say_41 rfl) ?_
  refine zcons (s_getI hx hb hts hown hK zcX10 hinX10 16 (by decide) w719 rfl (zptk (by decide) (by decide +kernel)) dX10_say_42) ?_
  refine zcons (s_if_ne hx hb 59 dX10_say_45 (by decide)) ?_
  refine zcons (s_aload_n hx hb 0 dX10_say_48 rfl) ?_
  refine zcons (s_getI hx hb hts hown hK zcX10 hinX10 27 (by decide) w730 rfl (zptk (by decide) (by decide +kernel)) dX10_say_49) ?_
  refine zcons (s_if_ne hx hb 59 dX10_say_52 (by decide)) ?_
  refine zcons (s_iconst hx hb 0 dX10_say_55 (by decide)) ?_
  refine zcons (s_goto hx hb 60 dX10_say_56 (by decide)) ?_
  refine zcons (s_iconst hx hb 1 dX10_say_59 (by decide)) ?_
  refine zcons (s_istore_n hx hb 1 dX10_say_60 rfl) ?_
  refine zcons (s_aload_n hx hb 0 dX10_say_61 rfl) ?_
  refine zcons (s_getI hx hb hts hown hK zcX10 hinX10 16 (by decide) w719 rfl (zptk (by decide) (by decide +kernel)) dX10_say_62) ?_
  refine zcons (s_if_le hx hb 260 dX10_say_65 (by decide)) ?_
  refine zcons (s_aload_n hx hb 0 dX10_say_68 rfl) ?_
  refine zcons (s_getI hx hb hts hown hK zcX10 hinX10 27 (by decide) w730 rfl (zptk (by decide) (by decide +kernel)) dX10_say_69) ?_
  refine zcons (s_if_ne hx hb 260 dX10_say_72 (by decide)) ?_
  refine zcons (s_aload_n hx hb 0 dX10_say_75 rfl) ?_
  refine zcons (s_callV (hZ := fun _ h => h) hx hb hts hml hown hK hro zcX10 (kX10_readAll l X) (zgoodV w871 w873 w24 w54 w874) rfl rfl rfl (by decide +kernel) ⟨Nat.le_of_ble_eq_true rfl, Nat.le_of_ble_eq_true rfl⟩ dX10_say_76) ?_
  refine zcons (s_aload_n hx hb 0 dX10_say_79 rfl) ?_
  refine zcons (s_getR hx hb hts hown hK zcX10 hinX10 22 (by decide) w725 rfl (fun _ => 37) (zptf (by decide) (by decide +kernel)) dX10_say_80) ?_
  refine zcons (s_iconst hx hb 0 dX10_say_83 (by decide)) ?_
  refine zcons (s_iald hx hb hK dX10_say_84) ?_
  refine zcons (s_ldc hx hb 1000000 hown (hts _ w875) dX10_say_85) ?_
  refine zcons (s_c_ge hx hb 260 dX10_say_87 (by decide)) ?_
  refine zcons (s_aload_n hx hb 0 dX10_say_90 rfl) ?_
  refine zcons (s_getI hx hb hts hown hK zcX10 hinX10 29 (by decide) w732 rfl (zptk (by decide) (by decide +kernel)) dX10_say_91) ?_
  refine zcons (s_if_lt hx hb 142 dX10_say_94 (by decide)) ?_
  refine zcons (s_aload_n hx hb 0 dX10_say_97 rfl) ?_
  refine zcons (s_getR hx hb hts hown hK zcX10 hinX10 2 (by decide) w705 rfl (fun _ => 21) (zptf (by decide) (by decide +kernel)) dX10_say_98) ?_
  refine zcons (s_aload_n hx hb 0 dX10_say_101 rfl) ?_
  refine zcons (s_getI hx hb hts hown hK zcX10 hinX10 29 (by decide) w732 rfl (zptk (by decide) (by decide +kernel)) dX10_say_102) ?_
  refine zcons (s_iald hx hb hK dX10_say_105) ?_
  refine zcons (s_if_le hx hb 142 dX10_say_106 (by decide)) ?_
  refine zcons (s_aload_n hx hb 0 dX10_say_109 rfl) ?_
  refine zcons (s_getR hx hb hts hown hK zcX10 hinX10 22 (by decide) w725 rfl (fun _ => 37) (zptf (by decide) (by decide +kernel)) dX10_say_110) ?_
  refine zcons (s_iconst hx hb 1 dX10_say_113 (by decide)) ?_
  refine zcons (s_iald hx hb hK dX10_say_114) ?_
  refine zcons (s_ldc hx hb 1000000 hown (hts _ w875) dX10_say_115) ?_
  refine zcons (s_c_ge hx hb 142 dX10_say_117 (by decide)) ?_
  refine zcons (s_aload_n hx hb 0 dX10_say_120 rfl) ?_
  refine zcons (s_getR hx hb hts hown hK zcX10 hinX10 20 (by decide) w723 rfl (fun _ => 35) (zptf (by decide) (by decide +kernel)) dX10_say_121) ?_
  refine zcons (s_iconst hx hb 0 dX10_say_124 (by decide)) ?_
  refine zcons (s_iald hx hb hK dX10_say_125) ?_
  refine zcons (s_if_ne hx hb 142 dX10_say_126 (by decide)) ?_
  refine zcons (s_aload_n hx hb 0 dX10_say_129 rfl) ?_
  refine zcons (s_getR hx hb hts hown hK zcX10 hinX10 20 (by decide) w723 rfl (fun _ => 35) (zptf (by decide) (by decide +kernel)) dX10_say_130) ?_
  refine zcons (s_iconst hx hb 1 dX10_say_133 (by decide)) ?_
  refine zcons (s_iald hx hb hK dX10_say_134) ?_
  refine zcons (s_if_ne hx hb 142 dX10_say_135 (by decide)) ?_
  refine zcons (s_iconst hx hb 1 dX10_say_138 (by decide)) ?_
  refine zcons (s_goto hx hb 143 dX10_say_139 (by decide)) ?_
  refine zcons (s_iconst hx hb 0 dX10_say_142 (by decide)) ?_
  refine zcons (s_istore_n hx hb 2 dX10_say_143 rfl) ?_
  refine zcons (s_aload_n hx hb 0 dX10_say_144 rfl) ?_
  refine zcons (s_getR hx hb hts hown hK zcX10 hinX10 40 (by decide) w743 rfl (fun _ => 43) (zptf (by decide) (by decide +kernel)) dX10_say_145) ?_
  refine zcons (s_bipush hx hb 8 dX10_say_148 (by decide)) ?_
  refine zcons (s_iload_n hx hb 2 dX10_say_150 rfl) ?_
  refine zcons (s_if_eq hx hb 181 dX10_say_151 (by decide)) ?_
  refine zcons (s_aload_n hx hb 0 dX10_say_154 rfl) ?_
  refine zcons (s_getR hx hb hts hown hK zcX10 hinX10 22 (by decide) w725 rfl (fun _ => 37) (zptf (by decide) (by decide +kernel)) dX10_say_155) ?_
  refine zcons (s_iconst hx hb 1 dX10_say_158 (by decide)) ?_
  refine zcons (s_iald hx hb hK dX10_say_159) ?_
  refine zcons (s_aload_n hx hb 0 dX10_say_160 rfl) ?_
  refine zcons (s_getR hx hb hts hown hK zcX10 hinX10 22 (by decide) w725 rfl (fun _ => 37) (zptf (by decide) (by decide +kernel)) dX10_say_161) ?_
  refine zcons (s_iconst hx hb 0 dX10_say_164 (by decide)) ?_
  refine zcons (s_iald hx hb hK dX10_say_165) ?_
  refine zcons (s_aload_n hx hb 0 dX10_say_166 rfl) ?_
  refine zcons (s_getI hx hb hts hown hK zcX10 hinX10 14 (by decide) w717 rfl (zptk (by decide) (by decide +kernel)) dX10_say_167) ?_
  refine zcons (s_iadd hx hb dX10_say_170) ?_
  refine zcons (s_c_ge hx hb 181 dX10_say_171 (by decide)) ?_
  refine zcons (s_aload_n hx hb 0 dX10_say_174 rfl) ?_
  refine zcons (s_callV (hZ := fun _ h => h) hx hb hts hml hown hK hro zcX10 (kX10_unlike l X) (zgoodV w903 w905 w31 w54 w906) rfl rfl rfl (by decide +kernel) ⟨Nat.le_of_ble_eq_true rfl, Nat.le_of_ble_eq_true rfl⟩ dX10_say_175) ?_
  refine zcons (s_goto hx hb 182 dX10_say_178 (by decide)) ?_
  refine zcons (s_iconst hx hb 0 dX10_say_181 (by decide)) ?_
  refine zcons (s_iast (hZ := fun _ h => h) hx hb hK dX10_say_182) ?_
  refine zcons (s_iconst hx hb 0 dX10_say_183 (by decide)) ?_
  refine zcons (s_istore_n hx hb 3 dX10_say_184 rfl) ?_
  refine zcons (s_iload_n hx hb 3 dX10_say_185 rfl) ?_
  refine zcons (s_iconst hx hb 2 dX10_say_186 (by decide)) ?_
  refine zcons (s_c_ge hx hb 255 dX10_say_187 (by decide)) ?_
  refine zcons (s_aload_n hx hb 0 dX10_say_190 rfl) ?_
  refine zcons (s_getR hx hb hts hown hK zcX10 hinX10 22 (by decide) w725 rfl (fun _ => 37) (zptf (by decide) (by decide +kernel)) dX10_say_191) ?_
  refine zcons (s_iload_n hx hb 3 dX10_say_194 rfl) ?_
  refine zcons (s_iald hx hb hK dX10_say_195) ?_
  refine zcons (s_ldc hx hb 1000000 hown (hts _ w875) dX10_say_196) ?_
  refine zcons (s_c_ge hx hb 255 dX10_say_198 (by decide)) ?_
  refine zcons (s_aload_n hx hb 0 dX10_say_201 rfl) ?_
  refine zcons (s_getR hx hb hts hown hK zcX10 hinX10 40 (by decide) w743 rfl (fun _ => 43) (zptf (by decide) (by decide +kernel)) dX10_say_202) ?_
  refine zcons (s_iconst hx hb 3 dX10_say_205 (by decide)) ?_
  refine zcons (s_iload_n hx hb 3 dX10_say_206 rfl) ?_
  refine zcons (s_imul hx hb dX10_say_207) ?_
  refine zcons (s_iconst hx hb 1 dX10_say_208 (by decide)) ?_
  refine zcons (s_iadd hx hb dX10_say_209) ?_
  refine zcons (s_aload_n hx hb 0 dX10_say_210 rfl) ?_
  refine zcons (s_getR hx hb hts hown hK zcX10 hinX10 20 (by decide) w723 rfl (fun _ => 35) (zptf (by decide) (by decide +kernel)) dX10_say_211) ?_
  refine zcons (s_iload_n hx hb 3 dX10_say_214 rfl) ?_
  refine zcons (s_iald hx hb hK dX10_say_215) ?_
  refine zcons (s_iast (hZ := fun _ h => h) hx hb hK dX10_say_216) ?_
  refine zcons (s_aload_n hx hb 0 dX10_say_217 rfl) ?_
  refine zcons (s_getR hx hb hts hown hK zcX10 hinX10 40 (by decide) w743 rfl (fun _ => 43) (zptf (by decide) (by decide +kernel)) dX10_say_218) ?_
  refine zcons (s_iconst hx hb 3 dX10_say_221 (by decide)) ?_
  refine zcons (s_iload_n hx hb 3 dX10_say_222 rfl) ?_
  refine zcons (s_imul hx hb dX10_say_223) ?_
  refine zcons (s_iconst hx hb 2 dX10_say_224 (by decide)) ?_
  refine zcons (s_iadd hx hb dX10_say_225) ?_
  refine zcons (s_aload_n hx hb 0 dX10_say_226 rfl) ?_
  refine zcons (s_getR hx hb hts hown hK zcX10 hinX10 21 (by decide) w724 rfl (fun _ => 36) (zptf (by decide) (by decide +kernel)) dX10_say_227) ?_
  refine zcons (s_iload_n hx hb 3 dX10_say_230 rfl) ?_
  refine zcons (s_iald hx hb hK dX10_say_231) ?_
  refine zcons (s_iast (hZ := fun _ h => h) hx hb hK dX10_say_232) ?_
  refine zcons (s_aload_n hx hb 0 dX10_say_233 rfl) ?_
  refine zcons (s_getR hx hb hts hown hK zcX10 hinX10 40 (by decide) w743 rfl (fun _ => 43) (zptf (by decide) (by decide +kernel)) dX10_say_234) ?_
  refine zcons (s_iconst hx hb 3 dX10_say_237 (by decide)) ?_
  refine zcons (s_iload_n hx hb 3 dX10_say_238 rfl) ?_
  refine zcons (s_imul hx hb dX10_say_239) ?_
  refine zcons (s_iconst hx hb 3 dX10_say_240 (by decide)) ?_
  refine zcons (s_iadd hx hb dX10_say_241) ?_
  refine zcons (s_aload_n hx hb 0 dX10_say_242 rfl) ?_
  refine zcons (s_getR hx hb hts hown hK zcX10 hinX10 22 (by decide) w725 rfl (fun _ => 37) (zptf (by decide) (by decide +kernel)) dX10_say_243) ?_
  refine zcons (s_iload_n hx hb 3 dX10_say_246 rfl) ?_
  refine zcons (s_iald hx hb hK dX10_say_247) ?_
  refine zcons (s_iast (hZ := fun _ h => h) hx hb hK dX10_say_248) ?_
  refine zcons (s_iinc hx hb 1 dX10_say_249 (by decide)) ?_
  refine zcons (s_goto hx hb 185 dX10_say_252 (by decide)) ?_
  refine zcons (s_aload_n hx hb 0 dX10_say_255 rfl) ?_
  refine zcons (s_callV (hZ := fun _ h => h) hx hb hts hml hown hK hro zcX10 (kX10_act l X) (zgoodV w907 w909 w32 w54 w910) rfl rfl rfl (by decide +kernel) ⟨Nat.le_of_ble_eq_true rfl, Nat.le_of_ble_eq_true rfl⟩ dX10_say_256) ?_
  refine zcons (s_istore_n hx hb 1 dX10_say_259 rfl) ?_
  refine zcons (s_aload_n hx hb 0 dX10_say_260 rfl) ?_
  refine zcons (s_iconst hx hb 0 dX10_say_261 (by decide)) ?_
  refine zcons (s_put (hZ := fun _ h => h) hx hb hts hown hK zcX10 hinX10 tyX10 tyX10_ok nmX10 16 (by decide) w719 rfl rfl (zptk (by decide) (by decide +kernel)) (by decide +kernel) dX10_say_262) ?_
  refine zcons (s_aload_n hx hb 0 dX10_say_265 rfl) ?_
  refine zcons (s_getR hx hb hts hown hK zcX10 hinX10 40 (by decide) w743 rfl (fun _ => 43) (zptf (by decide) (by decide +kernel)) dX10_say_266) ?_
  refine zcons (s_iconst hx hb 0 dX10_say_269 (by decide)) ?_
  refine zcons (s_iload_n hx hb 1 dX10_say_270 rfl) ?_
  refine zcons (s_iast (hZ := fun _ h => h) hx hb hK dX10_say_271) ?_
  refine zcons (s_aload_n hx hb 0 dX10_say_272 rfl) ?_
  refine zcons (s_getR hx hb hts hown hK zcX10 hinX10 40 (by decide) w743 rfl (fun _ => 43) (zptf (by decide) (by decide +kernel)) dX10_say_273) ?_
  refine zcons (s_bipush hx hb 7 dX10_say_276 (by decide)) ?_
  refine zcons (s_aload_n hx hb 0 dX10_say_278 rfl) ?_
  refine zcons (s_getI hx hb hts hown hK zcX10 hinX10 34 (by decide) w737 rfl (zptk (by decide) (by decide +kernel)) dX10_say_279) ?_
  refine zcons (s_iast (hZ := fun _ h => h) hx hb hK dX10_say_282) ?_
  refine zcons (s_aload_n hx hb 0 dX10_say_283 rfl) ?_
  refine zcons (s_iload_n hx hb 1 dX10_say_284 rfl) ?_
  refine zcons (s_iconst hx hb 1 dX10_say_285 (by decide)) ?_
  refine zcons (s_c_le hx hb 293 dX10_say_286 (by decide)) ?_
  refine zcons (s_iconst hx hb 0 dX10_say_289 (by decide)) ?_
  refine zcons (s_goto hx hb 313 dX10_say_290 (by decide)) ?_
  refine zcons (s_aload_n hx hb 0 dX10_say_293 rfl) ?_
  refine zcons (s_getI hx hb hts hown hK zcX10 hinX10 33 (by decide) w736 rfl (zptk (by decide) (by decide +kernel)) dX10_say_294) ?_
  refine zcons (s_bipush hx hb 9 dX10_say_297 (by decide)) ?_
  refine zcons (s_c_ne hx hb 307 dX10_say_299 (by decide)) ?_
  refine zcons (s_bipush hx hb 9 dX10_say_302 (by decide)) ?_
  refine zcons (s_goto hx hb 313 dX10_say_304 (by decide)) ?_
  refine zcons (s_aload_n hx hb 0 dX10_say_307 rfl) ?_
  refine zcons (s_getI hx hb hts hown hK zcX10 hinX10 33 (by decide) w736 rfl (zptk (by decide) (by decide +kernel)) dX10_say_308) ?_
  refine zcons (s_iconst hx hb 1 dX10_say_311 (by decide)) ?_
  refine zcons (s_iadd hx hb dX10_say_312) ?_
  refine zcons (s_put (hZ := fun _ h => h) hx hb hts hown hK zcX10 hinX10 tyX10 tyX10_ok nmX10 33 (by decide) w736 rfl rfl (zptk (by decide) (by decide +kernel)) (by decide +kernel) dX10_say_313) ?_
  refine zcons (s_iload_n hx hb 1 dX10_say_316 rfl) ?_
  refine zcons (s_iret hx hb hr hK hlk dX10_say_317) ?_
  exact znil
noncomputable def tX10_goOn : List (Nat × AI) := [(0, a_aload 1 0), (1, a_getI 4 9 27), (4, a_if_ne 7 9), (7, a_push 8 (.inl 0)), (8, a_zret), (9, a_aload 10 0), (10, a_push 11 (.inl 0)), (11, a_putZ 14 9 27), (14, a_push 15 (.inl 1)), (15, a_zret)]
noncomputable def mX10_goOn : List AV → MM → Option AR := zsem tX10_goOn 1 1
def wX10_goOn : List Cond := .code yX10_goOn cX10_goOn 1 (some .boolean) :: lw_g
def rX10_goOn : Room := { frames := 0, cells := 0, slots := 0, locals := 0 }
set_option maxHeartbeats 4000000 in
set_option maxRecDepth 100000 in
theorem kX10_goOn (l : Launch) (X : XC) : zM l X yX10_goOn wX10_goOn rX10_goOn mX10_goOn := by
  refine zMet tX10_goOn 1 (by decide) rfl (by decide) ?_
  intro p e s m args below meth c res hC
  obtain ⟨hx, hb, hr, hts0, hown, hml, hlk, hK⟩ := hC
  have hts : ∀ w ∈ lw_g, w.before args s = true := fun w h => hts0 w (List.mem_cons_of_mem _ h)
  have hro : 0 ≤ (headSpec wX10_goOn rX10_goOn).room.cells ∧ 0 ≤ (headSpec wX10_goOn rX10_goOn).room.slots := ⟨Nat.zero_le _, Nat.zero_le _⟩
  refine zcons (s_aload_n hx hb 0 dX10_goOn_0 rfl) ?_
  refine zcons (s_getI hx hb hts hown hK zcX10 hinX10 27 (by decide) w730 rfl (zptk (by decide) (by decide +kernel)) dX10_goOn_1) ?_
  refine zcons (s_if_ne hx hb 9 dX10_goOn_4 (by decide)) ?_
  refine zcons (s_iconst hx hb 0 dX10_goOn_7 (by decide)) ?_
  refine zcons (s_zret hx hb hr hK hlk dX10_goOn_8) ?_
  refine zcons (s_aload_n hx hb 0 dX10_goOn_9 rfl) ?_
  refine zcons (s_iconst hx hb 0 dX10_goOn_10 (by decide)) ?_
  refine zcons (s_putZ (hZ := fun _ h => h) hx hb hts hown hK zcX10 hinX10 tyX10 tyX10_ok nmX10 27 (by decide) w730 rfl rfl (zptk (by decide) (by decide +kernel)) (by decide +kernel) dX10_goOn_11) ?_
  refine zcons (s_iconst hx hb 1 dX10_goOn_14 (by decide)) ?_
  refine zcons (s_zret hx hb hr hK hlk dX10_goOn_15) ?_
  exact znil
noncomputable def tX10_told : List (Nat × AI) := [(0, a_aload 1 0), (1, a_getI 4 9 26), (4, a_if_eq 7 26), (7, a_iload 8 1), (8, a_push 9 (.inl 0)), (9, a_push 11 (.inl 8)), (11, a_callS 14 3 mX10_isIn), (14, a_if_eq 17 26), (17, a_aload 18 0), (18, a_getR 21 9 (fun _ => 43)), (21, a_iload 22 1), (22, a_ald 23 10), (23, a_goto 27), (26, a_push 27 (.inl (-1))), (27, a_iret)]
noncomputable def mX10_told : List AV → MM → Option AR := zsem tX10_told 2 2
def wX10_told : List Cond := .code yX10_told cX10_told 2 (some .int) :: lw_g
def rX10_told : Room := { frames := 1, cells := 0, slots := 0, locals := 22 }
set_option maxHeartbeats 4000000 in
set_option maxRecDepth 100000 in
theorem kX10_told (l : Launch) (X : XC) : zM l X yX10_told wX10_told rX10_told mX10_told := by
  refine zMet tX10_told 2 (by decide) rfl (by decide) ?_
  intro p e s m args below meth c res hC
  obtain ⟨hx, hb, hr, hts0, hown, hml, hlk, hK⟩ := hC
  have hts : ∀ w ∈ lw_g, w.before args s = true := fun w h => hts0 w (List.mem_cons_of_mem _ h)
  have hro : 0 ≤ (headSpec wX10_told rX10_told).room.cells ∧ 0 ≤ (headSpec wX10_told rX10_told).room.slots := ⟨Nat.zero_le _, Nat.zero_le _⟩
  refine zcons (s_aload_n hx hb 0 dX10_told_0 rfl) ?_
  refine zcons (s_getI hx hb hts hown hK zcX10 hinX10 26 (by decide) w729 rfl (zptk (by decide) (by decide +kernel)) dX10_told_1) ?_
  refine zcons (s_if_eq hx hb 26 dX10_told_4 (by decide)) ?_
  refine zcons (s_iload_n hx hb 1 dX10_told_7 rfl) ?_
  refine zcons (s_iconst hx hb 0 dX10_told_8 (by decide)) ?_
  refine zcons (s_bipush hx hb 8 dX10_told_9 (by decide)) ?_
  refine zcons (s_callS (hZ := fun _ h => h) hx hb hts hml hown hK hro (kX10_isIn l X) (va_cwS 3 hts (zgoodS w836 w837 w54 w838) rfl rfl rfl (by decide +kernel) ⟨Nat.le_of_ble_eq_true rfl, Nat.le_of_ble_eq_true rfl⟩) dX10_told_11) ?_
  refine zcons (s_if_eq hx hb 26 dX10_told_14 (by decide)) ?_
  refine zcons (s_aload_n hx hb 0 dX10_told_17 rfl) ?_
  refine zcons (s_getR hx hb hts hown hK zcX10 hinX10 40 (by decide) w743 rfl (fun _ => 43) (zptf (by decide) (by decide +kernel)) dX10_told_18) ?_
  refine zcons (s_iload_n hx hb 1 dX10_told_21 rfl) ?_
  refine zcons (s_iald hx hb hK dX10_told_22) ?_
  refine zcons (s_goto hx hb 27 dX10_told_23 (by decide)) ?_
  refine zcons (s_iconst hx hb (-1) dX10_told_26 (by decide)) ?_
  refine zcons (s_iret hx hb hr hK hlk dX10_told_27) ?_
  exact znil
