/-! The tables of methods and their contracts (written by wip/whole/gen.py). -/
noncomputable def tX6_hear : List (Nat × AI) := [(0, a_aload 1 0), (1, a_getI 4 6 8), (4, a_istore 5 1), (5, a_aload 6 0), (6, a_push 7 (.inl 0)), (7, a_put 10 6 8), (10, a_aload 11 0), (11, a_getR 14 6 (fun _ => 3)), (14, a_callV 17 0 4 mX4_isOtherNear), (17, a_if_eq 20 51), (20, a_aload 21 0), (21, a_push 22 (.inl 2)), (22, a_put 25 6 8), (25, a_aload 26 0), (26, a_aload 27 0), (27, a_getR 30 6 (fun _ => 3)), (30, a_push 31 (.inl 0)), (31, a_callV 34 1 4 mX4_key), (34, a_put 37 6 11), (37, a_aload 38 0), (38, a_aload 39 0), (39, a_getR 42 6 (fun _ => 3)), (42, a_push 43 (.inl 1)), (43, a_callV 46 1 4 mX4_key), (46, a_put 49 6 12), (49, a_push 50 (.inl 2)), (50, a_iret), (51, a_aload 52 0), (52, a_getR 55 6 (fun _ => 3)), (55, a_push 56 (.inl 0)), (56, a_callV 59 1 4 mX4_sort), (59, a_istore 60 2), (60, a_iload 61 2), (61, a_push 62 (.inl 5)), (62, a_c_ne 65 69), (65, a_push 66 (.inl 1)), (66, a_goto 70), (69, a_push 70 (.inl 0)), (70, a_istore 71 3), (71, a_iload 72 1), (72, a_if_eq 75 85), (75, a_iload 76 3), (76, a_if_ne 79 98), (79, a_iload 80 2), (80, a_push 82 (.inl 6)), (82, a_c_eq 85 98), (85, a_aload 86 0), (86, a_aload 87 0), (87, a_getR 90 6 (fun _ => 3)), (90, a_push 91 (.inl 0)), (91, a_callV 94 1 4 mX4_key), (94, a_callV 97 1 6 mX6_take), (97, a_iret), (98, a_iload 99 1), (99, a_push 100 (.inl 2)), (100, a_c_ne 103 123), (103, a_aload 104 0), (104, a_iload 105 3), (105, a_if_eq 108 115), (108, a_aload 109 0), (109, a_getI 112 6 11), (112, a_goto 119), (115, a_aload 116 0), (116, a_getI 119 6 12), (119, a_callV 122 1 6 mX6_take), (122, a_iret), (123, a_iload 124 3), (124, a_if_eq 127 143), (127, a_aload 128 0), (128, a_aload 129 0), (129, a_getI 132 6 9), (132, a_aload 133 0), (133, a_getI 136 6 10), (136, a_push 137 (.inl 1)), (137, a_callV 140 3 6 mX6_keep), (140, a_goto 144), (143, a_push 144 (.inl 5)), (144, a_iret)]
noncomputable def mX6_hear : List AV → MM → Option AR := zsem tX6_hear 4 1
def wX6_hear : List Cond := .code yX6_hear cX6_hear 4 (some .int) :: lw_g
def rX6_hear : Room := { frames := 6, cells := 0, slots := 0, locals := 137 }
set_option maxHeartbeats 4000000 in
set_option maxRecDepth 100000 in
theorem kX6_hear (l : Launch) (X : XC) : zM l X yX6_hear wX6_hear rX6_hear mX6_hear := by
  refine zMet tX6_hear 1 (by decide) rfl (by decide) ?_
  intro p e s m args below meth c res hC
  obtain ⟨hx, hb, hr, hts0, hown, hml, hlk, hK⟩ := hC
  have hts : ∀ w ∈ lw_g, w.before args s = true := fun w h => hts0 w (List.mem_cons_of_mem _ h)
  have hro : 0 ≤ (headSpec wX6_hear rX6_hear).room.cells ∧ 0 ≤ (headSpec wX6_hear rX6_hear).room.slots := ⟨Nat.zero_le _, Nat.zero_le _⟩
  refine zcons (s_aload_n hx hb 0 dX6_hear_0 rfl) ?_
  refine zcons (s_getI hx hb hts hown hK zcX6 hinX6 8 (by decide) w271 rfl (zptk (by decide) (by decide +kernel)) dX6_hear_1) ?_
  refine zcons (s_istore_n hx hb 1 dX6_hear_4 rfl) ?_
  refine zcons (s_aload_n hx hb 0 dX6_hear_5 rfl) ?_
  refine zcons (s_iconst hx hb 0 dX6_hear_6 (by decide)) ?_
  refine zcons (s_put (hZ := fun _ h => h) hx hb hts hown hK zcX6 hinX6 tyX6 tyX6_ok nmX6 8 (by decide) w271 rfl rfl (zptk (by decide) (by decide +kernel)) (by decide +kernel) dX6_hear_7) ?_
  refine zcons (s_aload_n hx hb 0 dX6_hear_10 rfl) ?_
  refine zcons (s_getR hx hb hts hown hK zcX6 hinX6 1 (by decide) w259 rfl (fun _ => 3) (zptf (by decide) (by decide +kernel)) dX6_hear_11) ?_
  refine zcons (s_callV (hZ := fun _ h => h) hx hb hts hml hown hK hro zcX4 (kX4_isOtherNear l X) (zgoodV w553 w554 w555 w48 w556) rfl rfl rfl (by decide +kernel) ⟨Nat.le_of_ble_eq_true rfl, Nat.le_of_ble_eq_true rfl⟩ dX6_hear_14) ?_
  refine zcons (s_if_eq hx hb 51 dX6_hear_17 (by decide)) ?_
  refine zcons (s_aload_n hx hb 0 dX6_hear_20 rfl) ?_
  refine zcons (s_iconst hx hb 2 dX6_hear_21 (by decide)) ?_
  refine zcons (s_put (hZ := fun _ h => h) hx hb hts hown hK zcX6 hinX6 tyX6 tyX6_ok nmX6 8 (by decide) w271 rfl rfl (zptk (by decide) (by decide +kernel)) (by decide +kernel) dX6_hear_22) ?_
  refine zcons (s_aload_n hx hb 0 dX6_hear_25 rfl) ?_
  refine zcons (s_aload_n hx hb 0 dX6_hear_26 rfl) ?_
  refine zcons (s_getR hx hb hts hown hK zcX6 hinX6 1 (by decide) w259 rfl (fun _ => 3) (zptf (by decide) (by decide +kernel)) dX6_hear_27) ?_
  refine zcons (s_iconst hx hb 0 dX6_hear_30 (by decide)) ?_
  refine zcons (s_callV (hZ := fun _ h => h) hx hb hts hml hown hK hro zcX4 (kX4_key l X) (zgoodV w563 w545 w546 w48 w547) rfl rfl rfl (by decide +kernel) ⟨Nat.le_of_ble_eq_true rfl, Nat.le_of_ble_eq_true rfl⟩ dX6_hear_31) ?_
  refine zcons (s_put (hZ := fun _ h => h) hx hb hts hown hK zcX6 hinX6 tyX6 tyX6_ok nmX6 11 (by decide) w275 rfl rfl (zptk (by decide) (by decide +kernel)) (by decide +kernel) dX6_hear_34) ?_
  refine zcons (s_aload_n hx hb 0 dX6_hear_37 rfl) ?_
  refine zcons (s_aload_n hx hb 0 dX6_hear_38 rfl) ?_
  refine zcons (s_getR hx hb hts hown hK zcX6 hinX6 1 (by decide) w259 rfl (fun _ => 3) (zptf (by decide) (by decide +kernel)) dX6_hear_39) ?_
  refine zcons (s_iconst hx hb 1 dX6_hear_42 (by decide)) ?_
  refine zcons (s_callV (hZ := fun _ h => h) hx hb hts hml hown hK hro zcX4 (kX4_key l X) (zgoodV w563 w545 w546 w48 w547) rfl rfl rfl (by decide +kernel) ⟨Nat.le_of_ble_eq_true rfl, Nat.le_of_ble_eq_true rfl⟩ dX6_hear_43) ?_
  refine zcons (s_put (hZ := fun _ h => h) hx hb hts hown hK zcX6 hinX6 tyX6 tyX6_ok nmX6 12 (by decide) w276 rfl rfl (zptk (by decide) (by decide +kernel)) (by decide +kernel) dX6_hear_46) ?_
  refine zcons (s_iconst hx hb 2 dX6_hear_49 (by decide)) ?_
  refine zcons (s_iret hx hb hr hK hlk dX6_hear_50) ?_
  refine zcons (s_aload_n hx hb 0 dX6_hear_51 rfl) ?_
  refine zcons (s_getR hx hb hts hown hK zcX6 hinX6 1 (by decide) w259 rfl (fun _ => 3) (zptf (by decide) (by decide +kernel)) dX6_hear_52) ?_
  refine zcons (s_iconst hx hb 0 dX6_hear_55 (by decide)) ?_
  refine zcons (s_callV (hZ := fun _ h => h) hx hb hts hml hown hK hro zcX4 (kX4_sort l X) (zgoodV w564 w565 w566 w48 w567) rfl rfl rfl (by decide +kernel) ⟨Nat.le_of_ble_eq_true rfl, Nat.le_of_ble_eq_true rfl⟩ dX6_hear_56) ?_
  refine zcons (s_istore_n hx hb 2 dX6_hear_59 rfl) ?_
  refine zcons (s_iload_n hx hb 2 dX6_hear_60 rfl) ?_
  refine zcons (s_iconst hx hb 5 dX6_hear_61 (by decide)) ?_
  refine zcons (s_c_ne hx hb 69 dX6_hear_62 (by decide)) ?_
  refine zcons (s_iconst hx hb 1 dX6_hear_65 (by decide)) ?_
  refine zcons (s_goto hx hb 70 dX6_hear_66 (by decide)) ?_
  refine zcons (s_iconst hx hb 0 dX6_hear_69 (by decide)) ?_
  refine zcons (s_istore_n hx hb 3 dX6_hear_70 rfl) ?_
  refine zcons (s_iload_n hx hb 1 dX6_hear_71 rfl) ?_
  refine zcons (s_if_eq hx hb 85 dX6_hear_72 (by decide)) ?_
  refine zcons (s_iload_n hx hb 3 dX6_hear_75 rfl) ?_
  refine zcons (s_if_ne hx hb 98 dX6_hear_76 (by decide)) ?_
  refine zcons (s_iload_n hx hb 2 dX6_hear_79 rfl) ?_
  refine zcons (s_bipush hx hb 6 dX6_hear_80 (by decide)) ?_
  refine zcons (s_c_eq hx hb 98 dX6_hear_82 (by decide)) ?_
  refine zcons (s_aload_n hx hb 0 dX6_hear_85 rfl) ?_
  refine zcons (s_aload_n hx hb 0 dX6_hear_86 rfl) ?_
  refine zcons (s_getR hx hb hts hown hK zcX6 hinX6 1 (by decide) w259 rfl (fun _ => 3) (zptf (by decide) (by decide +kernel)) dX6_hear_87) ?_
  refine zcons (s_iconst hx hb 0 dX6_hear_90 (by decide)) ?_
  refine zcons (s_callV (hZ := fun _ h => h) hx hb hts hml hown hK hro zcX4 (kX4_key l X) (zgoodV w563 w545 w546 w48 w547) rfl rfl rfl (by decide +kernel) ⟨Nat.le_of_ble_eq_true rfl, Nat.le_of_ble_eq_true rfl⟩ dX6_hear_91) ?_
  refine zcons (s_callV (hZ := fun _ h => h) hx hb hts hml hown hK hro zcX6 (kX6_take l X) (zgoodV w571 w573 w12 w52 w574) rfl rfl rfl (by decide +kernel) ⟨Nat.le_of_ble_eq_true rfl, Nat.le_of_ble_eq_true rfl⟩ dX6_hear_94) ?_
  refine zcons (s_iret hx hb hr hK hlk dX6_hear_97) ?_
  refine zcons (s_iload_n hx hb 1 dX6_hear_98 rfl) ?_
  refine zcons (s_iconst hx hb 2 dX6_hear_99 (by decide)) ?_
  refine zcons (s_c_ne hx hb 123 dX6_hear_100 (by decide)) ?_
  refine zcons (s_aload_n hx hb 0 dX6_hear_103 rfl) ?_
  refine zcons (s_iload_n hx hb 3 dX6_hear_104 rfl) ?_
  refine zcons (s_if_eq hx hb 115 dX6_hear_105 (by decide)) ?_
  refine zcons (s_aload_n hx hb 0 dX6_hear_108 rfl) ?_
  refine zcons (s_getI hx hb hts hown hK zcX6 hinX6 11 (by decide) w275 rfl (zptk (by decide) (by decide +kernel)) dX6_hear_109) ?_
  refine zcons (s_goto hx hb 119 dX6_hear_112 (by decide)) ?_
  refine zcons (s_aload_n hx hb 0 dX6_hear_115 rfl) ?_
  refine zcons (s_getI hx hb hts hown hK zcX6 hinX6 12 (by decide) w276 rfl (zptk (by decide) (by decide +kernel)) dX6_hear_116) ?_
  refine zcons (s_callV (hZ := fun _ h => h) hx hb hts hml hown hK hro zcX6 (kX6_take l X) (zgoodV w571 w573 w12 w52 w574) rfl rfl rfl (by decide +kernel) ⟨Nat.le_of_ble_eq_true rfl, Nat.le_of_ble_eq_true rfl⟩ dX6_hear_119) ?_
  refine zcons (s_iret hx hb hr hK hlk dX6_hear_122) ?_
  refine zcons (s_iload_n hx hb 3 dX6_hear_123 rfl) ?_
  refine zcons (s_if_eq hx hb 143 dX6_hear_124 (by decide)) ?_
  refine zcons (s_aload_n hx hb 0 dX6_hear_127 rfl) ?_
  refine zcons (s_aload_n hx hb 0 dX6_hear_128 rfl) ?_
  refine zcons (s_getI hx hb hts hown hK zcX6 hinX6 9 (by decide) w273 rfl (zptk (by decide) (by decide +kernel)) dX6_hear_129) ?_
  refine zcons (s_aload_n hx hb 0 dX6_hear_132 rfl) ?_
  refine zcons (s_getI hx hb hts hown hK zcX6 hinX6 10 (by decide) w274 rfl (zptk (by decide) (by decide +kernel)) dX6_hear_133) ?_
  refine zcons (s_iconst hx hb 1 dX6_hear_136 (by decide)) ?_
  refine zcons (s_callV (hZ := fun _ h => h) hx hb hts hml hown hK hro zcX6 (kX6_keep l X) (zgoodV w588 w590 w14 w52 w591) rfl rfl rfl (by decide +kernel) ⟨Nat.le_of_ble_eq_true rfl, Nat.le_of_ble_eq_true rfl⟩ dX6_hear_137) ?_
  refine zcons (s_goto hx hb 144 dX6_hear_140 (by decide)) ?_
  refine zcons (s_iconst hx hb 5 dX6_hear_143 (by decide)) ?_
  refine zcons (s_iret hx hb hr hK hlk dX6_hear_144) ?_
  exact znil
noncomputable def tX9_digits : List (Nat × AI) := [(0, a_aload 1 0), (1, a_getI 4 8 5), (4, a_push 5 (.inl (-1))), (5, a_c_ne 8 30), (8, a_aload 9 0), (9, a_getR 12 8 (fun _ => 1)), (12, a_iload 13 1), (13, a_callV 16 1 1 mX1_canName), (16, a_if_eq 19 30), (19, a_iload 20 2), (20, a_push 21 (.inl 1)), (21, a_c_lt 24 30), (24, a_iload 25 2), (25, a_push 27 (.inl 8)), (27, a_c_le 30 32), (30, a_push 31 (.inl (-1))), (31, a_iret), (32, a_aload 33 0), (33, a_getR 36 8 (fun _ => 4)), (36, a_push 37 (.inl 0)), (37, a_put 40 6 3), (40, a_aload 41 0), (41, a_getR 44 8 (fun _ => 1)), (44, a_iload 45 1), (45, a_iload 46 2), (46, a_iload 47 3), (47, a_iload 49 4), (49, a_callV 52 4 1 mX1_addDigits), (52, a_iret)]
noncomputable def mX9_digits : List AV → MM → Option AR := zsem tX9_digits 5 5
def wX9_digits : List Cond := .code yX9_digits cX9_digits 5 (some .int) :: lw_g
def rX9_digits : Room := { frames := 4, cells := 0, slots := 0, locals := 93 }
set_option maxHeartbeats 4000000 in
set_option maxRecDepth 100000 in
theorem kX9_digits (l : Launch) (X : XC) : zM l X yX9_digits wX9_digits rX9_digits mX9_digits := by
  refine zMet tX9_digits 5 (by decide) rfl (by decide) ?_
  intro p e s m args below meth c res hC
  obtain ⟨hx, hb, hr, hts0, hown, hml, hlk, hK⟩ := hC
  have hts : ∀ w ∈ lw_g, w.before args s = true := fun w h => hts0 w (List.mem_cons_of_mem _ h)
  have hro : 0 ≤ (headSpec wX9_digits rX9_digits).room.cells ∧ 0 ≤ (headSpec wX9_digits rX9_digits).room.slots := ⟨Nat.zero_le _, Nat.zero_le _⟩
  refine zcons (s_aload_n hx hb 0 dX9_digits_0 rfl) ?_
  refine zcons (s_getI hx hb hts hown hK zcX9 hinX9 5 (by decide) w309 rfl (zptk (by decide) (by decide +kernel)) dX9_digits_1) ?_
  refine zcons (s_iconst hx hb (-1) dX9_digits_4 (by decide)) ?_
  refine zcons (s_c_ne hx hb 30 dX9_digits_5 (by decide)) ?_
  refine zcons (s_aload_n hx hb 0 dX9_digits_8 rfl) ?_
  refine zcons (s_getR hx hb hts hown hK zcX9 hinX9 0 (by decide) w304 rfl (fun _ => 1) (zptf (by decide) (by decide +kernel)) dX9_digits_9) ?_
  refine zcons (s_iload_n hx hb 1 dX9_digits_12 rfl) ?_
  refine zcons (s_callV (hZ := fun _ h => h) hx hb hts hml hown hK hro zcX1 (kX1_canName l X) (zgoodV w333 w334 w335 w45 w336) rfl rfl rfl (by decide +kernel) ⟨Nat.le_of_ble_eq_true rfl, Nat.le_of_ble_eq_true rfl⟩ dX9_digits_13) ?_
  refine zcons (s_if_eq hx hb 30 dX9_digits_16 (by decide)) ?_
  refine zcons (s_iload_n hx hb 2 dX9_digits_19 rfl) ?_
  refine zcons (s_iconst hx hb 1 dX9_digits_20 (by decide)) ?_
  refine zcons (s_c_lt hx hb 30 dX9_digits_21 (by decide)) ?_
  refine zcons (s_iload_n hx hb 2 dX9_digits_24 rfl) ?_
  refine zcons (s_bipush hx hb 8 dX9_digits_25 (by decide)) ?_
  refine zcons (s_c_le hx hb 32 dX9_digits_27 (by decide)) ?_
  refine zcons (s_iconst hx hb (-1) dX9_digits_30 (by decide)) ?_
  refine zcons (s_iret hx hb hr hK hlk dX9_digits_31) ?_
  refine zcons (s_aload_n hx hb 0 dX9_digits_32 rfl) ?_
  refine zcons (s_getR hx hb hts hown hK zcX9 hinX9 3 (by decide) w307 rfl (fun _ => 4) (zptf (by decide) (by decide +kernel)) dX9_digits_33) ?_
  refine zcons (s_iconst hx hb 0 dX9_digits_36 (by decide)) ?_
  refine zcons (s_put (hZ := fun _ h => h) hx hb hts hown hK zcX6 hinX6 tyX6 tyX6_ok nmX6 3 (by decide) w262 rfl rfl (zptk (by decide) (by decide +kernel)) (by decide +kernel) dX9_digits_37) ?_
  refine zcons (s_aload_n hx hb 0 dX9_digits_40 rfl) ?_
  refine zcons (s_getR hx hb hts hown hK zcX9 hinX9 0 (by decide) w304 rfl (fun _ => 1) (zptf (by decide) (by decide +kernel)) dX9_digits_41) ?_
  refine zcons (s_iload_n hx hb 1 dX9_digits_44 rfl) ?_
  refine zcons (s_iload_n hx hb 2 dX9_digits_45 rfl) ?_
  refine zcons (s_iload_n hx hb 3 dX9_digits_46 rfl) ?_
  refine zcons (s_iload hx hb dX9_digits_47) ?_
  refine zcons (s_callV (hZ := fun _ h => h) hx hb hts hml hown hK hro zcX1 (kX1_addDigits l X) (zgoodV w344 w345 w346 w45 w347) rfl rfl rfl (by decide +kernel) ⟨Nat.le_of_ble_eq_true rfl, Nat.le_of_ble_eq_true rfl⟩ dX9_digits_49) ?_
  refine zcons (s_iret hx hb hr hK hlk dX9_digits_52) ?_
  exact znil
noncomputable def tX9_countOffered : List (Nat × AI) := [(0, a_push 1 (.inl 0)), (1, a_istore 2 1), (2, a_iload 3 1), (3, a_push 5 (.inl 6)), (5, a_c_ge 8 68), (8, a_aload 9 0), (9, a_getR 12 8 (fun _ => 5)), (12, a_iload 13 1), (13, a_ald 14 10), (14, a_push 15 (.inl (-1))), (15, a_c_eq 18 68), (18, a_aload 19 0), (19, a_getR 22 8 (fun _ => 5)), (22, a_iload 23 1), (23, a_ald 24 10), (24, a_callS 27 1 mX9_isName), (27, a_if_ne 30 32), (30, a_push 31 (.inl 0)), (31, a_iret), (32, a_push 33 (.inl 0)), (33, a_istore 34 2), (34, a_iload 35 2), (35, a_iload 36 1), (36, a_c_ge 39 62), (39, a_aload 40 0), (40, a_getR 43 8 (fun _ => 5)), (43, a_iload 44 2), (44, a_ald 45 10), (45, a_aload 46 0), (46, a_getR 49 8 (fun _ => 5)), (49, a_iload 50 1), (50, a_ald 51 10), (51, a_c_ne 54 56), (54, a_push 55 (.inl 0)), (55, a_iret), (56, a_iinc 59 2 1), (59, a_goto 34), (62, a_iinc 65 1 1), (65, a_goto 2), (68, a_iload 69 1), (69, a_iret)]
noncomputable def mX9_countOffered : List AV → MM → Option AR := zsem tX9_countOffered 3 1
def wX9_countOffered : List Cond := .code yX9_countOffered cX9_countOffered 3 (some .int) :: lw_g
def rX9_countOffered : Room := { frames := 1, cells := 0, slots := 0, locals := 20 }
set_option maxHeartbeats 4000000 in
set_option maxRecDepth 100000 in
theorem kX9_countOffered (l : Launch) (X : XC) : zM l X yX9_countOffered wX9_countOffered rX9_countOffered mX9_countOffered := by
  refine zMet tX9_countOffered 1 (by decide) rfl (by decide) ?_
  intro p e s m args below meth c res hC
  obtain ⟨hx, hb, hr, hts0, hown, hml, hlk, hK⟩ := hC
  have hts : ∀ w ∈ lw_g, w.before args s = true := fun w h => hts0 w (List.mem_cons_of_mem _ h)
  have hro : 0 ≤ (headSpec wX9_countOffered rX9_countOffered).room.cells ∧ 0 ≤ (headSpec wX9_countOffered rX9_countOffered).room.slots := ⟨Nat.zero_le _, Nat.zero_le _⟩
  refine zcons (s_iconst hx hb 0 dX9_countOffered_0 (by decide)) ?_
  refine zcons (s_istore_n hx hb 1 dX9_countOffered_1 rfl) ?_
  refine zcons (s_iload_n hx hb 1 dX9_countOffered_2 rfl) ?_
  refine zcons (s_bipush hx hb 6 dX9_countOffered_3 (by decide)) ?_
  refine zcons (s_c_ge hx hb 68 dX9_countOffered_5 (by decide)) ?_
  refine zcons (s_aload_n hx hb 0 dX9_countOffered_8 rfl) ?_
  refine zcons (s_getR hx hb hts hown hK zcX9 hinX9 4 (by decide) w308 rfl (fun _ => 5) (zptf (by decide) (by decide +kernel)) dX9_countOffered_9) ?_
  refine zcons (s_iload_n hx hb 1 dX9_countOffered_12 rfl) ?_
  refine zcons (s_iald hx hb hK dX9_countOffered_13) ?_
  refine zcons (s_iconst hx hb (-1) dX9_countOffered_14 (by decide)) ?_
  refine zcons (s_c_eq hx hb 68 dX9_countOffered_15 (by decide)) ?_
  refine zcons (s_aload_n hx hb 0 dX9_countOffered_18 rfl) ?_
  refine zcons (s_getR hx hb hts hown hK zcX9 hinX9 4 (by decide) w308 rfl (fun _ => 5) (zptf (by decide) (by decide +kernel)) dX9_countOffered_19) ?_
  refine zcons (s_iload_n hx hb 1 dX9_countOffered_22 rfl) ?_
  refine zcons (s_iald hx hb hK dX9_countOffered_23) ?_
  refine zcons (s_callS (hZ := fun _ h => h) hx hb hts hml hown hK hro (kX9_isName l X) (va_cwS 1 hts (zgoodS w373 w338 w44 w339) rfl rfl rfl (by decide +kernel) ⟨Nat.le_of_ble_eq_true rfl, Nat.le_of_ble_eq_true rfl⟩) dX9_countOffered_24) ?_
  refine zcons (s_if_ne hx hb 32 dX9_countOffered_27 (by decide)) ?_
  refine zcons (s_iconst hx hb 0 dX9_countOffered_30 (by decide)) ?_
  refine zcons (s_iret hx hb hr hK hlk dX9_countOffered_31) ?_
  refine zcons (s_iconst hx hb 0 dX9_countOffered_32 (by decide)) ?_
  refine zcons (s_istore_n hx hb 2 dX9_countOffered_33 rfl) ?_
  refine zcons (s_iload_n hx hb 2 dX9_countOffered_34 rfl) ?_
  refine zcons (s_iload_n hx hb 1 dX9_countOffered_35 rfl) ?_
  refine zcons (s_c_ge hx hb 62 dX9_countOffered_36 (by decide)) ?_
  refine zcons (s_aload_n hx hb 0 dX9_countOffered_39 rfl) ?_
  refine zcons (s_getR hx hb hts hown hK zcX9 hinX9 4 (by decide) w308 rfl (fun _ => 5) (zptf (by decide) (by decide +kernel)) dX9_countOffered_40) ?_
  refine zcons (s_iload_n hx hb 2 dX9_countOffered_43 rfl) ?_
  refine zcons (s_iald hx hb hK dX9_countOffered_44) ?_
  refine zcons (s_aload_n hx hb 0 dX9_countOffered_45 rfl) ?_
  refine zcons (s_getR hx hb hts hown hK zcX9 hinX9 4 (by decide) w308 rfl (fun _ => 5) (zptf (by decide) (by decide +kernel)) dX9_countOffered_46) ?_
  refine zcons (s_iload_n hx hb 1 dX9_countOffered_49 rfl) ?_
  refine zcons (s_iald hx hb hK dX9_countOffered_50) ?_
  refine zcons (s_c_ne hx hb 56 dX9_countOffered_51 (by decide)) ?_
  refine zcons (s_iconst hx hb 0 dX9_countOffered_54 (by decide)) ?_
  refine zcons (s_iret hx hb hr hK hlk dX9_countOffered_55) ?_
  refine zcons (s_iinc hx hb 1 dX9_countOffered_56 (by decide)) ?_
  refine zcons (s_goto hx hb 34 dX9_countOffered_59 (by decide)) ?_
  refine zcons (s_iinc hx hb 1 dX9_countOffered_62 (by decide)) ?_
  refine zcons (s_goto hx hb 2 dX9_countOffered_65 (by decide)) ?_
  refine zcons (s_iload_n hx hb 1 dX9_countOffered_68 rfl) ?_
  refine zcons (s_iret hx hb hr hK hlk dX9_countOffered_69) ?_
  exact znil
noncomputable def tX9_choice : List (Nat × AI) := [(0, a_aload 1 0), (1, a_getR 4 8 (fun _ => 5)), (4, a_push 5 (.inl 0)), (5, a_iload 6 3), (6, a_ast 7), (7, a_aload 8 0), (8, a_getR 11 8 (fun _ => 5)), (11, a_push 12 (.inl 1)), (12, a_iload 14 4), (14, a_ast 15), (15, a_aload 16 0), (16, a_getR 19 8 (fun _ => 5)), (19, a_push 20 (.inl 2)), (20, a_iload 22 5), (22, a_ast 23), (23, a_aload 24 0), (24, a_getR 27 8 (fun _ => 5)), (27, a_push 28 (.inl 3)), (28, a_iload 30 6), (30, a_ast 31), (31, a_aload 32 0), (32, a_getR 35 8 (fun _ => 5)), (35, a_push 36 (.inl 4)), (36, a_iload 38 7), (38, a_ast 39), (39, a_aload 40 0), (40, a_getR 43 8 (fun _ => 5)), (43, a_push 44 (.inl 5)), (44, a_iload 46 8), (46, a_ast 47), (47, a_aload 48 0), (48, a_callV 51 0 8 mX9_countOffered), (51, a_istore 53 9), (53, a_aload 54 0), (54, a_getI 57 8 5), (57, a_push 58 (.inl (-1))), (58, a_c_ne 61 77), (61, a_aload 62 0), (62, a_getR 65 8 (fun _ => 1)), (65, a_iload 66 1), (66, a_callV 69 1 1 mX1_canName), (69, a_if_eq 72 77), (72, a_iload 74 9), (74, a_if_ne 77 79), (77, a_push 78 (.inl (-1))), (78, a_iret), (79, a_aload 80 0), (80, a_getR 83 8 (fun _ => 4)), (83, a_push 84 (.inl 0)), (84, a_put 87 6 3), (87, a_aload 88 0), (88, a_getR 91 8 (fun _ => 1)), (91, a_iload 92 1), (92, a_iload 93 2), (93, a_aload 94 0), (94, a_getR 97 8 (fun _ => 5)), (97, a_iload 99 9), (99, a_callV 102 4 1 mX1_addChoice), (102, a_iret)]
noncomputable def mX9_choice : List AV → MM → Option AR := zsem tX9_choice 10 9
def wX9_choice : List Cond := .code yX9_choice cX9_choice 10 (some .int) :: lw_g
def rX9_choice : Room := { frames := 4, cells := 0, slots := 0, locals := 94 }
set_option maxHeartbeats 4000000 in
set_option maxRecDepth 100000 in
theorem kX9_choice (l : Launch) (X : XC) : zM l X yX9_choice wX9_choice rX9_choice mX9_choice := by
  refine zMet tX9_choice 9 (by decide) rfl (by decide) ?_
  intro p e s m args below meth c res hC
  obtain ⟨hx, hb, hr, hts0, hown, hml, hlk, hK⟩ := hC
  have hts : ∀ w ∈ lw_g, w.before args s = true := fun w h => hts0 w (List.mem_cons_of_mem _ h)
  have hro : 0 ≤ (headSpec wX9_choice rX9_choice).room.cells ∧ 0 ≤ (headSpec wX9_choice rX9_choice).room.slots := ⟨Nat.zero_le _, Nat.zero_le _⟩
  refine zcons (s_aload_n hx hb 0 dX9_choice_0 rfl) ?_
  refine zcons (s_getR hx hb hts hown hK zcX9 hinX9 4 (by decide) w308 rfl (fun _ => 5) (zptf (by decide) (by decide +kernel)) dX9_choice_1) ?_
  refine zcons (s_iconst hx hb 0 dX9_choice_4 (by decide)) ?_
  refine zcons (s_iload_n hx hb 3 dX9_choice_5 rfl) ?_
  refine zcons (s_iast (hZ := fun _ h => h) hx hb hK dX9_choice_6) ?_
  refine zcons (s_aload_n hx hb 0 dX9_choice_7 rfl) ?_
  refine zcons (s_getR hx hb hts hown hK zcX9 hinX9 4 (by decide) w308 rfl (fun _ => 5) (zptf (by decide) (by decide +kernel)) dX9_choice_8) ?_
  refine zcons (s_iconst hx hb 1 dX9_choice_11 (by decide)) ?_
  refine zcons (s_iload hx hb dX9_choice_12) ?_
  refine zcons (s_iast (hZ := fun _ h => h) hx hb hK dX9_choice_14) ?_
  refine zcons (s_aload_n hx hb 0 dX9_choice_15 rfl) ?_
  refine zcons (s_getR hx hb hts hown hK zcX9 hinX9 4 (by decide) w308 rfl (fun _ => 5) (zptf (by decide) (by decide +kernel)) dX9_choice_16) ?_
  refine zcons (s_iconst hx hb 2 dX9_choice_19 (by decide)) ?_
  refine zcons (s_iload hx hb dX9_choice_20) ?_
  refine zcons (s_iast (hZ := fun _ h => h) hx hb hK dX9_choice_22) ?_
  refine zcons (s_aload_n hx hb 0 dX9_choice_23 rfl) ?_
  refine zcons (s_getR hx hb hts hown hK zcX9 hinX9 4 (by decide) w308 rfl (fun _ => 5) (zptf (by decide) (by decide +kernel)) dX9_choice_24) ?_
  refine zcons (s_iconst hx hb 3 dX9_choice_27 (by decide)) ?_
  refine zcons (s_iload hx hb dX9_choice_28) ?_
  refine zcons (s_iast (hZ := fun _ h => h) hx hb hK dX9_choice_30) ?_
  refine zcons (s_aload_n hx hb 0 dX9_choice_31 rfl) ?_
  refine zcons (s_getR hx hb hts hown hK zcX9 hinX9 4 (by decide) w308 rfl (fun _ => 5) (zptf (by decide) (by decide +kernel)) dX9_choice_32) ?_
  refine zcons (s_iconst hx hb 4 dX9_choice_35 (by decide)) ?_
  refine zcons (s_iload hx hb dX9_choice_36) ?_
  refine zcons (s_iast (hZ := fun _ h => h) hx hb hK dX9_choice_38) ?_
  refine zcons (s_aload_n hx hb 0 dX9_choice_39 rfl) ?_
  refine zcons (s_getR hx hb hts hown hK zcX9 hinX9 4 (by decide) w308 rfl (fun _ => 5) (zptf (by decide) (by decide +kernel)) dX9_choice_40) ?_
  refine zcons (s_iconst hx hb 5 dX9_choice_43 (by decide)) ?_
  refine zcons (s_iload hx hb dX9_choice_44) ?_
  refine zcons (s_iast (hZ := fun _ h => h) hx hb hK dX9_choice_46) ?_
  refine zcons (s_aload_n hx hb 0 dX9_choice_47 rfl) ?_
  refine zcons (s_callV (hZ := fun _ h => h) hx hb hts hml hown hK hro zcX9 (kX9_countOffered l X) (zgoodV w369 w371 w2 w44 w372) rfl rfl rfl (by decide +kernel) ⟨Nat.le_of_ble_eq_true rfl, Nat.le_of_ble_eq_true rfl⟩ dX9_choice_48) ?_
  refine zcons (s_istore hx hb dX9_choice_51) ?_
  refine zcons (s_aload_n hx hb 0 dX9_choice_53 rfl) ?_
  refine zcons (s_getI hx hb hts hown hK zcX9 hinX9 5 (by decide) w309 rfl (zptk (by decide) (by decide +kernel)) dX9_choice_54) ?_
  refine zcons (s_iconst hx hb (-1) dX9_choice_57 (by decide)) ?_
  refine zcons (s_c_ne hx hb 77 dX9_choice_58 (by decide)) ?_
  refine zcons (s_aload_n hx hb 0 dX9_choice_61 rfl) ?_
  refine zcons (s_getR hx hb hts hown hK zcX9 hinX9 0 (by decide) w304 rfl (fun _ => 1) (zptf (by decide) (by decide +kernel)) dX9_choice_62) ?_
  refine zcons (s_iload_n hx hb 1 dX9_choice_65 rfl) ?_
  refine zcons (s_callV (hZ := fun _ h => h) hx hb hts hml hown hK hro zcX1 (kX1_canName l X) (zgoodV w333 w334 w335 w45 w336) rfl rfl rfl (by decide +kernel) ⟨Nat.le_of_ble_eq_true rfl, Nat.le_of_ble_eq_true rfl⟩ dX9_choice_66) ?_
  refine zcons (s_if_eq hx hb 77 dX9_choice_69 (by decide)) ?_
  refine zcons (s_iload hx hb dX9_choice_72) ?_
  refine zcons (s_if_ne hx hb 79 dX9_choice_74 (by decide)) ?_
  refine zcons (s_iconst hx hb (-1) dX9_choice_77 (by decide)) ?_
  refine zcons (s_iret hx hb hr hK hlk dX9_choice_78) ?_
  refine zcons (s_aload_n hx hb 0 dX9_choice_79 rfl) ?_
  refine zcons (s_getR hx hb hts hown hK zcX9 hinX9 3 (by decide) w307 rfl (fun _ => 4) (zptf (by decide) (by decide +kernel)) dX9_choice_80) ?_
  refine zcons (s_iconst hx hb 0 dX9_choice_83 (by decide)) ?_
  refine zcons (s_put (hZ := fun _ h => h) hx hb hts hown hK zcX6 hinX6 tyX6 tyX6_ok nmX6 3 (by decide) w262 rfl rfl (zptk (by decide) (by decide +kernel)) (by decide +kernel) dX9_choice_84) ?_
  refine zcons (s_aload_n hx hb 0 dX9_choice_87 rfl) ?_
  refine zcons (s_getR hx hb hts hown hK zcX9 hinX9 0 (by decide) w304 rfl (fun _ => 1) (zptf (by decide) (by decide +kernel)) dX9_choice_88) ?_
  refine zcons (s_iload_n hx hb 1 dX9_choice_91 rfl) ?_
  refine zcons (s_iload_n hx hb 2 dX9_choice_92 rfl) ?_
  refine zcons (s_aload_n hx hb 0 dX9_choice_93 rfl) ?_
  refine zcons (s_getR hx hb hts hown hK zcX9 hinX9 4 (by decide) w308 rfl (fun _ => 5) (zptf (by decide) (by decide +kernel)) dX9_choice_94) ?_
  refine zcons (s_iload hx hb dX9_choice_97) ?_
  refine zcons (s_callV (hZ := fun _ h => h) hx hb hts hml hown hK hro zcX1 (kX1_addChoice l X) (zgoodV w374 w375 w376 w45 w377) rfl rfl rfl (by decide +kernel) ⟨Nat.le_of_ble_eq_true rfl, Nat.le_of_ble_eq_true rfl⟩ dX9_choice_99) ?_
  refine zcons (s_iret hx hb hr hK hlk dX9_choice_102) ?_
  exact znil
noncomputable def tX9_needs : List (Nat × AI) := [(0, a_aload 1 0), (1, a_getI 4 8 5), (4, a_push 5 (.inl (-1))), (5, a_c_ne 8 25), (8, a_aload 9 0), (9, a_getR 12 8 (fun _ => 1)), (12, a_iload 13 1), (13, a_iload 14 2), (14, a_iload 15 3), (15, a_callV 18 3 1 mX1_addNeed), (18, a_if_eq 21 25), (21, a_push 22 (.inl 1)), (22, a_goto 26), (25, a_push 26 (.inl 0)), (26, a_zret)]
noncomputable def mX9_needs : List AV → MM → Option AR := zsem tX9_needs 4 4
def wX9_needs : List Cond := .code yX9_needs cX9_needs 4 (some .boolean) :: lw_g
def rX9_needs : Room := { frames := 3, cells := 0, slots := 0, locals := 69 }
set_option maxHeartbeats 4000000 in
set_option maxRecDepth 100000 in
theorem kX9_needs (l : Launch) (X : XC) : zM l X yX9_needs wX9_needs rX9_needs mX9_needs := by
  refine zMet tX9_needs 4 (by decide) rfl (by decide) ?_
  intro p e s m args below meth c res hC
  obtain ⟨hx, hb, hr, hts0, hown, hml, hlk, hK⟩ := hC
  have hts : ∀ w ∈ lw_g, w.before args s = true := fun w h => hts0 w (List.mem_cons_of_mem _ h)
  have hro : 0 ≤ (headSpec wX9_needs rX9_needs).room.cells ∧ 0 ≤ (headSpec wX9_needs rX9_needs).room.slots := ⟨Nat.zero_le _, Nat.zero_le _⟩
  refine zcons (s_aload_n hx hb 0 dX9_needs_0 rfl) ?_
  refine zcons (s_getI hx hb hts hown hK zcX9 hinX9 5 (by decide) w309 rfl (zptk (by decide) (by decide +kernel)) dX9_needs_1) ?_
  refine zcons (s_iconst hx hb (-1) dX9_needs_4 (by decide)) ?_
  refine zcons (s_c_ne hx hb 25 dX9_needs_5 (by decide)) ?_
  refine zcons (s_aload_n hx hb 0 dX9_needs_8 rfl) ?_
  refine zcons (s_getR hx hb hts hown hK zcX9 hinX9 0 (by decide) w304 rfl (fun _ => 1) (zptf (by decide) (by decide +kernel)) dX9_needs_9) ?_
  refine zcons (s_iload_n hx hb 1 dX9_needs_12 rfl) ?_
  refine zcons (s_iload_n hx hb 2 dX9_needs_13 rfl) ?_
  refine zcons (s_iload_n hx hb 3 dX9_needs_14 rfl) ?_
  refine zcons (s_callV (hZ := fun _ h => h) hx hb hts hml hown hK hro zcX1 (kX1_addNeed l X) (zgoodV w382 w383 w384 w45 w385) rfl rfl rfl (by decide +kernel) ⟨Nat.le_of_ble_eq_true rfl, Nat.le_of_ble_eq_true rfl⟩ dX9_needs_15) ?_
  refine zcons (s_if_eq hx hb 25 dX9_needs_18 (by decide)) ?_
  refine zcons (s_iconst hx hb 1 dX9_needs_21 (by decide)) ?_
  refine zcons (s_goto hx hb 26 dX9_needs_22 (by decide)) ?_
  refine zcons (s_iconst hx hb 0 dX9_needs_25 (by decide)) ?_
  refine zcons (s_zret hx hb hr hK hlk dX9_needs_26) ?_
  exact znil
noncomputable def tX9_costs : List (Nat × AI) := [(0, a_iload 1 1), (1, a_push 3 (.inl 99)), (3, a_callS 6 2 mX9_isWithin), (6, a_if_eq 9 28), (9, a_iload 10 2), (10, a_push 12 (.inl 99)), (12, a_callS 15 2 mX9_isWithin), (15, a_if_eq 18 28), (18, a_iload 19 3), (19, a_push 22 (.inl 200)), (22, a_callS 25 2 mX9_isWithin), (25, a_if_ne 28 30), (28, a_push 29 (.inl 0)), (29, a_zret), (30, a_aload 31 0), (31, a_getR 34 8 (fun _ => 3)), (34, a_iload 35 1), (35, a_put 38 4 4), (38, a_aload 39 0), (39, a_getR 42 8 (fun _ => 3)), (42, a_iload 43 2), (43, a_put 46 4 5), (46, a_aload 47 0), (47, a_getR 50 8 (fun _ => 3)), (50, a_iload 51 3), (51, a_put 54 4 6), (54, a_push 55 (.inl 1)), (55, a_zret)]
noncomputable def mX9_costs : List AV → MM → Option AR := zsem tX9_costs 4 4
def wX9_costs : List Cond := .code yX9_costs cX9_costs 4 (some .boolean) :: lw_g
def rX9_costs : Room := { frames := 1, cells := 0, slots := 0, locals := 21 }
set_option maxHeartbeats 4000000 in
set_option maxRecDepth 100000 in
theorem kX9_costs (l : Launch) (X : XC) : zM l X yX9_costs wX9_costs rX9_costs mX9_costs := by
  refine zMet tX9_costs 4 (by decide) rfl (by decide) ?_
  intro p e s m args below meth c res hC
  obtain ⟨hx, hb, hr, hts0, hown, hml, hlk, hK⟩ := hC
  have hts : ∀ w ∈ lw_g, w.before args s = true := fun w h => hts0 w (List.mem_cons_of_mem _ h)
  have hro : 0 ≤ (headSpec wX9_costs rX9_costs).room.cells ∧ 0 ≤ (headSpec wX9_costs rX9_costs).room.slots := ⟨Nat.zero_le _, Nat.zero_le _⟩
  refine zcons (s_iload_n hx hb 1 dX9_costs_0 rfl) ?_
  refine zcons (s_bipush hx hb 99 dX9_costs_1 (by decide)) ?_
  refine zcons (s_callS (hZ := fun _ h => h) hx hb hts hml hown hK hro (kX9_isWithin l X) (va_cwS 2 hts (zgoodS w390 w391 w44 w392) rfl rfl rfl (by decide +kernel) ⟨Nat.le_of_ble_eq_true rfl, Nat.le_of_ble_eq_true rfl⟩) dX9_costs_3) ?_
  refine zcons (s_if_eq hx hb 28 dX9_costs_6 (by decide)) ?_
  refine zcons (s_iload_n hx hb 2 dX9_costs_9 rfl) ?_
  refine zcons (s_bipush hx hb 99 dX9_costs_10 (by decide)) ?_
  refine zcons (s_callS (hZ := fun _ h => h) hx hb hts hml hown hK hro (kX9_isWithin l X) (va_cwS 2 hts (zgoodS w390 w391 w44 w392) rfl rfl rfl (by decide +kernel) ⟨Nat.le_of_ble_eq_true rfl, Nat.le_of_ble_eq_true rfl⟩) dX9_costs_12) ?_
  refine zcons (s_if_eq hx hb 28 dX9_costs_15 (by decide)) ?_
  refine zcons (s_iload_n hx hb 3 dX9_costs_18 rfl) ?_
  refine zcons (s_sipush hx hb 200 dX9_costs_19 (by decide)) ?_
  refine zcons (s_callS (hZ := fun _ h => h) hx hb hts hml hown hK hro (kX9_isWithin l X) (va_cwS 2 hts (zgoodS w390 w391 w44 w392) rfl rfl rfl (by decide +kernel) ⟨Nat.le_of_ble_eq_true rfl, Nat.le_of_ble_eq_true rfl⟩) dX9_costs_22) ?_
  refine zcons (s_if_ne hx hb 30 dX9_costs_25 (by decide)) ?_
  refine zcons (s_iconst hx hb 0 dX9_costs_28 (by decide)) ?_
  refine zcons (s_zret hx hb hr hK hlk dX9_costs_29) ?_
  refine zcons (s_aload_n hx hb 0 dX9_costs_30 rfl) ?_
  refine zcons (s_getR hx hb hts hown hK zcX9 hinX9 2 (by decide) w306 rfl (fun _ => 3) (zptf (by decide) (by decide +kernel)) dX9_costs_31) ?_
  refine zcons (s_iload_n hx hb 1 dX9_costs_34 rfl) ?_
  refine zcons (s_put (hZ := fun _ h => h) hx hb hts hown hK zcX4 hinX4 tyX4 tyX4_ok nmX4 4 (by decide) w219 rfl rfl (zptk (by decide) (by decide +kernel)) (by decide +kernel) dX9_costs_35) ?_
  refine zcons (s_aload_n hx hb 0 dX9_costs_38 rfl) ?_
  refine zcons (s_getR hx hb hts hown hK zcX9 hinX9 2 (by decide) w306 rfl (fun _ => 3) (zptf (by decide) (by decide +kernel)) dX9_costs_39) ?_
  refine zcons (s_iload_n hx hb 2 dX9_costs_42 rfl) ?_
  refine zcons (s_put (hZ := fun _ h => h) hx hb hts hown hK zcX4 hinX4 tyX4 tyX4_ok nmX4 5 (by decide) w221 rfl rfl (zptk (by decide) (by decide +kernel)) (by decide +kernel) dX9_costs_43) ?_
  refine zcons (s_aload_n hx hb 0 dX9_costs_46 rfl) ?_
  refine zcons (s_getR hx hb hts hown hK zcX9 hinX9 2 (by decide) w306 rfl (fun _ => 3) (zptf (by decide) (by decide +kernel)) dX9_costs_47) ?_
  refine zcons (s_iload_n hx hb 3 dX9_costs_50 rfl) ?_
  refine zcons (s_put (hZ := fun _ h => h) hx hb hts hown hK zcX4 hinX4 tyX4 tyX4_ok nmX4 6 (by decide) w223 rfl rfl (zptk (by decide) (by decide +kernel)) (by decide +kernel) dX9_costs_51) ?_
  refine zcons (s_iconst hx hb 1 dX9_costs_54 (by decide)) ?_
  refine zcons (s_zret hx hb hr hK hlk dX9_costs_55) ?_
  exact znil
noncomputable def tX9_place : List (Nat × AI) := [(0, a_aload 1 0), (1, a_getR 4 8 (fun _ => 2)), (4, a_callV 7 0 2 mX2_addPlace), (7, a_iret)]
noncomputable def mX9_place : List AV → MM → Option AR := zsem tX9_place 1 1
def wX9_place : List Cond := .code yX9_place cX9_place 1 (some .int) :: lw_g
def rX9_place : Room := { frames := 1, cells := 0, slots := 0, locals := 20 }
set_option maxHeartbeats 4000000 in
set_option maxRecDepth 100000 in
theorem kX9_place (l : Launch) (X : XC) : zM l X yX9_place wX9_place rX9_place mX9_place := by
  refine zMet tX9_place 1 (by decide) rfl (by decide) ?_
  intro p e s m args below meth c res hC
  obtain ⟨hx, hb, hr, hts0, hown, hml, hlk, hK⟩ := hC
  have hts : ∀ w ∈ lw_g, w.before args s = true := fun w h => hts0 w (List.mem_cons_of_mem _ h)
  have hro : 0 ≤ (headSpec wX9_place rX9_place).room.cells ∧ 0 ≤ (headSpec wX9_place rX9_place).room.slots := ⟨Nat.zero_le _, Nat.zero_le _⟩
  refine zcons (s_aload_n hx hb 0 dX9_place_0 rfl) ?_
  refine zcons (s_getR hx hb hts hown hK zcX9 hinX9 1 (by decide) w305 rfl (fun _ => 2) (zptf (by decide) (by decide +kernel)) dX9_place_1) ?_
  refine zcons (s_callV (hZ := fun _ h => h) hx hb hts hml hown hK hro zcX2 (kX2_addPlace l X) (zgoodV w397 w398 w399 w47 w400) rfl rfl rfl (by decide +kernel) ⟨Nat.le_of_ble_eq_true rfl, Nat.le_of_ble_eq_true rfl⟩ dX9_place_4) ?_
  refine zcons (s_iret hx hb hr hK hlk dX9_place_7) ?_
  exact znil
noncomputable def tX9_word : List (Nat × AI) := [(0, a_iload 1 1), (1, a_push 3 (.inl 59)), (3, a_callS 6 2 mX9_isWithin), (6, a_if_eq 9 18), (9, a_iload 10 2), (10, a_push 12 (.inl 99)), (12, a_callS 15 2 mX9_isWithin), (15, a_if_ne 18 20), (18, a_push 19 (.inl (-1))), (19, a_iret), (20, a_aload 21 0), (21, a_getR 24 8 (fun _ => 2)), (24, a_iload 25 1), (25, a_iload 26 2), (26, a_callV 29 2 2 mX2_addWord), (29, a_iret)]
noncomputable def mX9_word : List AV → MM → Option AR := zsem tX9_word 3 3
def wX9_word : List Cond := .code yX9_word cX9_word 3 (some .int) :: lw_g
def rX9_word : Room := { frames := 4, cells := 0, slots := 0, locals := 91 }
set_option maxHeartbeats 4000000 in
set_option maxRecDepth 100000 in
theorem kX9_word (l : Launch) (X : XC) : zM l X yX9_word wX9_word rX9_word mX9_word := by
  refine zMet tX9_word 3 (by decide) rfl (by decide) ?_
  intro p e s m args below meth c res hC
  obtain ⟨hx, hb, hr, hts0, hown, hml, hlk, hK⟩ := hC
  have hts : ∀ w ∈ lw_g, w.before args s = true := fun w h => hts0 w (List.mem_cons_of_mem _ h)
  have hro : 0 ≤ (headSpec wX9_word rX9_word).room.cells ∧ 0 ≤ (headSpec wX9_word rX9_word).room.slots := ⟨Nat.zero_le _, Nat.zero_le _⟩
  refine zcons (s_iload_n hx hb 1 dX9_word_0 rfl) ?_
  refine zcons (s_bipush hx hb 59 dX9_word_1 (by decide)) ?_
  refine zcons (s_callS (hZ := fun _ h => h) hx hb hts hml hown hK hro (kX9_isWithin l X) (va_cwS 2 hts (zgoodS w390 w391 w44 w392) rfl rfl rfl (by decide +kernel) ⟨Nat.le_of_ble_eq_true rfl, Nat.le_of_ble_eq_true rfl⟩) dX9_word_3) ?_
  refine zcons (s_if_eq hx hb 18 dX9_word_6 (by decide)) ?_
  refine zcons (s_iload_n hx hb 2 dX9_word_9 rfl) ?_
  refine zcons (s_bipush hx hb 99 dX9_word_10 (by decide)) ?_
  refine zcons (s_callS (hZ := fun _ h => h) hx hb hts hml hown hK hro (kX9_isWithin l X) (va_cwS 2 hts (zgoodS w390 w391 w44 w392) rfl rfl rfl (by decide +kernel) ⟨Nat.le_of_ble_eq_true rfl, Nat.le_of_ble_eq_true rfl⟩) dX9_word_12) ?_
  refine zcons (s_if_ne hx hb 20 dX9_word_15 (by decide)) ?_
  refine zcons (s_iconst hx hb (-1) dX9_word_18 (by decide)) ?_
  refine zcons (s_iret hx hb hr hK hlk dX9_word_19) ?_
  refine zcons (s_aload_n hx hb 0 dX9_word_20 rfl) ?_
  refine zcons (s_getR hx hb hts hown hK zcX9 hinX9 1 (by decide) w305 rfl (fun _ => 2) (zptf (by decide) (by decide +kernel)) dX9_word_21) ?_
  refine zcons (s_iload_n hx hb 1 dX9_word_24 rfl) ?_
  refine zcons (s_iload_n hx hb 2 dX9_word_25 rfl) ?_
  refine zcons (s_callV (hZ := fun _ h => h) hx hb hts hml hown hK hro zcX2 (kX2_addWord l X) (zgoodV w405 w406 w407 w47 w408) rfl rfl rfl (by decide +kernel) ⟨Nat.le_of_ble_eq_true rfl, Nat.le_of_ble_eq_true rfl⟩ dX9_word_26) ?_
  refine zcons (s_iret hx hb hr hK hlk dX9_word_29) ?_
  exact znil
noncomputable def tX9_differingDigits : List (Nat × AI) := [(0, a_aload 1 0), (1, a_getR 4 8 (fun _ => 1)), (4, a_aload 5 0), (5, a_getR 8 8 (fun _ => 4)), (8, a_getI 11 6 3), (11, a_callV 14 1 1 mX1_slotAt), (14, a_astore 15 1), (15, a_aload 16 1), (16, a_null 19 41), (19, a_aload 20 0), (20, a_getR 23 8 (fun _ => 3)), (23, a_push 24 (.inl 0)), (24, a_callV 27 1 4 mX4_sort), (27, a_if_ne 30 41), (30, a_aload 31 0), (31, a_getR 34 8 (fun _ => 3)), (34, a_push 35 (.inl 1)), (35, a_callV 38 1 4 mX4_sort), (38, a_if_eq 41 43), (41, a_push 42 (.inl 0)), (42, a_iret), (43, a_push 44 (.inl 0)), (44, a_istore 45 2), (45, a_aload 46 0), (46, a_getR 49 8 (fun _ => 3)), (49, a_push 50 (.inl 0)), (50, a_callV 53 1 4 mX4_value), (53, a_istore 54 3), (54, a_aload 55 0), (55, a_getR 58 8 (fun _ => 3)), (58, a_push 59 (.inl 1)), (59, a_callV 62 1 4 mX4_value), (62, a_istore 64 4), (64, a_aload 65 1), (65, a_getI 68 5 1), (68, a_push 69 (.inl 1)), (69, a_bin 70 (fun x y => x - y)), (70, a_istore 72 5), (72, a_iload 74 5), (74, a_if_lt 77 114), (77, a_iload 78 3), (78, a_push 80 (.inl 10)), (80, a_rem 81), (81, a_iload 83 4), (83, a_push 85 (.inl 10)), (85, a_rem 86), (86, a_c_eq 89 96), (89, a_iload 90 2), (90, a_push 91 (.inl 1)), (91, a_iload 93 5), (93, a_bin 94 (fun x y => x <<< (y &&& 31))), (94, a_bin 95 (fun x y => x ||| y)), (95, a_istore 96 2), (96, a_iload 97 3), (97, a_push 99 (.inl 10)), (99, a_div 100), (100, a_istore 101 3), (101, a_iload 103 4), (103, a_push 105 (.inl 10)), (105, a_div 106), (106, a_istore 108 4), (108, a_iinc 111 5 (-1)), (111, a_goto 72), (114, a_iload 115 2), (115, a_iret)]
noncomputable def mX9_differingDigits : List AV → MM → Option AR := zsem tX9_differingDigits 6 1
def wX9_differingDigits : List Cond := .code yX9_differingDigits cX9_differingDigits 6 (some .int) :: lw_g
def rX9_differingDigits : Room := { frames := 4, cells := 0, slots := 0, locals := 86 }
set_option maxHeartbeats 4000000 in
set_option maxRecDepth 100000 in
theorem kX9_differingDigits (l : Launch) (X : XC) : zM l X yX9_differingDigits wX9_differingDigits rX9_differingDigits mX9_differingDigits := by
  refine zMet tX9_differingDigits 1 (by decide) rfl (by decide) ?_
  intro p e s m args below meth c res hC
  obtain ⟨hx, hb, hr, hts0, hown, hml, hlk, hK⟩ := hC
  have hts : ∀ w ∈ lw_g, w.before args s = true := fun w h => hts0 w (List.mem_cons_of_mem _ h)
  have hro : 0 ≤ (headSpec wX9_differingDigits rX9_differingDigits).room.cells ∧ 0 ≤ (headSpec wX9_differingDigits rX9_differingDigits).room.slots := ⟨Nat.zero_le _, Nat.zero_le _⟩
  refine zcons (s_aload_n hx hb 0 dX9_differingDigits_0 rfl) ?_
  refine zcons (s_getR hx hb hts hown hK zcX9 hinX9 0 (by decide) w304 rfl (fun _ => 1) (zptf (by decide) (by decide +kernel)) dX9_differingDigits_1) ?_
  refine zcons (s_aload_n hx hb 0 dX9_differingDigits_4 rfl) ?_
  refine zcons (s_getR hx hb hts hown hK zcX9 hinX9 3 (by decide) w307 rfl (fun _ => 4) (zptf (by decide) (by decide +kernel)) dX9_differingDigits_5) ?_
  refine zcons (s_getI hx hb hts hown hK zcX6 hinX6 3 (by decide) w262 rfl (zptk (by decide) (by decide +kernel)) dX9_differingDigits_8) ?_
  refine zcons (s_callV (hZ := fun _ h => h) hx hb hts hml hown hK hro zcX1 (kX1_slotAt l X) (zgoodV w644 w354 w355 w45 w356) rfl rfl rfl (by decide +kernel) ⟨Nat.le_of_ble_eq_true rfl, Nat.le_of_ble_eq_true rfl⟩ dX9_differingDigits_11) ?_
  refine zcons (s_astore_n hx hb 1 dX9_differingDigits_14 rfl) ?_
  refine zcons (s_aload_n hx hb 1 dX9_differingDigits_15 rfl) ?_
  refine zcons (s_null hx hb 41 dX9_differingDigits_16 (by decide)) ?_
  refine zcons (s_aload_n hx hb 0 dX9_differingDigits_19 rfl) ?_
  refine zcons (s_getR hx hb hts hown hK zcX9 hinX9 2 (by decide) w306 rfl (fun _ => 3) (zptf (by decide) (by decide +kernel)) dX9_differingDigits_20) ?_
  refine zcons (s_iconst hx hb 0 dX9_differingDigits_23 (by decide)) ?_
  refine zcons (s_callV (hZ := fun _ h => h) hx hb hts hml hown hK hro zcX4 (kX4_sort l X) (zgoodV w645 w565 w566 w48 w567) rfl rfl rfl (by decide +kernel) ⟨Nat.le_of_ble_eq_true rfl, Nat.le_of_ble_eq_true rfl⟩ dX9_differingDigits_24) ?_
  refine zcons (s_if_ne hx hb 41 dX9_differingDigits_27 (by decide)) ?_
  refine zcons (s_aload_n hx hb 0 dX9_differingDigits_30 rfl) ?_
  refine zcons (s_getR hx hb hts hown hK zcX9 hinX9 2 (by decide) w306 rfl (fun _ => 3) (zptf (by decide) (by decide +kernel)) dX9_differingDigits_31) ?_
  refine zcons (s_iconst hx hb 1 dX9_differingDigits_34 (by decide)) ?_
  refine zcons (s_callV (hZ := fun _ h => h) hx hb hts hml hown hK hro zcX4 (kX4_sort l X) (zgoodV w645 w565 w566 w48 w567) rfl rfl rfl (by decide +kernel) ⟨Nat.le_of_ble_eq_true rfl, Nat.le_of_ble_eq_true rfl⟩ dX9_differingDigits_35) ?_
  refine zcons (s_if_eq hx hb 43 dX9_differingDigits_38 (by decide)) ?_
  refine zcons (s_iconst hx hb 0 dX9_differingDigits_41 (by decide)) ?_
  refine zcons (s_iret hx hb hr hK hlk dX9_differingDigits_42) ?_
  refine zcons (s_iconst hx hb 0 dX9_differingDigits_43 (by decide)) ?_
  refine zcons (s_istore_n hx hb 2 dX9_differingDigits_44 rfl) ?_
  refine zcons (s_aload_n hx hb 0 dX9_differingDigits_45 rfl) ?_
  refine zcons (s_getR hx hb hts hown hK zcX9 hinX9 2 (by decide) w306 rfl (fun _ => 3) (zptf (by decide) (by decide +kernel)) dX9_differingDigits_46) ?_
  refine zcons (s_iconst hx hb 0 dX9_differingDigits_49 (by decide)) ?_
  refine zcons (s_callV (hZ := fun _ h => h) hx hb hts hml hown hK hro zcX4 (kX4_value l X) (zgoodV w646 w647 w648 w48 w649) rfl rfl rfl (by decide +kernel) ⟨Nat.le_of_ble_eq_true rfl, Nat.le_of_ble_eq_true rfl⟩ dX9_differingDigits_50) ?_
  refine zcons (s_istore_n hx hb 3 dX9_differingDigits_53 rfl) ?_
  refine zcons (s_aload_n hx hb 0 dX9_differingDigits_54 rfl) ?_
  refine zcons (s_getR hx hb hts hown hK zcX9 hinX9 2 (by decide) w306 rfl (fun _ => 3) (zptf (by decide) (by decide +kernel)) dX9_differingDigits_55) ?_
  refine zcons (s_iconst hx hb 1 dX9_differingDigits_58 (by decide)) ?_
  refine zcons (s_callV (hZ := fun _ h => h) hx hb hts hml hown hK hro zcX4 (kX4_value l X) (zgoodV w646 w647 w648 w48 w649) rfl rfl rfl (by decide +kernel) ⟨Nat.le_of_ble_eq_true rfl, Nat.le_of_ble_eq_true rfl⟩ dX9_differingDigits_59) ?_
  refine zcons (s_istore hx hb dX9_differingDigits_62) ?_
  refine zcons (s_aload_n hx hb 1 dX9_differingDigits_64 rfl) ?_
  refine zcons (s_getI hx hb hts hown hK zcX5 hinX5 1 (by decide) w81 rfl (zptk (by decide) (by decide +kernel)) dX9_differingDigits_65) ?_
  refine zcons (s_iconst hx hb 1 dX9_differingDigits_68 (by decide)) ?_
  refine zcons (s_isub hx hb dX9_differingDigits_69) ?_
  refine zcons (s_istore hx hb dX9_differingDigits_70) ?_
  refine zcons (s_iload hx hb dX9_differingDigits_72) ?_
  refine zcons (s_if_lt hx hb 114 dX9_differingDigits_74 (by decide)) ?_
  refine zcons (s_iload_n hx hb 3 dX9_differingDigits_77 rfl) ?_
  refine zcons (s_bipush hx hb 10 dX9_differingDigits_78 (by decide)) ?_
  refine zcons (s_irem hx hb dX9_differingDigits_80) ?_
  refine zcons (s_iload hx hb dX9_differingDigits_81) ?_
  refine zcons (s_bipush hx hb 10 dX9_differingDigits_83 (by decide)) ?_
  refine zcons (s_irem hx hb dX9_differingDigits_85) ?_
  refine zcons (s_c_eq hx hb 96 dX9_differingDigits_86 (by decide)) ?_
  refine zcons (s_iload_n hx hb 2 dX9_differingDigits_89 rfl) ?_
  refine zcons (s_iconst hx hb 1 dX9_differingDigits_90 (by decide)) ?_
  refine zcons (s_iload hx hb dX9_differingDigits_91) ?_
  refine zcons (s_ishl hx hb dX9_differingDigits_93) ?_
  refine zcons (s_ior hx hb dX9_differingDigits_94) ?_
  refine zcons (s_istore_n hx hb 2 dX9_differingDigits_95 rfl) ?_
  refine zcons (s_iload_n hx hb 3 dX9_differingDigits_96 rfl) ?_
  refine zcons (s_bipush hx hb 10 dX9_differingDigits_97 (by decide)) ?_
  refine zcons (s_idiv hx hb dX9_differingDigits_99) ?_
  refine zcons (s_istore_n hx hb 3 dX9_differingDigits_100 rfl) ?_
  refine zcons (s_iload hx hb dX9_differingDigits_101) ?_
  refine zcons (s_bipush hx hb 10 dX9_differingDigits_103 (by decide)) ?_
  refine zcons (s_idiv hx hb dX9_differingDigits_105) ?_
  refine zcons (s_istore hx hb dX9_differingDigits_106) ?_
  refine zcons (s_iinc hx hb (-1) dX9_differingDigits_108 (by decide)) ?_
  refine zcons (s_goto hx hb 72 dX9_differingDigits_111 (by decide)) ?_
  refine zcons (s_iload_n hx hb 2 dX9_differingDigits_114 rfl) ?_
  refine zcons (s_iret hx hb hr hK hlk dX9_differingDigits_115) ?_
  exact znil
noncomputable def tX9_say : List (Nat × AI) := [(0, a_aload 1 0), (1, a_getR 4 8 (fun _ => 4)), (4, a_push 5 (.inl 0)), (5, a_put 8 6 7), (8, a_aload 9 0), (9, a_getR 12 8 (fun _ => 3)), (12, a_callV 15 0 4 mX4_forget), (15, a_aload 16 0), (16, a_getR 19 8 (fun _ => 4)), (19, a_getI 22 6 5), (22, a_if_ne 25 46), (25, a_aload 26 0), (26, a_getR 29 8 (fun _ => 3)), (29, a_aload 30 0), (30, a_getR 33 8 (fun _ => 4)), (33, a_getI 36 6 3), (36, a_aload 37 0), (37, a_getR 40 8 (fun _ => 4)), (40, a_getI 43 6 4), (43, a_callV 46 2 4 mX4_read), (46, a_aload 47 0), (47, a_getR 50 8 (fun _ => 3)), (50, a_push 51 (.inl 0)), (51, a_callV 54 1 4 mX4_found), (54, a_if_eq 57 71), (57, a_aload 58 0), (58, a_aload 59 0), (59, a_getR 62 8 (fun _ => 4)), (62, a_callV 65 0 6 mX6_hear), (65, a_put 68 8 5), (68, a_goto 100), (71, a_aload 72 0), (72, a_aload 73 0), (73, a_getR 76 8 (fun _ => 2)), (76, a_getI 79 2 3), (79, a_if_ne 82 96), (82, a_aload 83 0), (83, a_getR 86 8 (fun _ => 4)), (86, a_getI 89 6 5), (89, a_if_ne 92 96), (92, a_push 93 (.inl 0)), (93, a_goto 97), (96, a_push 97 (.inl 1)), (97, a_put 100 8 5), (100, a_aload 101 0), (101, a_getR 104 8 (fun _ => 2)), (104, a_callV 107 0 2 mX2_clear), (107, a_aload 108 0), (108, a_aload 109 0), (109, a_getI 112 8 5), (112, a_push 113 (.inl 1)), (113, a_c_gt 116 130), (116, a_aload 117 0), (117, a_getI 120 8 6), (120, a_push 121 (.inl 1)), (121, a_bin 122 (fun x y => x + y)), (122, a_push 124 (.inl 9)), (124, a_min 127), (127, a_goto 131), (130, a_push 131 (.inl 0)), (131, a_put 134 8 6), (134, a_aload 135 0), (135, a_aload 136 0), (136, a_getI 139 8 5), (139, a_push 140 (.inl 2)), (140, a_c_ne 143 150), (143, a_aload 144 0), (144, a_callV 147 0 8 mX9_differingDigits), (147, a_goto 151), (150, a_push 151 (.inl 0)), (151, a_put 154 8 7), (154, a_aload 155 0), (155, a_getI 158 8 5), (158, a_iret)]
noncomputable def mX9_say : List AV → MM → Option AR := zsem tX9_say 1 1
def wX9_say : List Cond := .code yX9_say cX9_say 1 (some .int) :: lw_g
def rX9_say : Room := { frames := 7, cells := 0, slots := 0, locals := 173 }
set_option maxHeartbeats 4000000 in
set_option maxRecDepth 100000 in
theorem kX9_say (l : Launch) (X : XC) : zM l X yX9_say wX9_say rX9_say mX9_say := by
  refine zMet tX9_say 1 (by decide) rfl (by decide) ?_
  intro p e s m args below meth c res hC
  obtain ⟨hx, hb, hr, hts0, hown, hml, hlk, hK⟩ := hC
  have hts : ∀ w ∈ lw_g, w.before args s = true := fun w h => hts0 w (List.mem_cons_of_mem _ h)
  have hro : 0 ≤ (headSpec wX9_say rX9_say).room.cells ∧ 0 ≤ (headSpec wX9_say rX9_say).room.slots := ⟨Nat.zero_le _, Nat.zero_le _⟩
  refine zcons (s_aload_n hx hb 0 dX9_say_0 rfl) ?_
  refine zcons (s_getR hx hb hts hown hK zcX9 hinX9 3 (by decide) w307 rfl (fun _ => 4) (zptf (by decide) (by decide +kernel)) dX9_say_1) ?_
  refine zcons (s_iconst hx hb 0 dX9_say_4 (by decide)) ?_
  refine zcons (s_put (hZ := fun _ h => h) hx hb hts hown hK zcX6 hinX6 tyX6 tyX6_ok nmX6 7 (by decide) w270 rfl rfl (zptk (by decide) (by decide +kernel)) (by decide +kernel) dX9_say_5) ?_
  refine zcons (s_aload_n hx hb 0 dX9_say_8 rfl) ?_
  refine zcons (s_getR hx hb hts hown hK zcX9 hinX9 2 (by decide) w306 rfl (fun _ => 3) (zptf (by decide) (by decide +kernel)) dX9_say_9) ?_
  refine zcons (s_callV (hZ := fun _ h => h) hx hb hts hml hown hK hro zcX4 (kX4_forget l X) (zgoodV w429 w430 w431 w48 w432) rfl rfl rfl (by decide +kernel) ⟨Nat.le_of_ble_eq_true rfl, Nat.le_of_ble_eq_true rfl⟩ dX9_say_12) ?_
  refine zcons (s_aload_n hx hb 0 dX9_say_15 rfl) ?_
  refine zcons (s_getR hx hb hts hown hK zcX9 hinX9 3 (by decide) w307 rfl (fun _ => 4) (zptf (by decide) (by decide +kernel)) dX9_say_16) ?_
  refine zcons (s_getI hx hb hts hown hK zcX6 hinX6 5 (by decide) w266 rfl (zptk (by decide) (by decide +kernel)) dX9_say_19) ?_
  refine zcons (s_if_ne hx hb 46 dX9_say_22 (by decide)) ?_
  refine zcons (s_aload_n hx hb 0 dX9_say_25 rfl) ?_
  refine zcons (s_getR hx hb hts hown hK zcX9 hinX9 2 (by decide) w306 rfl (fun _ => 3) (zptf (by decide) (by decide +kernel)) dX9_say_26) ?_
  refine zcons (s_aload_n hx hb 0 dX9_say_29 rfl) ?_
  refine zcons (s_getR hx hb hts hown hK zcX9 hinX9 3 (by decide) w307 rfl (fun _ => 4) (zptf (by decide) (by decide +kernel)) dX9_say_30) ?_
  refine zcons (s_getI hx hb hts hown hK zcX6 hinX6 3 (by decide) w262 rfl (zptk (by decide) (by decide +kernel)) dX9_say_33) ?_
  refine zcons (s_aload_n hx hb 0 dX9_say_36 rfl) ?_
  refine zcons (s_getR hx hb hts hown hK zcX9 hinX9 3 (by decide) w307 rfl (fun _ => 4) (zptf (by decide) (by decide +kernel)) dX9_say_37) ?_
  refine zcons (s_getI hx hb hts hown hK zcX6 hinX6 4 (by decide) w264 rfl (zptk (by decide) (by decide +kernel)) dX9_say_40) ?_
  refine zcons (s_callV (hZ := fun _ h => h) hx hb hts hml hown hK hro zcX4 (kX4_read l X) (zgoodV w433 w434 w435 w48 w436) rfl rfl rfl (by decide +kernel) ⟨Nat.le_of_ble_eq_true rfl, Nat.le_of_ble_eq_true rfl⟩ dX9_say_43) ?_
  refine zcons (s_aload_n hx hb 0 dX9_say_46 rfl) ?_
  refine zcons (s_getR hx hb hts hown hK zcX9 hinX9 2 (by decide) w306 rfl (fun _ => 3) (zptf (by decide) (by decide +kernel)) dX9_say_47) ?_
  refine zcons (s_iconst hx hb 0 dX9_say_50 (by decide)) ?_
  refine zcons (s_callV (hZ := fun _ h => h) hx hb hts hml hown hK hro zcX4 (kX4_found l X) (zgoodV w540 w541 w542 w48 w543) rfl rfl rfl (by decide +kernel) ⟨Nat.le_of_ble_eq_true rfl, Nat.le_of_ble_eq_true rfl⟩ dX9_say_51) ?_
  refine zcons (s_if_eq hx hb 71 dX9_say_54 (by decide)) ?_
  refine zcons (s_aload_n hx hb 0 dX9_say_57 rfl) ?_
  refine zcons (s_aload_n hx hb 0 dX9_say_58 rfl) ?_
  refine zcons (s_getR hx hb hts hown hK zcX9 hinX9 3 (by decide) w307 rfl (fun _ => 4) (zptf (by decide) (by decide +kernel)) dX9_say_59) ?_
  refine zcons (s_callV (hZ := fun _ h => h) hx hb hts hml hown hK hro zcX6 (kX6_hear l X) (zgoodV w549 w550 w551 w52 w552) rfl rfl rfl (by decide +kernel) ⟨Nat.le_of_ble_eq_true rfl, Nat.le_of_ble_eq_true rfl⟩ dX9_say_62) ?_
  refine zcons (s_put (hZ := fun _ h => h) hx hb hts hown hK zcX9 hinX9 tyX9 tyX9_ok nmX9 5 (by decide) w309 rfl rfl (zptk (by decide) (by decide +kernel)) (by decide +kernel) dX9_say_65) ?_
  refine zcons (s_goto hx hb 100 dX9_say_68 (by decide)) ?_
  refine zcons (s_aload_n hx hb 0 dX9_say_71 rfl) ?_
  refine zcons (s_aload_n hx hb 0 dX9_say_72 rfl) ?_
  refine zcons (s_getR hx hb hts hown hK zcX9 hinX9 1 (by decide) w305 rfl (fun _ => 2) (zptf (by decide) (by decide +kernel)) dX9_say_73) ?_
  refine zcons (s_getI hx hb hts hown hK zcX2 hinX2 3 (by decide) w158 rfl (zptk (by decide) (by decide +kernel)) dX9_say_76) ?_
  refine zcons (s_if_ne hx hb 96 dX9_say_79 (by decide)) ?_
  refine zcons (s_aload_n hx hb 0 dX9_say_82 rfl) ?_
  refine zcons (s_getR hx hb hts hown hK zcX9 hinX9 3 (by decide) w307 rfl (fun _ => 4) (zptf (by decide) (by decide +kernel)) dX9_say_83) ?_
  refine zcons (s_getI hx hb hts hown hK zcX6 hinX6 5 (by decide) w266 rfl (zptk (by decide) (by decide +kernel)) dX9_say_86) ?_
  refine zcons (s_if_ne hx hb 96 dX9_say_89 (by decide)) ?_
  refine zcons (s_iconst hx hb 0 dX9_say_92 (by decide)) ?_
  refine zcons (s_goto hx hb 97 dX9_say_93 (by decide)) ?_
  refine zcons (s_iconst hx hb 1 dX9_say_96 (by decide)) ?_
  refine zcons (s_put (hZ := fun _ h => h) hx hb hts hown hK zcX9 hinX9 tyX9 tyX9_ok nmX9 5 (by decide) w309 rfl rfl (zptk (by decide) (by decide +kernel)) (by decide +kernel) dX9_say_97) ?_
  refine zcons (s_aload_n hx hb 0 dX9_say_100 rfl) ?_
  refine zcons (s_getR hx hb hts hown hK zcX9 hinX9 1 (by decide) w305 rfl (fun _ => 2) (zptf (by decide) (by decide +kernel)) dX9_say_101) ?_
  refine zcons (s_callV (hZ := fun _ h => h) hx hb hts hml hown hK hro zcX2 (kX2_clear l X) (zgoodV w635 w636 w637 w47 w638) rfl rfl rfl (by decide +kernel) ⟨Nat.le_of_ble_eq_true rfl, Nat.le_of_ble_eq_true rfl⟩ dX9_say_104) ?_
  refine zcons (s_aload_n hx hb 0 dX9_say_107 rfl) ?_
  refine zcons (s_aload_n hx hb 0 dX9_say_108 rfl) ?_
  refine zcons (s_getI hx hb hts hown hK zcX9 hinX9 5 (by decide) w309 rfl (zptk (by decide) (by decide +kernel)) dX9_say_109) ?_
  refine zcons (s_iconst hx hb 1 dX9_say_112 (by decide)) ?_
  refine zcons (s_c_gt hx hb 130 dX9_say_113 (by decide)) ?_
  refine zcons (s_aload_n hx hb 0 dX9_say_116 rfl) ?_
  refine zcons (s_getI hx hb hts hown hK zcX9 hinX9 6 (by decide) w310 rfl (zptk (by decide) (by decide +kernel)) dX9_say_117) ?_
  refine zcons (s_iconst hx hb 1 dX9_say_120 (by decide)) ?_
  refine zcons (s_iadd hx hb dX9_say_121) ?_
  refine zcons (s_bipush hx hb 9 dX9_say_122 (by decide)) ?_
  refine zcons (s_min hx hb hts hml hown hro w639 w464 w55 w465 ⟨Nat.le_of_ble_eq_true rfl, Nat.le_of_ble_eq_true rfl⟩ dX9_say_124) ?_
  refine zcons (s_goto hx hb 131 dX9_say_127 (by decide)) ?_
  refine zcons (s_iconst hx hb 0 dX9_say_130 (by decide)) ?_
  refine zcons (s_put (hZ := fun _ h => h) hx hb hts hown hK zcX9 hinX9 tyX9 tyX9_ok nmX9 6 (by decide) w310 rfl rfl (zptk (by decide) (by decide +kernel)) (by decide +kernel) dX9_say_131) ?_
  refine zcons (s_aload_n hx hb 0 dX9_say_134 rfl) ?_
  refine zcons (s_aload_n hx hb 0 dX9_say_135 rfl) ?_
  refine zcons (s_getI hx hb hts hown hK zcX9 hinX9 5 (by decide) w309 rfl (zptk (by decide) (by decide +kernel)) dX9_say_136) ?_
  refine zcons (s_iconst hx hb 2 dX9_say_139 (by decide)) ?_
  refine zcons (s_c_ne hx hb 150 dX9_say_140 (by decide)) ?_
  refine zcons (s_aload_n hx hb 0 dX9_say_143 rfl) ?_
  refine zcons (s_callV (hZ := fun _ h => h) hx hb hts hml hown hK hro zcX9 (kX9_differingDigits l X) (zgoodV w640 w642 w20 w44 w643) rfl rfl rfl (by decide +kernel) ⟨Nat.le_of_ble_eq_true rfl, Nat.le_of_ble_eq_true rfl⟩ dX9_say_144) ?_
  refine zcons (s_goto hx hb 151 dX9_say_147 (by decide)) ?_
  refine zcons (s_iconst hx hb 0 dX9_say_150 (by decide)) ?_
  refine zcons (s_put (hZ := fun _ h => h) hx hb hts hown hK zcX9 hinX9 tyX9 tyX9_ok nmX9 7 (by decide) w311 rfl rfl (zptk (by decide) (by decide +kernel)) (by decide +kernel) dX9_say_151) ?_
  refine zcons (s_aload_n hx hb 0 dX9_say_154 rfl) ?_
  refine zcons (s_getI hx hb hts hown hK zcX9 hinX9 5 (by decide) w309 rfl (zptk (by decide) (by decide +kernel)) dX9_say_155) ?_
  refine zcons (s_iret hx hb hr hK hlk dX9_say_158) ?_
  exact znil
noncomputable def tX9_goOn : List (Nat × AI) := [(0, a_aload 1 0), (1, a_getR 4 8 (fun _ => 4)), (4, a_getI 7 6 5), (7, a_istore 8 1), (8, a_aload 9 0), (9, a_getR 12 8 (fun _ => 4)), (12, a_push 13 (.inl 0)), (13, a_putZ 16 6 5), (16, a_iload 17 1), (17, a_zret)]
noncomputable def mX9_goOn : List AV → MM → Option AR := zsem tX9_goOn 2 1
def wX9_goOn : List Cond := .code yX9_goOn cX9_goOn 2 (some .boolean) :: lw_g
def rX9_goOn : Room := { frames := 0, cells := 0, slots := 0, locals := 0 }
set_option maxHeartbeats 4000000 in
set_option maxRecDepth 100000 in
theorem kX9_goOn (l : Launch) (X : XC) : zM l X yX9_goOn wX9_goOn rX9_goOn mX9_goOn := by
  refine zMet tX9_goOn 1 (by decide) rfl (by decide) ?_
  intro p e s m args below meth c res hC
  obtain ⟨hx, hb, hr, hts0, hown, hml, hlk, hK⟩ := hC
  have hts : ∀ w ∈ lw_g, w.before args s = true := fun w h => hts0 w (List.mem_cons_of_mem _ h)
  have hro : 0 ≤ (headSpec wX9_goOn rX9_goOn).room.cells ∧ 0 ≤ (headSpec wX9_goOn rX9_goOn).room.slots := ⟨Nat.zero_le _, Nat.zero_le _⟩
  refine zcons (s_aload_n hx hb 0 dX9_goOn_0 rfl) ?_
  refine zcons (s_getR hx hb hts hown hK zcX9 hinX9 3 (by decide) w307 rfl (fun _ => 4) (zptf (by decide) (by decide +kernel)) dX9_goOn_1) ?_
  refine zcons (s_getI hx hb hts hown hK zcX6 hinX6 5 (by decide) w266 rfl (zptk (by decide) (by decide +kernel)) dX9_goOn_4) ?_
  refine zcons (s_istore_n hx hb 1 dX9_goOn_7 rfl) ?_
  refine zcons (s_aload_n hx hb 0 dX9_goOn_8 rfl) ?_
  refine zcons (s_getR hx hb hts hown hK zcX9 hinX9 3 (by decide) w307 rfl (fun _ => 4) (zptf (by decide) (by decide +kernel)) dX9_goOn_9) ?_
  refine zcons (s_iconst hx hb 0 dX9_goOn_12 (by decide)) ?_
  refine zcons (s_putZ (hZ := fun _ h => h) hx hb hts hown hK zcX6 hinX6 tyX6 tyX6_ok nmX6 5 (by decide) w266 rfl rfl (zptk (by decide) (by decide +kernel)) (by decide +kernel) dX9_goOn_13) ?_
  refine zcons (s_iload_n hx hb 1 dX9_goOn_16 rfl) ?_
  refine zcons (s_zret hx hb hr hK hlk dX9_goOn_17) ?_
  exact znil
noncomputable def tX9_told : List (Nat × AI) := [(0, a_aload 1 0), (1, a_getI 4 8 5), (4, a_push 5 (.inl (-1))), (5, a_c_ne 8 10), (8, a_push 9 (.inl (-1))), (9, a_iret), (10, a_iload 11 1), (11, a_switch [(0, 60), (1, 65), (2, 74), (3, 83), (4, 92), (5, 101), (6, 110), (7, 119), (8, 127)] 132), (60, a_aload 61 0), (61, a_getI 64 8 5), (64, a_iret), (65, a_aload 66 0), (66, a_getR 69 8 (fun _ => 3)), (69, a_push 70 (.inl 0)), (70, a_callV 73 1 4 mX4_sort), (73, a_iret), (74, a_aload 75 0), (75, a_getR 78 8 (fun _ => 3)), (78, a_push 79 (.inl 0)), (79, a_callV 82 1 4 mX4_value), (82, a_iret), (83, a_aload 84 0), (84, a_getR 87 8 (fun _ => 3)), (87, a_push 88 (.inl 0)), (88, a_callV 91 1 4 mX4_cost), (91, a_iret), (92, a_aload 93 0), (93, a_getR 96 8 (fun _ => 3)), (96, a_push 97 (.inl 1)), (97, a_callV 100 1 4 mX4_sort), (100, a_iret), (101, a_aload 102 0), (102, a_getR 105 8 (fun _ => 3)), (105, a_push 106 (.inl 1)), (106, a_callV 109 1 4 mX4_value), (109, a_iret), (110, a_aload 111 0), (111, a_getR 114 8 (fun _ => 3)), (114, a_push 115 (.inl 1)), (115, a_callV 118 1 4 mX4_cost), (118, a_iret), (119, a_aload 120 0), (120, a_getR 123 8 (fun _ => 4)), (123, a_getI 126 6 7), (126, a_iret), (127, a_aload 128 0), (128, a_getI 131 8 7), (131, a_iret), (132, a_push 133 (.inl (-1))), (133, a_iret)]
noncomputable def mX9_told : List AV → MM → Option AR := zsem tX9_told 2 2
def wX9_told : List Cond := .code yX9_told cX9_told 2 (some .int) :: lw_g
def rX9_told : Room := { frames := 4, cells := 0, slots := 0, locals := 86 }
set_option maxHeartbeats 4000000 in
set_option maxRecDepth 100000 in
theorem kX9_told (l : Launch) (X : XC) : zM l X yX9_told wX9_told rX9_told mX9_told := by
  refine zMet tX9_told 2 (by decide) rfl (by decide) ?_
  intro p e s m args below meth c res hC
  obtain ⟨hx, hb, hr, hts0, hown, hml, hlk, hK⟩ := hC
  have hts : ∀ w ∈ lw_g, w.before args s = true := fun w h => hts0 w (List.mem_cons_of_mem _ h)
  have hro : 0 ≤ (headSpec wX9_told rX9_told).room.cells ∧ 0 ≤ (headSpec wX9_told rX9_told).room.slots := ⟨Nat.zero_le _, Nat.zero_le _⟩
  refine zcons (s_aload_n hx hb 0 dX9_told_0 rfl) ?_
  refine zcons (s_getI hx hb hts hown hK zcX9 hinX9 5 (by decide) w309 rfl (zptk (by decide) (by decide +kernel)) dX9_told_1) ?_
  refine zcons (s_iconst hx hb (-1) dX9_told_4 (by decide)) ?_
  refine zcons (s_c_ne hx hb 10 dX9_told_5 (by decide)) ?_
  refine zcons (s_iconst hx hb (-1) dX9_told_8 (by decide)) ?_
  refine zcons (s_iret hx hb hr hK hlk dX9_told_9) ?_
  refine zcons (s_iload_n hx hb 1 dX9_told_10 rfl) ?_
  refine zcons (s_switchD hx hb [(0, 60), (1, 65), (2, 74), (3, 83), (4, 92), (5, 101), (6, 110), (7, 119), (8, 127)] 132 dX9_told_11 (by decide +kernel) (by decide)) ?_
  refine zcons (s_aload_n hx hb 0 dX9_told_60 rfl) ?_
  refine zcons (s_getI hx hb hts hown hK zcX9 hinX9 5 (by decide) w309 rfl (zptk (by decide) (by decide +kernel)) dX9_told_61) ?_
  refine zcons (s_iret hx hb hr hK hlk dX9_told_64) ?_
  refine zcons (s_aload_n hx hb 0 dX9_told_65 rfl) ?_
  refine zcons (s_getR hx hb hts hown hK zcX9 hinX9 2 (by decide) w306 rfl (fun _ => 3) (zptf (by decide) (by decide +kernel)) dX9_told_66) ?_
  refine zcons (s_iconst hx hb 0 dX9_told_69 (by decide)) ?_
  refine zcons (s_callV (hZ := fun _ h => h) hx hb hts hml hown hK hro zcX4 (kX4_sort l X) (zgoodV w645 w565 w566 w48 w567) rfl rfl rfl (by decide +kernel) ⟨Nat.le_of_ble_eq_true rfl, Nat.le_of_ble_eq_true rfl⟩ dX9_told_70) ?_
  refine zcons (s_iret hx hb hr hK hlk dX9_told_73) ?_
  refine zcons (s_aload_n hx hb 0 dX9_told_74 rfl) ?_
  refine zcons (s_getR hx hb hts hown hK zcX9 hinX9 2 (by decide) w306 rfl (fun _ => 3) (zptf (by decide) (by decide +kernel)) dX9_told_75) ?_
  refine zcons (s_iconst hx hb 0 dX9_told_78 (by decide)) ?_
  refine zcons (s_callV (hZ := fun _ h => h) hx hb hts hml hown hK hro zcX4 (kX4_value l X) (zgoodV w646 w647 w648 w48 w649) rfl rfl rfl (by decide +kernel) ⟨Nat.le_of_ble_eq_true rfl, Nat.le_of_ble_eq_true rfl⟩ dX9_told_79) ?_
  refine zcons (s_iret hx hb hr hK hlk dX9_told_82) ?_
  refine zcons (s_aload_n hx hb 0 dX9_told_83 rfl) ?_
  refine zcons (s_getR hx hb hts hown hK zcX9 hinX9 2 (by decide) w306 rfl (fun _ => 3) (zptf (by decide) (by decide +kernel)) dX9_told_84) ?_
  refine zcons (s_iconst hx hb 0 dX9_told_87 (by decide)) ?_
  refine zcons (s_callV (hZ := fun _ h => h) hx hb hts hml hown hK hro zcX4 (kX4_cost l X) (zgoodV w659 w559 w560 w48 w561) rfl rfl rfl (by decide +kernel) ⟨Nat.le_of_ble_eq_true rfl, Nat.le_of_ble_eq_true rfl⟩ dX9_told_88) ?_
  refine zcons (s_iret hx hb hr hK hlk dX9_told_91) ?_
  refine zcons (s_aload_n hx hb 0 dX9_told_92 rfl) ?_
  refine zcons (s_getR hx hb hts hown hK zcX9 hinX9 2 (by decide) w306 rfl (fun _ => 3) (zptf (by decide) (by decide +kernel)) dX9_told_93) ?_
  refine zcons (s_iconst hx hb 1 dX9_told_96 (by decide)) ?_
  refine zcons (s_callV (hZ := fun _ h => h) hx hb hts hml hown hK hro zcX4 (kX4_sort l X) (zgoodV w645 w565 w566 w48 w567) rfl rfl rfl (by decide +kernel) ⟨Nat.le_of_ble_eq_true rfl, Nat.le_of_ble_eq_true rfl⟩ dX9_told_97) ?_
  refine zcons (s_iret hx hb hr hK hlk dX9_told_100) ?_
  refine zcons (s_aload_n hx hb 0 dX9_told_101 rfl) ?_
  refine zcons (s_getR hx hb hts hown hK zcX9 hinX9 2 (by decide) w306 rfl (fun _ => 3) (zptf (by decide) (by decide +kernel)) dX9_told_102) ?_
  refine zcons (s_iconst hx hb 1 dX9_told_105 (by decide)) ?_
  refine zcons (s_callV (hZ := fun _ h => h) hx hb hts hml hown hK hro zcX4 (kX4_value l X) (zgoodV w646 w647 w648 w48 w649) rfl rfl rfl (by decide +kernel) ⟨Nat.le_of_ble_eq_true rfl, Nat.le_of_ble_eq_true rfl⟩ dX9_told_106) ?_
  refine zcons (s_iret hx hb hr hK hlk dX9_told_109) ?_
  refine zcons (s_aload_n hx hb 0 dX9_told_110 rfl) ?_
  refine zcons (s_getR hx hb hts hown hK zcX9 hinX9 2 (by decide) w306 rfl (fun _ => 3) (zptf (by decide) (by decide +kernel)) dX9_told_111) ?_
  refine zcons (s_iconst hx hb 1 dX9_told_114 (by decide)) ?_
  refine zcons (s_callV (hZ := fun _ h => h) hx hb hts hml hown hK hro zcX4 (kX4_cost l X) (zgoodV w659 w559 w560 w48 w561) rfl rfl rfl (by decide +kernel) ⟨Nat.le_of_ble_eq_true rfl, Nat.le_of_ble_eq_true rfl⟩ dX9_told_115) ?_
  refine zcons (s_iret hx hb hr hK hlk dX9_told_118) ?_
  refine zcons (s_aload_n hx hb 0 dX9_told_119 rfl) ?_
  refine zcons (s_getR hx hb hts hown hK zcX9 hinX9 3 (by decide) w307 rfl (fun _ => 4) (zptf (by decide) (by decide +kernel)) dX9_told_120) ?_
  refine zcons (s_getI hx hb hts hown hK zcX6 hinX6 7 (by decide) w270 rfl (zptk (by decide) (by decide +kernel)) dX9_told_123) ?_
  refine zcons (s_iret hx hb hr hK hlk dX9_told_126) ?_
  refine zcons (s_aload_n hx hb 0 dX9_told_127 rfl) ?_
  refine zcons (s_getI hx hb hts hown hK zcX9 hinX9 7 (by decide) w311 rfl (zptk (by decide) (by decide +kernel)) dX9_told_128) ?_
  refine zcons (s_iret hx hb hr hK hlk dX9_told_131) ?_
  refine zcons (s_iconst hx hb (-1) dX9_told_132 (by decide)) ?_
  refine zcons (s_iret hx hb hr hK hlk dX9_told_133) ?_
  exact znil
noncomputable def tX9_about : List (Nat × AI) := [(0, a_iload 1 1), (1, a_switch [(0, 52), (1, 60), (2, 68), (3, 76), (4, 84), (5, 95), (6, 100), (7, 108), (8, 116)] 124), (52, a_aload 53 0), (53, a_getR 56 8 (fun _ => 4)), (56, a_getI 59 6 3), (59, a_iret), (60, a_aload 61 0), (61, a_getR 64 8 (fun _ => 4)), (64, a_getI 67 6 4), (67, a_iret), (68, a_aload 69 0), (69, a_getR 72 8 (fun _ => 4)), (72, a_getI 75 6 8), (75, a_iret), (76, a_aload 77 0), (77, a_getR 80 8 (fun _ => 1)), (80, a_callV 83 0 1 mX1_countOpen), (83, a_iret), (84, a_aload 85 0), (85, a_getR 88 8 (fun _ => 4)), (88, a_getI 91 6 5), (91, a_callS 94 1 mX9_oneIf), (94, a_iret), (95, a_aload 96 0), (96, a_getI 99 8 6), (99, a_iret), (100, a_aload 101 0), (101, a_getR 104 8 (fun _ => 1)), (104, a_getI 107 1 1), (107, a_iret), (108, a_aload 109 0), (109, a_getR 112 8 (fun _ => 1)), (112, a_callV 115 0 1 mX1_countUnheard), (115, a_iret), (116, a_aload 117 0), (117, a_getR 120 8 (fun _ => 2)), (120, a_getI 123 2 3), (123, a_iret), (124, a_push 125 (.inl (-1))), (125, a_iret)]
noncomputable def mX9_about : List AV → MM → Option AR := zsem tX9_about 2 2
def wX9_about : List Cond := .code yX9_about cX9_about 2 (some .int) :: lw_g
def rX9_about : Room := { frames := 2, cells := 0, slots := 0, locals := 42 }
set_option maxHeartbeats 4000000 in
set_option maxRecDepth 100000 in
theorem kX9_about (l : Launch) (X : XC) : zM l X yX9_about wX9_about rX9_about mX9_about := by
  refine zMet tX9_about 2 (by decide) rfl (by decide) ?_
  intro p e s m args below meth c res hC
  obtain ⟨hx, hb, hr, hts0, hown, hml, hlk, hK⟩ := hC
  have hts : ∀ w ∈ lw_g, w.before args s = true := fun w h => hts0 w (List.mem_cons_of_mem _ h)
  have hro : 0 ≤ (headSpec wX9_about rX9_about).room.cells ∧ 0 ≤ (headSpec wX9_about rX9_about).room.slots := ⟨Nat.zero_le _, Nat.zero_le _⟩
  refine zcons (s_iload_n hx hb 1 dX9_about_0 rfl) ?_
  refine zcons (s_switchD hx hb [(0, 52), (1, 60), (2, 68), (3, 76), (4, 84), (5, 95), (6, 100), (7, 108), (8, 116)] 124 dX9_about_1 (by decide +kernel) (by decide)) ?_
  refine zcons (s_aload_n hx hb 0 dX9_about_52 rfl) ?_
  refine zcons (s_getR hx hb hts hown hK zcX9 hinX9 3 (by decide) w307 rfl (fun _ => 4) (zptf (by decide) (by decide +kernel)) dX9_about_53) ?_
  refine zcons (s_getI hx hb hts hown hK zcX6 hinX6 3 (by decide) w262 rfl (zptk (by decide) (by decide +kernel)) dX9_about_56) ?_
  refine zcons (s_iret hx hb hr hK hlk dX9_about_59) ?_
  refine zcons (s_aload_n hx hb 0 dX9_about_60 rfl) ?_
  refine zcons (s_getR hx hb hts hown hK zcX9 hinX9 3 (by decide) w307 rfl (fun _ => 4) (zptf (by decide) (by decide +kernel)) dX9_about_61) ?_
  refine zcons (s_getI hx hb hts hown hK zcX6 hinX6 4 (by decide) w264 rfl (zptk (by decide) (by decide +kernel)) dX9_about_64) ?_
  refine zcons (s_iret hx hb hr hK hlk dX9_about_67) ?_
  refine zcons (s_aload_n hx hb 0 dX9_about_68 rfl) ?_
  refine zcons (s_getR hx hb hts hown hK zcX9 hinX9 3 (by decide) w307 rfl (fun _ => 4) (zptf (by decide) (by decide +kernel)) dX9_about_69) ?_
  refine zcons (s_getI hx hb hts hown hK zcX6 hinX6 8 (by decide) w272 rfl (zptk (by decide) (by decide +kernel)) dX9_about_72) ?_
  refine zcons (s_iret hx hb hr hK hlk dX9_about_75) ?_
  refine zcons (s_aload_n hx hb 0 dX9_about_76 rfl) ?_
  refine zcons (s_getR hx hb hts hown hK zcX9 hinX9 0 (by decide) w304 rfl (fun _ => 1) (zptf (by decide) (by decide +kernel)) dX9_about_77) ?_
  refine zcons (s_callV (hZ := fun _ h => h) hx hb hts hml hown hK hro zcX1 (kX1_countOpen l X) (zgoodV w664 w665 w666 w45 w667) rfl rfl rfl (by decide +kernel) ⟨Nat.le_of_ble_eq_true rfl, Nat.le_of_ble_eq_true rfl⟩ dX9_about_80) ?_
  refine zcons (s_iret hx hb hr hK hlk dX9_about_83) ?_
  refine zcons (s_aload_n hx hb 0 dX9_about_84 rfl) ?_
  refine zcons (s_getR hx hb hts hown hK zcX9 hinX9 3 (by decide) w307 rfl (fun _ => 4) (zptf (by decide) (by decide +kernel)) dX9_about_85) ?_
  refine zcons (s_getI hx hb hts hown hK zcX6 hinX6 5 (by decide) w266 rfl (zptk (by decide) (by decide +kernel)) dX9_about_88) ?_
  refine zcons (s_callS (hZ := fun _ h => h) hx hb hts hml hown hK hro (kX9_oneIf l X) (va_cwS 1 hts (zgoodS w671 w669 w44 w670) rfl rfl rfl (by decide +kernel) ⟨Nat.le_of_ble_eq_true rfl, Nat.le_of_ble_eq_true rfl⟩) dX9_about_91) ?_
  refine zcons (s_iret hx hb hr hK hlk dX9_about_94) ?_
  refine zcons (s_aload_n hx hb 0 dX9_about_95 rfl) ?_
  refine zcons (s_getI hx hb hts hown hK zcX9 hinX9 6 (by decide) w310 rfl (zptk (by decide) (by decide +kernel)) dX9_about_96) ?_
  refine zcons (s_iret hx hb hr hK hlk dX9_about_99) ?_
  refine zcons (s_aload_n hx hb 0 dX9_about_100 rfl) ?_
  refine zcons (s_getR hx hb hts hown hK zcX9 hinX9 0 (by decide) w304 rfl (fun _ => 1) (zptf (by decide) (by decide +kernel)) dX9_about_101) ?_
  refine zcons (s_getI hx hb hts hown hK zcX1 hinX1 1 (by decide) w142 rfl (zptk (by decide) (by decide +kernel)) dX9_about_104) ?_
  refine zcons (s_iret hx hb hr hK hlk dX9_about_107) ?_
  refine zcons (s_aload_n hx hb 0 dX9_about_108 rfl) ?_
  refine zcons (s_getR hx hb hts hown hK zcX9 hinX9 0 (by decide) w304 rfl (fun _ => 1) (zptf (by decide) (by decide +kernel)) dX9_about_109) ?_
  refine zcons (s_callV (hZ := fun _ h => h) hx hb hts hml hown hK hro zcX1 (kX1_countUnheard l X) (zgoodV w672 w673 w674 w45 w675) rfl rfl rfl (by decide +kernel) ⟨Nat.le_of_ble_eq_true rfl, Nat.le_of_ble_eq_true rfl⟩ dX9_about_112) ?_
  refine zcons (s_iret hx hb hr hK hlk dX9_about_115) ?_
  refine zcons (s_aload_n hx hb 0 dX9_about_116 rfl) ?_
  refine zcons (s_getR hx hb hts hown hK zcX9 hinX9 1 (by decide) w305 rfl (fun _ => 2) (zptf (by decide) (by decide +kernel)) dX9_about_117) ?_
  refine zcons (s_getI hx hb hts hown hK zcX2 hinX2 3 (by decide) w158 rfl (zptk (by decide) (by decide +kernel)) dX9_about_120) ?_
  refine zcons (s_iret hx hb hr hK hlk dX9_about_123) ?_
  refine zcons (s_iconst hx hb (-1) dX9_about_124 (by decide)) ?_
  refine zcons (s_iret hx hb hr hK hlk dX9_about_125) ?_
  exact znil
noncomputable def tX9_field : List (Nat × AI) := [(0, a_aload 1 0), (1, a_getR 4 8 (fun _ => 1)), (4, a_iload 5 1), (5, a_callV 8 1 1 mX1_slotAt), (8, a_astore 9 3), (9, a_aload 10 3), (10, a_nonnull 13 15), (13, a_push 14 (.inl (-1))), (14, a_iret), (15, a_iload 16 2), (16, a_switch [(0, 64), (1, 69), (2, 74), (3, 79), (4, 87), (5, 95), (6, 118), (7, 126)] 142), (64, a_aload 65 3), (65, a_getI 68 5 0), (68, a_iret), (69, a_aload 70 3), (70, a_getI 73 5 1), (73, a_iret), (74, a_aload 75 3), (75, a_getI 78 5 5), (78, a_iret), (79, a_aload 80 3), (80, a_getI 83 5 8), (83, a_callS 86 1 mX9_oneIf), (86, a_iret), (87, a_aload 88 3), (88, a_getI 91 5 9), (91, a_callS 94 1 mX9_oneIf), (94, a_iret), (95, a_aload 96 3), (96, a_getI 99 5 9), (99, a_if_eq 102 113), (102, a_aload 103 3), (103, a_getI 106 5 11), (106, a_if_eq 109 113), (109, a_push 110 (.inl 1)), (110, a_goto 114), (113, a_push 114 (.inl 0)), (114, a_callS 117 1 mX9_oneIf), (117, a_iret), (118, a_aload 119 3), (119, a_getI 122 5 12), (122, a_callS 125 1 mX9_oneIf), (125, a_iret), (126, a_aload 127 3), (127, a_getI 130 5 9), (130, a_if_eq 133 140), (133, a_aload 134 3), (134, a_getI 137 5 10), (137, a_goto 141), (140, a_push 141 (.inl (-1))), (141, a_iret), (142, a_push 143 (.inl (-1))), (143, a_iret)]
noncomputable def mX9_field : List AV → MM → Option AR := zsem tX9_field 4 3
def wX9_field : List Cond := .code yX9_field cX9_field 4 (some .int) :: lw_g
def rX9_field : Room := { frames := 1, cells := 0, slots := 0, locals := 21 }
set_option maxHeartbeats 4000000 in
set_option maxRecDepth 100000 in
theorem kX9_field (l : Launch) (X : XC) : zM l X yX9_field wX9_field rX9_field mX9_field := by
  refine zMet tX9_field 3 (by decide) rfl (by decide) ?_
  intro p e s m args below meth c res hC
  obtain ⟨hx, hb, hr, hts0, hown, hml, hlk, hK⟩ := hC
  have hts : ∀ w ∈ lw_g, w.before args s = true := fun w h => hts0 w (List.mem_cons_of_mem _ h)
  have hro : 0 ≤ (headSpec wX9_field rX9_field).room.cells ∧ 0 ≤ (headSpec wX9_field rX9_field).room.slots := ⟨Nat.zero_le _, Nat.zero_le _⟩
  refine zcons (s_aload_n hx hb 0 dX9_field_0 rfl) ?_
  refine zcons (s_getR hx hb hts hown hK zcX9 hinX9 0 (by decide) w304 rfl (fun _ => 1) (zptf (by decide) (by decide +kernel)) dX9_field_1) ?_
  refine zcons (s_iload_n hx hb 1 dX9_field_4 rfl) ?_
  refine zcons (s_callV (hZ := fun _ h => h) hx hb hts hml hown hK hro zcX1 (kX1_slotAt l X) (zgoodV w644 w354 w355 w45 w356) rfl rfl rfl (by decide +kernel) ⟨Nat.le_of_ble_eq_true rfl, Nat.le_of_ble_eq_true rfl⟩ dX9_field_5) ?_
  refine zcons (s_astore_n hx hb 3 dX9_field_8 rfl) ?_
  refine zcons (s_aload_n hx hb 3 dX9_field_9 rfl) ?_
  refine zcons (s_nonnull hx hb 15 dX9_field_10 (by decide)) ?_
  refine zcons (s_iconst hx hb (-1) dX9_field_13 (by decide)) ?_
  refine zcons (s_iret hx hb hr hK hlk dX9_field_14) ?_
  refine zcons (s_iload_n hx hb 2 dX9_field_15 rfl) ?_
  refine zcons (s_switchD hx hb [(0, 64), (1, 69), (2, 74), (3, 79), (4, 87), (5, 95), (6, 118), (7, 126)] 142 dX9_field_16 (by decide +kernel) (by decide)) ?_
  refine zcons (s_aload_n hx hb 3 dX9_field_64 rfl) ?_
  refine zcons (s_getI hx hb hts hown hK zcX5 hinX5 0 (by decide) w78 rfl (zptk (by decide) (by decide +kernel)) dX9_field_65) ?_
  refine zcons (s_iret hx hb hr hK hlk dX9_field_68) ?_
  refine zcons (s_aload_n hx hb 3 dX9_field_69 rfl) ?_
  refine zcons (s_getI hx hb hts hown hK zcX5 hinX5 1 (by decide) w81 rfl (zptk (by decide) (by decide +kernel)) dX9_field_70) ?_
  refine zcons (s_iret hx hb hr hK hlk dX9_field_73) ?_
  refine zcons (s_aload_n hx hb 3 dX9_field_74 rfl) ?_
  refine zcons (s_getI hx hb hts hown hK zcX5 hinX5 5 (by decide) w91 rfl (zptk (by decide) (by decide +kernel)) dX9_field_75) ?_
  refine zcons (s_iret hx hb hr hK hlk dX9_field_78) ?_
  refine zcons (s_aload_n hx hb 3 dX9_field_79 rfl) ?_
  refine zcons (s_getI hx hb hts hown hK zcX5 hinX5 8 (by decide) w98 rfl (zptk (by decide) (by decide +kernel)) dX9_field_80) ?_
  refine zcons (s_callS (hZ := fun _ h => h) hx hb hts hml hown hK hro (kX9_oneIf l X) (va_cwS 1 hts (zgoodS w671 w669 w44 w670) rfl rfl rfl (by decide +kernel) ⟨Nat.le_of_ble_eq_true rfl, Nat.le_of_ble_eq_true rfl⟩) dX9_field_83) ?_
  refine zcons (s_iret hx hb hr hK hlk dX9_field_86) ?_
  refine zcons (s_aload_n hx hb 3 dX9_field_87 rfl) ?_
  refine zcons (s_getI hx hb hts hown hK zcX5 hinX5 9 (by decide) w102 rfl (zptk (by decide) (by decide +kernel)) dX9_field_88) ?_
  refine zcons (s_callS (hZ := fun _ h => h) hx hb hts hml hown hK hro (kX9_oneIf l X) (va_cwS 1 hts (zgoodS w671 w669 w44 w670) rfl rfl rfl (by decide +kernel) ⟨Nat.le_of_ble_eq_true rfl, Nat.le_of_ble_eq_true rfl⟩) dX9_field_91) ?_
  refine zcons (s_iret hx hb hr hK hlk dX9_field_94) ?_
  refine zcons (s_aload_n hx hb 3 dX9_field_95 rfl) ?_
  refine zcons (s_getI hx hb hts hown hK zcX5 hinX5 9 (by decide) w102 rfl (zptk (by decide) (by decide +kernel)) dX9_field_96) ?_
  refine zcons (s_if_eq hx hb 113 dX9_field_99 (by decide)) ?_
  refine zcons (s_aload_n hx hb 3 dX9_field_102 rfl) ?_
  refine zcons (s_getI hx hb hts hown hK zcX5 hinX5 11 (by decide) w108 rfl (zptk (by decide) (by decide +kernel)) dX9_field_103) ?_
  refine zcons (s_if_eq hx hb 113 dX9_field_106 (by decide)) ?_
  refine zcons (s_iconst hx hb 1 dX9_field_109 (by decide)) ?_
  refine zcons (s_goto hx hb 114 dX9_field_110 (by decide)) ?_
  refine zcons (s_iconst hx hb 0 dX9_field_113 (by decide)) ?_
  refine zcons (s_callS (hZ := fun _ h => h) hx hb hts hml hown hK hro (kX9_oneIf l X) (va_cwS 1 hts (zgoodS w671 w669 w44 w670) rfl rfl rfl (by decide +kernel) ⟨Nat.le_of_ble_eq_true rfl, Nat.le_of_ble_eq_true rfl⟩) dX9_field_114) ?_
  refine zcons (s_iret hx hb hr hK hlk dX9_field_117) ?_
  refine zcons (s_aload_n hx hb 3 dX9_field_118 rfl) ?_
  refine zcons (s_getI hx hb hts hown hK zcX5 hinX5 12 (by decide) w110 rfl (zptk (by decide) (by decide +kernel)) dX9_field_119) ?_
  refine zcons (s_callS (hZ := fun _ h => h) hx hb hts hml hown hK hro (kX9_oneIf l X) (va_cwS 1 hts (zgoodS w671 w669 w44 w670) rfl rfl rfl (by decide +kernel) ⟨Nat.le_of_ble_eq_true rfl, Nat.le_of_ble_eq_true rfl⟩) dX9_field_122) ?_
  refine zcons (s_iret hx hb hr hK hlk dX9_field_125) ?_
  refine zcons (s_aload_n hx hb 3 dX9_field_126 rfl) ?_
  refine zcons (s_getI hx hb hts hown hK zcX5 hinX5 9 (by decide) w102 rfl (zptk (by decide) (by decide +kernel)) dX9_field_127) ?_
  refine zcons (s_if_eq hx hb 140 dX9_field_130 (by decide)) ?_
  refine zcons (s_aload_n hx hb 3 dX9_field_133 rfl) ?_
  refine zcons (s_getI hx hb hts hown hK zcX5 hinX5 10 (by decide) w104 rfl (zptk (by decide) (by decide +kernel)) dX9_field_134) ?_
  refine zcons (s_goto hx hb 141 dX9_field_137 (by decide)) ?_
  refine zcons (s_iconst hx hb (-1) dX9_field_140 (by decide)) ?_
  refine zcons (s_iret hx hb hr hK hlk dX9_field_141) ?_
  refine zcons (s_iconst hx hb (-1) dX9_field_142 (by decide)) ?_
  refine zcons (s_iret hx hb hr hK hlk dX9_field_143) ?_
  exact znil
noncomputable def tX9_hearBack : List (Nat × AI) := [(0, a_aload 1 0), (1, a_getR 4 8 (fun _ => 1)), (4, a_callV 7 0 1 mX1_hearAllBack), (7, a_iret)]
noncomputable def mX9_hearBack : List AV → MM → Option AR := zsem tX9_hearBack 1 1
def wX9_hearBack : List Cond := .code yX9_hearBack cX9_hearBack 1 (some .int) :: lw_g
def rX9_hearBack : Room := { frames := 3, cells := 0, slots := 0, locals := 64 }
set_option maxHeartbeats 4000000 in
set_option maxRecDepth 100000 in
theorem kX9_hearBack (l : Launch) (X : XC) : zM l X yX9_hearBack wX9_hearBack rX9_hearBack mX9_hearBack := by
  refine zMet tX9_hearBack 1 (by decide) rfl (by decide) ?_
  intro p e s m args below meth c res hC
  obtain ⟨hx, hb, hr, hts0, hown, hml, hlk, hK⟩ := hC
  have hts : ∀ w ∈ lw_g, w.before args s = true := fun w h => hts0 w (List.mem_cons_of_mem _ h)
  have hro : 0 ≤ (headSpec wX9_hearBack rX9_hearBack).room.cells ∧ 0 ≤ (headSpec wX9_hearBack rX9_hearBack).room.slots := ⟨Nat.zero_le _, Nat.zero_le _⟩
  refine zcons (s_aload_n hx hb 0 dX9_hearBack_0 rfl) ?_
  refine zcons (s_getR hx hb hts hown hK zcX9 hinX9 0 (by decide) w304 rfl (fun _ => 1) (zptf (by decide) (by decide +kernel)) dX9_hearBack_1) ?_
  refine zcons (s_callV (hZ := fun _ h => h) hx hb hts hml hown hK hro zcX1 (kX1_hearAllBack l X) (zgoodV w688 w689 w690 w45 w691) rfl rfl rfl (by decide +kernel) ⟨Nat.le_of_ble_eq_true rfl, Nat.le_of_ble_eq_true rfl⟩ dX9_hearBack_4) ?_
  refine zcons (s_iret hx hb hr hK hlk dX9_hearBack_7) ?_
  exact znil
noncomputable def tX9_send : List (Nat × AI) := [(0, a_aload 1 0), (1, a_getR 4 8 (fun _ => 4)), (4, a_getI 7 6 6), (7, a_if_ne 10 30), (10, a_aload 11 0), (11, a_getR 14 8 (fun _ => 1)), (14, a_callV 17 0 1 mX1_countOpen), (17, a_if_gt 20 30), (20, a_aload 21 0), (21, a_getR 24 8 (fun _ => 1)), (24, a_callV 27 0 1 mX1_countUnheard), (27, a_if_le 30 32), (30, a_push 31 (.inl 0)), (31, a_zret), (32, a_aload 33 0), (33, a_getR 36 8 (fun _ => 4)), (36, a_push 37 (.inl 1)), (37, a_putZ 40 6 6), (40, a_push 41 (.inl 1)), (41, a_zret)]
noncomputable def mX9_send : List AV → MM → Option AR := zsem tX9_send 1 1
def wX9_send : List Cond := .code yX9_send cX9_send 1 (some .boolean) :: lw_g
def rX9_send : Room := { frames := 2, cells := 0, slots := 0, locals := 42 }
set_option maxHeartbeats 4000000 in
set_option maxRecDepth 100000 in
theorem kX9_send (l : Launch) (X : XC) : zM l X yX9_send wX9_send rX9_send mX9_send := by
  refine zMet tX9_send 1 (by decide) rfl (by decide) ?_
  intro p e s m args below meth c res hC
  obtain ⟨hx, hb, hr, hts0, hown, hml, hlk, hK⟩ := hC
  have hts : ∀ w ∈ lw_g, w.before args s = true := fun w h => hts0 w (List.mem_cons_of_mem _ h)
  have hro : 0 ≤ (headSpec wX9_send rX9_send).room.cells ∧ 0 ≤ (headSpec wX9_send rX9_send).room.slots := ⟨Nat.zero_le _, Nat.zero_le _⟩
  refine zcons (s_aload_n hx hb 0 dX9_send_0 rfl) ?_
  refine zcons (s_getR hx hb hts hown hK zcX9 hinX9 3 (by decide) w307 rfl (fun _ => 4) (zptf (by decide) (by decide +kernel)) dX9_send_1) ?_
  refine zcons (s_getI hx hb hts hown hK zcX6 hinX6 6 (by decide) w268 rfl (zptk (by decide) (by decide +kernel)) dX9_send_4) ?_
  refine zcons (s_if_ne hx hb 30 dX9_send_7 (by decide)) ?_
  refine zcons (s_aload_n hx hb 0 dX9_send_10 rfl) ?_
  refine zcons (s_getR hx hb hts hown hK zcX9 hinX9 0 (by decide) w304 rfl (fun _ => 1) (zptf (by decide) (by decide +kernel)) dX9_send_11) ?_
  refine zcons (s_callV (hZ := fun _ h => h) hx hb hts hml hown hK hro zcX1 (kX1_countOpen l X) (zgoodV w664 w665 w666 w45 w667) rfl rfl rfl (by decide +kernel) ⟨Nat.le_of_ble_eq_true rfl, Nat.le_of_ble_eq_true rfl⟩ dX9_send_14) ?_
  refine zcons (s_if_gt hx hb 30 dX9_send_17 (by decide)) ?_
  refine zcons (s_aload_n hx hb 0 dX9_send_20 rfl) ?_
  refine zcons (s_getR hx hb hts hown hK zcX9 hinX9 0 (by decide) w304 rfl (fun _ => 1) (zptf (by decide) (by decide +kernel)) dX9_send_21) ?_
  refine zcons (s_callV (hZ := fun _ h => h) hx hb hts hml hown hK hro zcX1 (kX1_countUnheard l X) (zgoodV w672 w673 w674 w45 w675) rfl rfl rfl (by decide +kernel) ⟨Nat.le_of_ble_eq_true rfl, Nat.le_of_ble_eq_true rfl⟩ dX9_send_24) ?_
  refine zcons (s_if_le hx hb 32 dX9_send_27 (by decide)) ?_
  refine zcons (s_iconst hx hb 0 dX9_send_30 (by decide)) ?_
  refine zcons (s_zret hx hb hr hK hlk dX9_send_31) ?_
  refine zcons (s_aload_n hx hb 0 dX9_send_32 rfl) ?_
  refine zcons (s_getR hx hb hts hown hK zcX9 hinX9 3 (by decide) w307 rfl (fun _ => 4) (zptf (by decide) (by decide +kernel)) dX9_send_33) ?_
  refine zcons (s_iconst hx hb 1 dX9_send_36 (by decide)) ?_
  refine zcons (s_putZ (hZ := fun _ h => h) hx hb hts hown hK zcX6 hinX6 tyX6 tyX6_ok nmX6 6 (by decide) w268 rfl rfl (zptk (by decide) (by decide +kernel)) (by decide +kernel) dX9_send_37) ?_
  refine zcons (s_iconst hx hb 1 dX9_send_40 (by decide)) ?_
  refine zcons (s_zret hx hb hr hK hlk dX9_send_41) ?_
  exact znil
