/-! The tables of methods and their contracts (written by wip/whole/gen.py). -/
noncomputable def tX10_holds : List (Nat × AI) := [(0, a_push 1 (.inl 0)), (1, a_istore 2 3), (2, a_iload 3 1), (3, a_istore 5 4), (5, a_push 6 (.inl 0)), (6, a_istore 8 5), (8, a_iload 10 5), (10, a_iload 11 2), (11, a_c_ge 14 73), (14, a_iload 16 4), (16, a_push 18 (.inl 10)), (18, a_rem 19), (19, a_istore 21 6), (21, a_iload 23 4), (23, a_push 25 (.inl 10)), (25, a_div 26), (26, a_istore 28 4), (28, a_iload 30 5), (30, a_push 31 (.inl 2)), (31, a_rem 32), (32, a_push 33 (.inl 1)), (33, a_c_ne 36 43), (36, a_push 37 (.inl 2)), (37, a_iload 39 6), (39, a_bin 40 (fun x y => x * y)), (40, a_goto 45), (43, a_iload 45 6), (45, a_istore 47 7), (47, a_iload 48 3), (48, a_iload 50 7), (50, a_push 52 (.inl 9)), (52, a_c_le 55 63), (55, a_iload 57 7), (57, a_push 59 (.inl 9)), (59, a_bin 60 (fun x y => x - y)), (60, a_goto 65), (63, a_iload 65 7), (65, a_bin 66 (fun x y => x + y)), (66, a_istore 67 3), (67, a_iinc 70 5 1), (70, a_goto 8), (73, a_iload 74 3), (74, a_push 76 (.inl 10)), (76, a_rem 77), (77, a_if_ne 80 84), (80, a_push 81 (.inl 1)), (81, a_goto 85), (84, a_push 85 (.inl 0)), (85, a_zret)]
noncomputable def mX10_holds : List AV → MM → Option AR := zsem tX10_holds 8 3
def wX10_holds : List Cond := .code yX10_holds cX10_holds 8 (some .boolean) :: lw_g
def rX10_holds : Room := { frames := 0, cells := 0, slots := 0, locals := 0 }
set_option maxHeartbeats 4000000 in
set_option maxRecDepth 100000 in
theorem kX10_holds (l : Launch) (X : XC) : zM l X yX10_holds wX10_holds rX10_holds mX10_holds := by
  refine zMet tX10_holds 3 (by decide) rfl (by decide) ?_
  intro p e s m args below meth c res hC
  obtain ⟨hx, hb, hr, hts0, hown, hml, hlk, hK⟩ := hC
  have hts : ∀ w ∈ lw_g, w.before args s = true := fun w h => hts0 w (List.mem_cons_of_mem _ h)
  have hro : 0 ≤ (headSpec wX10_holds rX10_holds).room.cells ∧ 0 ≤ (headSpec wX10_holds rX10_holds).room.slots := ⟨Nat.zero_le _, Nat.zero_le _⟩
  refine zcons (s_iconst hx hb 0 dX10_holds_0 (by decide)) ?_
  refine zcons (s_istore_n hx hb 3 dX10_holds_1 rfl) ?_
  refine zcons (s_iload_n hx hb 1 dX10_holds_2 rfl) ?_
  refine zcons (s_istore hx hb dX10_holds_3) ?_
  refine zcons (s_iconst hx hb 0 dX10_holds_5 (by decide)) ?_
  refine zcons (s_istore hx hb dX10_holds_6) ?_
  refine zcons (s_iload hx hb dX10_holds_8) ?_
  refine zcons (s_iload_n hx hb 2 dX10_holds_10 rfl) ?_
  refine zcons (s_c_ge hx hb 73 dX10_holds_11 (by decide)) ?_
  refine zcons (s_iload hx hb dX10_holds_14) ?_
  refine zcons (s_bipush hx hb 10 dX10_holds_16 (by decide)) ?_
  refine zcons (s_irem hx hb dX10_holds_18) ?_
  refine zcons (s_istore hx hb dX10_holds_19) ?_
  refine zcons (s_iload hx hb dX10_holds_21) ?_
  refine zcons (s_bipush hx hb 10 dX10_holds_23 (by decide)) ?_
  refine zcons (s_idiv hx hb dX10_holds_25) ?_
  refine zcons (s_istore hx hb dX10_holds_26) ?_
  refine zcons (s_iload hx hb dX10_holds_28) ?_
  refine zcons (s_iconst hx hb 2 dX10_holds_30 (by decide)) ?_
  refine zcons (s_irem hx hb dX10_holds_31) ?_
  refine zcons (s_iconst hx hb 1 dX10_holds_32 (by decide)) ?_
  refine zcons (s_c_ne hx hb 43 dX10_holds_33 (by decide)) ?_
  refine zcons (s_iconst hx hb 2 dX10_holds_36 (by decide)) ?_
  refine zcons (s_iload hx hb dX10_holds_37) ?_
  refine zcons (s_imul hx hb dX10_holds_39) ?_
  refine zcons (s_goto hx hb 45 dX10_holds_40 (by decide)) ?_
  refine zcons (s_iload hx hb dX10_holds_43) ?_
  refine zcons (s_istore hx hb dX10_holds_45) ?_
  refine zcons (s_iload_n hx hb 3 dX10_holds_47 rfl) ?_
  refine zcons (s_iload hx hb dX10_holds_48) ?_
  refine zcons (s_bipush hx hb 9 dX10_holds_50 (by decide)) ?_
  refine zcons (s_c_le hx hb 63 dX10_holds_52 (by decide)) ?_
  refine zcons (s_iload hx hb dX10_holds_55) ?_
  refine zcons (s_bipush hx hb 9 dX10_holds_57 (by decide)) ?_
  refine zcons (s_isub hx hb dX10_holds_59) ?_
  refine zcons (s_goto hx hb 65 dX10_holds_60 (by decide)) ?_
  refine zcons (s_iload hx hb dX10_holds_63) ?_
  refine zcons (s_iadd hx hb dX10_holds_65) ?_
  refine zcons (s_istore_n hx hb 3 dX10_holds_66 rfl) ?_
  refine zcons (s_iinc hx hb 1 dX10_holds_67 (by decide)) ?_
  refine zcons (s_goto hx hb 8 dX10_holds_70 (by decide)) ?_
  refine zcons (s_iload_n hx hb 3 dX10_holds_73 rfl) ?_
  refine zcons (s_bipush hx hb 10 dX10_holds_74 (by decide)) ?_
  refine zcons (s_irem hx hb dX10_holds_76) ?_
  refine zcons (s_if_ne hx hb 84 dX10_holds_77 (by decide)) ?_
  refine zcons (s_iconst hx hb 1 dX10_holds_80 (by decide)) ?_
  refine zcons (s_goto hx hb 85 dX10_holds_81 (by decide)) ?_
  refine zcons (s_iconst hx hb 0 dX10_holds_84 (by decide)) ?_
  refine zcons (s_zret hx hb hr hK hlk dX10_holds_85) ?_
  exact znil
noncomputable def tX10_answer : List (Nat × AI) := [(0, a_aload 1 0), (1, a_getR 4 9 (fun _ => 21)), (4, a_iload 5 1), (5, a_ald 6 10), (6, a_if_ne 9 63), (9, a_aload 10 0), (10, a_getI 13 9 24), (13, a_iload 14 2), (14, a_push 15 (.inl 1)), (15, a_bin 16 (fun x y => x + y)), (16, a_c_eq 19 21), (19, a_push 20 (.inl (-1))), (20, a_iret), (21, a_push 22 (.inl 0)), (22, a_istore 23 3), (23, a_iload 24 3), (24, a_aload 25 0), (25, a_getR 28 9 (fun _ => 22)), (28, a_iload 29 1), (29, a_ald 30 10), (30, a_c_ge 33 61), (33, a_aload 34 0), (34, a_getR 37 9 (fun _ => 25)), (37, a_push 39 (.inl 6)), (39, a_iload 40 1), (40, a_bin 41 (fun x y => x * y)), (41, a_iload 42 3), (42, a_bin 43 (fun x y => x + y)), (43, a_ald 44 10), (44, a_aload 45 0), (45, a_getR 48 9 (fun _ => 38)), (48, a_iload 49 2), (49, a_ald 50 10), (50, a_c_ne 53 55), (53, a_iload 54 3), (54, a_iret), (55, a_iinc 58 3 1), (58, a_goto 23), (61, a_push 62 (.inl (-1))), (62, a_iret), (63, a_push 64 (.inl 0)), (64, a_istore 65 3), (65, a_push 66 (.inl 0)), (66, a_istore 68 4), (68, a_iload 69 2), (69, a_istore 71 5), (71, a_iload 73 5), (73, a_aload 74 0), (74, a_getI 77 9 24), (77, a_c_ge 80 193), (80, a_iload 82 4), (82, a_aload 83 0), (83, a_getR 86 9 (fun _ => 21)), (86, a_iload 87 1), (87, a_ald 88 10), (88, a_c_ge 91 193), (91, a_aload 92 0), (92, a_getR 95 9 (fun _ => 38)), (95, a_iload 97 5), (97, a_ald 98 10), (98, a_push 100 (.inl 10)), (100, a_c_ne 103 107), (103, a_push 104 (.inl 1)), (104, a_goto 108), (107, a_push 108 (.inl 0)), (108, a_istore 110 6), (110, a_iload 112 6), (112, a_if_eq 115 118), (115, a_iinc 118 5 1), (118, a_iload 120 5), (120, a_aload 121 0), (121, a_getI 124 9 24), (124, a_c_eq 127 139), (127, a_aload 128 0), (128, a_getR 131 9 (fun _ => 38)), (131, a_iload 133 5), (133, a_ald 134 10), (134, a_push 136 (.inl 9)), (136, a_c_le 139 141), (139, a_push 140 (.inl (-1))), (140, a_iret), (141, a_push 143 (.inl 10)), (143, a_iload 144 3), (144, a_bin 145 (fun x y => x * y)), (145, a_aload 146 0), (146, a_getR 149 9 (fun _ => 38)), (149, a_iload 151 5), (151, a_ald 152 10), (152, a_bin 153 (fun x y => x + y)), (153, a_istore 154 3), (154, a_iload 156 6), (156, a_if_eq 159 172), (159, a_push 161 (.inl 10)), (161, a_iload 162 3), (162, a_bin 163 (fun x y => x * y)), (163, a_aload 164 0), (164, a_getR 167 9 (fun _ => 38)), (167, a_iload 169 5), (169, a_ald 170 10), (170, a_bin 171 (fun x y => x + y)), (171, a_istore 172 3), (172, a_iload 174 4), (174, a_iload 176 6), (176, a_if_eq 179 183), (179, a_push 180 (.inl 2)), (180, a_goto 184), (183, a_push 184 (.inl 1)), (184, a_bin 185 (fun x y => x + y)), (185, a_istore 187 4), (187, a_iinc 190 5 1), (190, a_goto 71), (193, a_iload 195 5), (195, a_aload 196 0), (196, a_getI 199 9 24), (199, a_c_lt 202 232), (202, a_iload 204 4), (204, a_aload 205 0), (205, a_getR 208 9 (fun _ => 21)), (208, a_iload 209 1), (209, a_ald 210 10), (210, a_c_ne 213 232), (213, a_aload 214 0), (214, a_getR 217 9 (fun _ => 23)), (217, a_iload 218 1), (218, a_ald 219 11), (219, a_if_eq 222 236), (222, a_aload 223 0), (223, a_iload 224 3), (224, a_iload 226 4), (226, a_callV 229 2 9 mX10_holds), (229, a_if_ne 232 236), (232, a_push 233 (.inl (-1))), (233, a_goto 237), (236, a_iload 237 3), (237, a_iret)]
noncomputable def mX10_answer : List AV → MM → Option AR := zsem tX10_answer 7 3
def wX10_answer : List Cond := .code yX10_answer cX10_answer 7 (some .int) :: lw_g
def rX10_answer : Room := { frames := 1, cells := 0, slots := 0, locals := 27 }
set_option maxHeartbeats 4000000 in
set_option maxRecDepth 100000 in
theorem kX10_answer (l : Launch) (X : XC) : zM l X yX10_answer wX10_answer rX10_answer mX10_answer := by
  refine zMet tX10_answer 3 (by decide) rfl (by decide) ?_
  intro p e s m args below meth c res hC
  obtain ⟨hx, hb, hr, hts0, hown, hml, hlk, hK⟩ := hC
  have hts : ∀ w ∈ lw_g, w.before args s = true := fun w h => hts0 w (List.mem_cons_of_mem _ h)
  have hro : 0 ≤ (headSpec wX10_answer rX10_answer).room.cells ∧ 0 ≤ (headSpec wX10_answer rX10_answer).room.slots := ⟨Nat.zero_le _, Nat.zero_le _⟩
  refine zcons (s_aload_n hx hb 0 dX10_answer_0 rfl) ?_
  refine zcons (s_getR hx hb hts hown hK zcX10 hinX10 2 (by decide) w705 rfl (fun _ => 21) (zptf (by decide) (by decide +kernel)) dX10_answer_1) ?_
  refine zcons (s_iload_n hx hb 1 dX10_answer_4 rfl) ?_
  refine zcons (s_iald hx hb hK dX10_answer_5) ?_
  refine zcons (s_if_ne hx hb 63 dX10_answer_6 (by decide)) ?_
  refine zcons (s_aload_n hx hb 0 dX10_answer_9 rfl) ?_
  refine zcons (s_getI hx hb hts hown hK zcX10 hinX10 24 (by decide) w727 rfl (zptk (by decide) (by decide +kernel)) dX10_answer_10) ?_
  refine zcons (s_iload_n hx hb 2 dX10_answer_13 rfl) ?_
  refine zcons (s_iconst hx hb 1 dX10_answer_14 (by decide)) ?_
  refine zcons (s_iadd hx hb dX10_answer_15) ?_
  refine zcons (s_c_eq hx hb 21 dX10_answer_16 (by decide)) ?_
  refine zcons (s_iconst hx hb (-1) dX10_answer_19 (by decide)) ?_
  refine zcons (s_iret hx hb hr hK hlk dX10_answer_20) ?_
  refine zcons (s_iconst hx hb 0 dX10_answer_21 (by decide)) ?_
  refine zcons (s_istore_n hx hb 3 dX10_answer_22 rfl) ?_
  refine zcons (s_iload_n hx hb 3 dX10_answer_23 rfl) ?_
  refine zcons (s_aload_n hx hb 0 dX10_answer_24 rfl) ?_
  refine zcons (s_getR hx hb hts hown hK zcX10 hinX10 3 (by decide) w706 rfl (fun _ => 22) (zptf (by decide) (by decide +kernel)) dX10_answer_25) ?_
  refine zcons (s_iload_n hx hb 1 dX10_answer_28 rfl) ?_
  refine zcons (s_iald hx hb hK dX10_answer_29) ?_
  refine zcons (s_c_ge hx hb 61 dX10_answer_30 (by decide)) ?_
  refine zcons (s_aload_n hx hb 0 dX10_answer_33 rfl) ?_
  refine zcons (s_getR hx hb hts hown hK zcX10 hinX10 6 (by decide) w709 rfl (fun _ => 25) (zptf (by decide) (by decide +kernel)) dX10_answer_34) ?_
  refine zcons (s_bipush hx hb 6 dX10_answer_37 (by decide)) ?_
  refine zcons (s_iload_n hx hb 1 dX10_answer_39 rfl) ?_
  refine zcons (s_imul hx hb dX10_answer_40) ?_
  refine zcons (s_iload_n hx hb 3 dX10_answer_41 rfl) ?_
  refine zcons (s_iadd hx hb dX10_answer_42) ?_
  refine zcons (s_iald hx hb hK dX10_answer_43) ?_
  refine zcons (s_aload_n hx hb 0 dX10_answer_44 rfl) ?_
  refine zcons (s_getR hx hb hts hown hK zcX10 hinX10 23 (by decide) w726 rfl (fun _ => 38) (zptf (by decide) (by decide +kernel)) dX10_answer_45) ?_
  refine zcons (s_iload_n hx hb 2 dX10_answer_48 rfl) ?_
  refine zcons (s_iald hx hb hK dX10_answer_49) ?_
  refine zcons (s_c_ne hx hb 55 dX10_answer_50 (by decide)) ?_
  refine zcons (s_iload_n hx hb 3 dX10_answer_53 rfl) ?_
  refine zcons (s_iret hx hb hr hK hlk dX10_answer_54) ?_
  refine zcons (s_iinc hx hb 1 dX10_answer_55 (by decide)) ?_
  refine zcons (s_goto hx hb 23 dX10_answer_58 (by decide)) ?_
  refine zcons (s_iconst hx hb (-1) dX10_answer_61 (by decide)) ?_
  refine zcons (s_iret hx hb hr hK hlk dX10_answer_62) ?_
  refine zcons (s_iconst hx hb 0 dX10_answer_63 (by decide)) ?_
  refine zcons (s_istore_n hx hb 3 dX10_answer_64 rfl) ?_
  refine zcons (s_iconst hx hb 0 dX10_answer_65 (by decide)) ?_
  refine zcons (s_istore hx hb dX10_answer_66) ?_
  refine zcons (s_iload_n hx hb 2 dX10_answer_68 rfl) ?_
  refine zcons (s_istore hx hb dX10_answer_69) ?_
  refine zcons (s_iload hx hb dX10_answer_71) ?_
  refine zcons (s_aload_n hx hb 0 dX10_answer_73 rfl) ?_
  refine zcons (s_getI hx hb hts hown hK zcX10 hinX10 24 (by decide) w727 rfl (zptk (by decide) (by decide +kernel)) dX10_answer_74) ?_
  refine zcons (s_c_ge hx hb 193 dX10_answer_77 (by decide)) ?_
  refine zcons (s_iload hx hb dX10_answer_80) ?_
  refine zcons (s_aload_n hx hb 0 dX10_answer_82 rfl) ?_
  refine zcons (s_getR hx hb hts hown hK zcX10 hinX10 2 (by decide) w705 rfl (fun _ => 21) (zptf (by decide) (by decide +kernel)) dX10_answer_83) ?_
  refine zcons (s_iload_n hx hb 1 dX10_answer_86 rfl) ?_
  refine zcons (s_iald hx hb hK dX10_answer_87) ?_
  refine zcons (s_c_ge hx hb 193 dX10_answer_88 (by decide)) ?_
  refine zcons (s_aload_n hx hb 0 dX10_answer_91 rfl) ?_
  refine zcons (s_getR hx hb hts hown hK zcX10 hinX10 23 (by decide) w726 rfl (fun _ => 38) (zptf (by decide) (by decide +kernel)) dX10_answer_92) ?_
  refine zcons (s_iload hx hb dX10_answer_95) ?_
  refine zcons (s_iald hx hb hK dX10_answer_97) ?_
  refine zcons (s_bipush hx hb 10 dX10_answer_98 (by decide)) ?_
  refine zcons (s_c_ne hx hb 107 dX10_answer_100 (by decide)) ?_
  refine zcons (s_iconst hx hb 1 dX10_answer_103 (by decide)) ?_
  refine zcons (s_goto hx hb 108 dX10_answer_104 (by decide)) ?_
  refine zcons (s_iconst hx hb 0 dX10_answer_107 (by decide)) ?_
  refine zcons (s_istore hx hb dX10_answer_108) ?_
  refine zcons (s_iload hx hb dX10_answer_110) ?_
  refine zcons (s_if_eq hx hb 118 dX10_answer_112 (by decide)) ?_
  refine zcons (s_iinc hx hb 1 dX10_answer_115 (by decide)) ?_
  refine zcons (s_iload hx hb dX10_answer_118) ?_
  refine zcons (s_aload_n hx hb 0 dX10_answer_120 rfl) ?_
  refine zcons (s_getI hx hb hts hown hK zcX10 hinX10 24 (by decide) w727 rfl (zptk (by decide) (by decide +kernel)) dX10_answer_121) ?_
  refine zcons (s_c_eq hx hb 139 dX10_answer_124 (by decide)) ?_
  refine zcons (s_aload_n hx hb 0 dX10_answer_127 rfl) ?_
  refine zcons (s_getR hx hb hts hown hK zcX10 hinX10 23 (by decide) w726 rfl (fun _ => 38) (zptf (by decide) (by decide +kernel)) dX10_answer_128) ?_
  refine zcons (s_iload hx hb dX10_answer_131) ?_
  refine zcons (s_iald hx hb hK dX10_answer_133) ?_
  refine zcons (s_bipush hx hb 9 dX10_answer_134 (by decide)) ?_
  refine zcons (s_c_le hx hb 141 dX10_answer_136 (by decide)) ?_
  refine zcons (s_iconst hx hb (-1) dX10_answer_139 (by decide)) ?_
  refine zcons (s_iret hx hb hr hK hlk dX10_answer_140) ?_
  refine zcons (s_bipush hx hb 10 dX10_answer_141 (by decide)) ?_
  refine zcons (s_iload_n hx hb 3 dX10_answer_143 rfl) ?_
  refine zcons (s_imul hx hb dX10_answer_144) ?_
  refine zcons (s_aload_n hx hb 0 dX10_answer_145 rfl) ?_
  refine zcons (s_getR hx hb hts hown hK zcX10 hinX10 23 (by decide) w726 rfl (fun _ => 38) (zptf (by decide) (by decide +kernel)) dX10_answer_146) ?_
  refine zcons (s_iload hx hb dX10_answer_149) ?_
  refine zcons (s_iald hx hb hK dX10_answer_151) ?_
  refine zcons (s_iadd hx hb dX10_answer_152) ?_
  refine zcons (s_istore_n hx hb 3 dX10_answer_153 rfl) ?_
  refine zcons (s_iload hx hb dX10_answer_154) ?_
  refine zcons (s_if_eq hx hb 172 dX10_answer_156 (by decide)) ?_
  refine zcons (s_bipush hx hb 10 dX10_answer_159 (by decide)) ?_
  refine zcons (s_iload_n hx hb 3 dX10_answer_161 rfl) ?_
  refine zcons (s_imul hx hb dX10_answer_162) ?_
  refine zcons (s_aload_n hx hb 0 dX10_answer_163 rfl) ?_
  refine zcons (s_getR hx hb hts hown hK zcX10 hinX10 23 (by decide) w726 rfl (fun _ => 38) (zptf (by decide) (by decide +kernel)) dX10_answer_164) ?_
  refine zcons (s_iload hx hb dX10_answer_167) ?_
  refine zcons (s_iald hx hb hK dX10_answer_169) ?_
  refine zcons (s_iadd hx hb dX10_answer_170) ?_
  refine zcons (s_istore_n hx hb 3 dX10_answer_171 rfl) ?_
  refine zcons (s_iload hx hb dX10_answer_172) ?_
  refine zcons (s_iload hx hb dX10_answer_174) ?_
  refine zcons (s_if_eq hx hb 183 dX10_answer_176 (by decide)) ?_
  refine zcons (s_iconst hx hb 2 dX10_answer_179 (by decide)) ?_
  refine zcons (s_goto hx hb 184 dX10_answer_180 (by decide)) ?_
  refine zcons (s_iconst hx hb 1 dX10_answer_183 (by decide)) ?_
  refine zcons (s_iadd hx hb dX10_answer_184) ?_
  refine zcons (s_istore hx hb dX10_answer_185) ?_
  refine zcons (s_iinc hx hb 1 dX10_answer_187 (by decide)) ?_
  refine zcons (s_goto hx hb 71 dX10_answer_190 (by decide)) ?_
  refine zcons (s_iload hx hb dX10_answer_193) ?_
  refine zcons (s_aload_n hx hb 0 dX10_answer_195 rfl) ?_
  refine zcons (s_getI hx hb hts hown hK zcX10 hinX10 24 (by decide) w727 rfl (zptk (by decide) (by decide +kernel)) dX10_answer_196) ?_
  refine zcons (s_c_lt hx hb 232 dX10_answer_199 (by decide)) ?_
  refine zcons (s_iload hx hb dX10_answer_202) ?_
  refine zcons (s_aload_n hx hb 0 dX10_answer_204 rfl) ?_
  refine zcons (s_getR hx hb hts hown hK zcX10 hinX10 2 (by decide) w705 rfl (fun _ => 21) (zptf (by decide) (by decide +kernel)) dX10_answer_205) ?_
  refine zcons (s_iload_n hx hb 1 dX10_answer_208 rfl) ?_
  refine zcons (s_iald hx hb hK dX10_answer_209) ?_
  refine zcons (s_c_ne hx hb 232 dX10_answer_210 (by decide)) ?_
  refine zcons (s_aload_n hx hb 0 dX10_answer_213 rfl) ?_
  refine zcons (s_getR hx hb hts hown hK zcX10 hinX10 4 (by decide) w707 rfl (fun _ => 23) (zptf (by decide) (by decide +kernel)) dX10_answer_214) ?_
  refine zcons (s_iload_n hx hb 1 dX10_answer_217 rfl) ?_
  refine zcons (s_zald hx hb hK dX10_answer_218) ?_
  refine zcons (s_if_eq hx hb 236 dX10_answer_219 (by decide)) ?_
  refine zcons (s_aload_n hx hb 0 dX10_answer_222 rfl) ?_
  refine zcons (s_iload_n hx hb 3 dX10_answer_223 rfl) ?_
  refine zcons (s_iload hx hb dX10_answer_224) ?_
  refine zcons (s_callV (hZ := fun _ h => h) hx hb hts hml hown hK hro zcX10 (kX10_holds l X) (zgoodV w888 w890 w28 w54 w891) rfl rfl rfl (by decide +kernel) ⟨Nat.le_of_ble_eq_true rfl, Nat.le_of_ble_eq_true rfl⟩ dX10_answer_226) ?_
  refine zcons (s_if_ne hx hb 236 dX10_answer_229 (by decide)) ?_
  refine zcons (s_iconst hx hb (-1) dX10_answer_232 (by decide)) ?_
  refine zcons (s_goto hx hb 237 dX10_answer_233 (by decide)) ?_
  refine zcons (s_iload_n hx hb 3 dX10_answer_236 rfl) ?_
  refine zcons (s_iret hx hb hr hK hlk dX10_answer_237) ?_
  exact znil
noncomputable def tX10_fieldNamed : List (Nat × AI) := [(0, a_push 1 (.inl 0)), (1, a_istore 2 2), (2, a_iload 3 2), (3, a_aload 4 0), (4, a_getI 7 9 0), (7, a_c_ge 10 28), (10, a_aload 11 0), (11, a_getR 14 9 (fun _ => 20)), (14, a_iload 15 2), (15, a_ald 16 10), (16, a_iload 17 1), (17, a_c_ne 20 22), (20, a_iload 21 2), (21, a_iret), (22, a_iinc 25 2 1), (25, a_goto 2), (28, a_push 29 (.inl (-1))), (29, a_iret)]
noncomputable def mX10_fieldNamed : List AV → MM → Option AR := zsem tX10_fieldNamed 3 2
def wX10_fieldNamed : List Cond := .code yX10_fieldNamed cX10_fieldNamed 3 (some .int) :: lw_g
def rX10_fieldNamed : Room := { frames := 0, cells := 0, slots := 0, locals := 0 }
set_option maxHeartbeats 4000000 in
set_option maxRecDepth 100000 in
theorem kX10_fieldNamed (l : Launch) (X : XC) : zM l X yX10_fieldNamed wX10_fieldNamed rX10_fieldNamed mX10_fieldNamed := by
  refine zMet tX10_fieldNamed 2 (by decide) rfl (by decide) ?_
  intro p e s m args below meth c res hC
  obtain ⟨hx, hb, hr, hts0, hown, hml, hlk, hK⟩ := hC
  have hts : ∀ w ∈ lw_g, w.before args s = true := fun w h => hts0 w (List.mem_cons_of_mem _ h)
  have hro : 0 ≤ (headSpec wX10_fieldNamed rX10_fieldNamed).room.cells ∧ 0 ≤ (headSpec wX10_fieldNamed rX10_fieldNamed).room.slots := ⟨Nat.zero_le _, Nat.zero_le _⟩
  refine zcons (s_iconst hx hb 0 dX10_fieldNamed_0 (by decide)) ?_
  refine zcons (s_istore_n hx hb 2 dX10_fieldNamed_1 rfl) ?_
  refine zcons (s_iload_n hx hb 2 dX10_fieldNamed_2 rfl) ?_
  refine zcons (s_aload_n hx hb 0 dX10_fieldNamed_3 rfl) ?_
  refine zcons (s_getI hx hb hts hown hK zcX10 hinX10 0 (by decide) w703 rfl (zptk (by decide) (by decide +kernel)) dX10_fieldNamed_4) ?_
  refine zcons (s_c_ge hx hb 28 dX10_fieldNamed_7 (by decide)) ?_
  refine zcons (s_aload_n hx hb 0 dX10_fieldNamed_10 rfl) ?_
  refine zcons (s_getR hx hb hts hown hK zcX10 hinX10 1 (by decide) w704 rfl (fun _ => 20) (zptf (by decide) (by decide +kernel)) dX10_fieldNamed_11) ?_
  refine zcons (s_iload_n hx hb 2 dX10_fieldNamed_14 rfl) ?_
  refine zcons (s_iald hx hb hK dX10_fieldNamed_15) ?_
  refine zcons (s_iload_n hx hb 1 dX10_fieldNamed_16 rfl) ?_
  refine zcons (s_c_ne hx hb 22 dX10_fieldNamed_17 (by decide)) ?_
  refine zcons (s_iload_n hx hb 2 dX10_fieldNamed_20 rfl) ?_
  refine zcons (s_iret hx hb hr hK hlk dX10_fieldNamed_21) ?_
  refine zcons (s_iinc hx hb 1 dX10_fieldNamed_22 (by decide)) ?_
  refine zcons (s_goto hx hb 2 dX10_fieldNamed_25 (by decide)) ?_
  refine zcons (s_iconst hx hb (-1) dX10_fieldNamed_28 (by decide)) ?_
  refine zcons (s_iret hx hb hr hK hlk dX10_fieldNamed_29) ?_
  exact znil
noncomputable def tX10_read : List (Nat × AI) := [(0, a_aload 1 0), (1, a_getI 4 9 24), (4, a_if_ne 7 8), (7, a_vret), (8, a_aload 9 0), (9, a_getI 12 9 29), (12, a_if_ge 15 19), (15, a_push 16 (.inl (-1))), (16, a_goto 28), (19, a_aload 20 0), (20, a_aload 21 0), (21, a_getI 24 9 29), (24, a_push 25 (.inl 0)), (25, a_callV 28 2 9 mX10_answer), (28, a_istore 29 2), (29, a_iload 30 2), (30, a_if_lt 33 40), (33, a_aload 34 0), (34, a_iload 35 1), (35, a_push 36 (.inl 0)), (36, a_iload 37 2), (37, a_callV 40 3 9 mX10_found), (40, a_aload 41 0), (41, a_getI 44 9 24), (44, a_push 45 (.inl 1)), (45, a_c_ne 48 84), (48, a_aload 49 0), (49, a_getR 52 9 (fun _ => 38)), (52, a_push 53 (.inl 0)), (53, a_ald 54 10), (54, a_push 56 (.inl 11)), (56, a_push 58 (.inl 16)), (58, a_callS 61 3 mX10_isIn), (61, a_if_eq 64 84), (64, a_aload 65 0), (65, a_iload 66 1), (66, a_aload 67 0), (67, a_getI 70 9 13), (70, a_bin 71 (fun x y => x + y)), (71, a_aload 72 0), (72, a_getR 75 9 (fun _ => 38)), (75, a_push 76 (.inl 0)), (76, a_ald 77 10), (77, a_push 79 (.inl 10)), (79, a_bin 80 (fun x y => x - y)), (80, a_push 81 (.inl 0)), (81, a_callV 84 3 9 mX10_found), (84, a_aload 85 0), (85, a_getI 88 9 24), (88, a_push 89 (.inl 2)), (89, a_c_ne 92 116), (92, a_aload 93 0), (93, a_getR 96 9 (fun _ => 38)), (96, a_push 97 (.inl 0)), (97, a_ald 98 10), (98, a_push 100 (.inl 17)), (100, a_c_ne 103 116), (103, a_aload 104 0), (104, a_aload 105 0), (105, a_getR 108 9 (fun _ => 38)), (108, a_push 109 (.inl 1)), (109, a_ald 110 10), (110, a_callV 113 1 9 mX10_fieldNamed), (113, a_goto 117), (116, a_push 117 (.inl (-1))), (117, a_istore 118 3), (118, a_iload 119 3), (119, a_if_lt 122 135), (122, a_aload 123 0), (123, a_iload 124 1), (124, a_aload 125 0), (125, a_getI 128 9 13), (128, a_bin 129 (fun x y => x + y)), (129, a_push 131 (.inl 7)), (131, a_iload 132 3), (132, a_callV 135 3 9 mX10_found), (135, a_aload 136 0), (136, a_getI 139 9 24), (139, a_push 140 (.inl 1)), (140, a_c_le 143 173), (143, a_aload 144 0), (144, a_getR 147 9 (fun _ => 38)), (147, a_push 148 (.inl 0)), (148, a_ald 149 10), (149, a_push 151 (.inl 16)), (151, a_c_ne 154 173), (154, a_aload 155 0), (155, a_getI 158 9 30), (158, a_if_lt 161 173), (161, a_aload 162 0), (162, a_aload 163 0), (163, a_getI 166 9 30), (166, a_push 167 (.inl 1)), (167, a_callV 170 2 9 mX10_answer), (170, a_goto 174), (173, a_push 174 (.inl (-1))), (174, a_istore 176 4), (176, a_iload 178 4), (178, a_if_lt 181 195), (181, a_aload 182 0), (182, a_iload 183 1), (183, a_aload 184 0), (184, a_getI 187 9 13), (187, a_bin 188 (fun x y => x + y)), (188, a_push 190 (.inl 8)), (190, a_iload 192 4), (192, a_callV 195 3 9 mX10_found), (195, a_vret)]
noncomputable def mX10_read : List AV → MM → Option AR := zsem tX10_read 5 2
def wX10_read : List Cond := .code yX10_read cX10_read 5 none :: lw_g
def rX10_read : Room := { frames := 2, cells := 0, slots := 0, locals := 53 }
set_option maxHeartbeats 4000000 in
set_option maxRecDepth 100000 in
theorem kX10_read (l : Launch) (X : XC) : zM l X yX10_read wX10_read rX10_read mX10_read := by
  refine zMet tX10_read 2 (by decide) rfl (by decide) ?_
  intro p e s m args below meth c res hC
  obtain ⟨hx, hb, hr, hts0, hown, hml, hlk, hK⟩ := hC
  have hts : ∀ w ∈ lw_g, w.before args s = true := fun w h => hts0 w (List.mem_cons_of_mem _ h)
  have hro : 0 ≤ (headSpec wX10_read rX10_read).room.cells ∧ 0 ≤ (headSpec wX10_read rX10_read).room.slots := ⟨Nat.zero_le _, Nat.zero_le _⟩
  refine zcons (s_aload_n hx hb 0 dX10_read_0 rfl) ?_
  refine zcons (s_getI hx hb hts hown hK zcX10 hinX10 24 (by decide) w727 rfl (zptk (by decide) (by decide +kernel)) dX10_read_1) ?_
  refine zcons (s_if_ne hx hb 8 dX10_read_4 (by decide)) ?_
  refine zcons (s_vret hx hb hr hK hlk dX10_read_7) ?_
  refine zcons (s_aload_n hx hb 0 dX10_read_8 rfl) ?_
  refine zcons (s_getI hx hb hts hown hK zcX10 hinX10 29 (by decide) w732 rfl (zptk (by decide) (by decide +kernel)) dX10_read_9) ?_
  refine zcons (s_if_ge hx hb 19 dX10_read_12 (by decide)) ?_
  refine zcons (s_iconst hx hb (-1) dX10_read_15 (by decide)) ?_
  refine zcons (s_goto hx hb 28 dX10_read_16 (by decide)) ?_
  refine zcons (s_aload_n hx hb 0 dX10_read_19 rfl) ?_
  refine zcons (s_aload_n hx hb 0 dX10_read_20 rfl) ?_
  refine zcons (s_getI hx hb hts hown hK zcX10 hinX10 29 (by decide) w732 rfl (zptk (by decide) (by decide +kernel)) dX10_read_21) ?_
  refine zcons (s_iconst hx hb 0 dX10_read_24 (by decide)) ?_
  refine zcons (s_callV (hZ := fun _ h => h) hx hb hts hml hown hK hro zcX10 (kX10_answer l X) (zgoodV w884 w886 w27 w54 w887) rfl rfl rfl (by decide +kernel) ⟨Nat.le_of_ble_eq_true rfl, Nat.le_of_ble_eq_true rfl⟩ dX10_read_25) ?_
  refine zcons (s_istore_n hx hb 2 dX10_read_28 rfl) ?_
  refine zcons (s_iload_n hx hb 2 dX10_read_29 rfl) ?_
  refine zcons (s_if_lt hx hb 40 dX10_read_30 (by decide)) ?_
  refine zcons (s_aload_n hx hb 0 dX10_read_33 rfl) ?_
  refine zcons (s_iload_n hx hb 1 dX10_read_34 rfl) ?_
  refine zcons (s_iconst hx hb 0 dX10_read_35 (by decide)) ?_
  refine zcons (s_iload_n hx hb 2 dX10_read_36 rfl) ?_
  refine zcons (s_callV (hZ := fun _ h => h) hx hb hts hml hown hK hro zcX10 (kX10_found l X) (zgoodV w892 w894 w29 w54 w895) rfl rfl rfl (by decide +kernel) ⟨Nat.le_of_ble_eq_true rfl, Nat.le_of_ble_eq_true rfl⟩ dX10_read_37) ?_
  refine zcons (s_aload_n hx hb 0 dX10_read_40 rfl) ?_
  refine zcons (s_getI hx hb hts hown hK zcX10 hinX10 24 (by decide) w727 rfl (zptk (by decide) (by decide +kernel)) dX10_read_41) ?_
  refine zcons (s_iconst hx hb 1 dX10_read_44 (by decide)) ?_
  refine zcons (s_c_ne hx hb 84 dX10_read_45 (by decide)) ?_
  refine zcons (s_aload_n hx hb 0 dX10_read_48 rfl) ?_
  refine zcons (s_getR hx hb hts hown hK zcX10 hinX10 23 (by decide) w726 rfl (fun _ => 38) (zptf (by decide) (by decide +kernel)) dX10_read_49) ?_
  refine zcons (s_iconst hx hb 0 dX10_read_52 (by decide)) ?_
  refine zcons (s_iald hx hb hK dX10_read_53) ?_
  refine zcons (s_bipush hx hb 11 dX10_read_54 (by decide)) ?_
  refine zcons (s_bipush hx hb 16 dX10_read_56 (by decide)) ?_
  refine zcons (s_callS (hZ := fun _ h => h) hx hb hts hml hown hK hro (kX10_isIn l X) (va_cwS 3 hts (zgoodS w836 w837 w54 w838) rfl rfl rfl (by decide +kernel) ⟨Nat.le_of_ble_eq_true rfl, Nat.le_of_ble_eq_true rfl⟩) dX10_read_58) ?_
  refine zcons (s_if_eq hx hb 84 dX10_read_61 (by decide)) ?_
  refine zcons (s_aload_n hx hb 0 dX10_read_64 rfl) ?_
  refine zcons (s_iload_n hx hb 1 dX10_read_65 rfl) ?_
  refine zcons (s_aload_n hx hb 0 dX10_read_66 rfl) ?_
  refine zcons (s_getI hx hb hts hown hK zcX10 hinX10 13 (by decide) w716 rfl (zptk (by decide) (by decide +kernel)) dX10_read_67) ?_
  refine zcons (s_iadd hx hb dX10_read_70) ?_
  refine zcons (s_aload_n hx hb 0 dX10_read_71 rfl) ?_
  refine zcons (s_getR hx hb hts hown hK zcX10 hinX10 23 (by decide) w726 rfl (fun _ => 38) (zptf (by decide) (by decide +kernel)) dX10_read_72) ?_
  refine zcons (s_iconst hx hb 0 dX10_read_75 (by decide)) ?_
  refine zcons (s_iald hx hb hK dX10_read_76) ?_
  refine zcons (s_bipush hx hb 10 dX10_read_77 (by decide)) ?_
  refine zcons (s_isub hx hb dX10_read_79) ?_
  refine zcons (s_iconst hx hb 0 dX10_read_80 (by decide)) ?_
  refine zcons (s_callV (hZ := fun _ h => h) hx hb hts hml hown hK hro zcX10 (kX10_found l X) (zgoodV w892 w894 w29 w54 w895) rfl rfl rfl (by decide +kernel) ⟨Nat.le_of_ble_eq_true rfl, Nat.le_of_ble_eq_true rfl⟩ dX10_read_81) ?_
  refine zcons (s_aload_n hx hb 0 dX10_read_84 rfl) ?_
  refine zcons (s_getI hx hb hts hown hK zcX10 hinX10 24 (by decide) w727 rfl (zptk (by decide) (by decide +kernel)) dX10_read_85) ?_
  refine zcons (s_iconst hx hb 2 dX10_read_88 (by decide)) ?_
  refine zcons (s_c_ne hx hb 116 dX10_read_89 (by decide)) ?_
  refine zcons (s_aload_n hx hb 0 dX10_read_92 rfl) ?_
  refine zcons (s_getR hx hb hts hown hK zcX10 hinX10 23 (by decide) w726 rfl (fun _ => 38) (zptf (by decide) (by decide +kernel)) dX10_read_93) ?_
  refine zcons (s_iconst hx hb 0 dX10_read_96 (by decide)) ?_
  refine zcons (s_iald hx hb hK dX10_read_97) ?_
  refine zcons (s_bipush hx hb 17 dX10_read_98 (by decide)) ?_
  refine zcons (s_c_ne hx hb 116 dX10_read_100 (by decide)) ?_
  refine zcons (s_aload_n hx hb 0 dX10_read_103 rfl) ?_
  refine zcons (s_aload_n hx hb 0 dX10_read_104 rfl) ?_
  refine zcons (s_getR hx hb hts hown hK zcX10 hinX10 23 (by decide) w726 rfl (fun _ => 38) (zptf (by decide) (by decide +kernel)) dX10_read_105) ?_
  refine zcons (s_iconst hx hb 1 dX10_read_108 (by decide)) ?_
  refine zcons (s_iald hx hb hK dX10_read_109) ?_
  refine zcons (s_callV (hZ := fun _ h => h) hx hb hts hml hown hK hro zcX10 (kX10_fieldNamed l X) (zgoodV w899 w901 w30 w54 w902) rfl rfl rfl (by decide +kernel) ⟨Nat.le_of_ble_eq_true rfl, Nat.le_of_ble_eq_true rfl⟩ dX10_read_110) ?_
  refine zcons (s_goto hx hb 117 dX10_read_113 (by decide)) ?_
  refine zcons (s_iconst hx hb (-1) dX10_read_116 (by decide)) ?_
  refine zcons (s_istore_n hx hb 3 dX10_read_117 rfl) ?_
  refine zcons (s_iload_n hx hb 3 dX10_read_118 rfl) ?_
  refine zcons (s_if_lt hx hb 135 dX10_read_119 (by decide)) ?_
  refine zcons (s_aload_n hx hb 0 dX10_read_122 rfl) ?_
  refine zcons (s_iload_n hx hb 1 dX10_read_123 rfl) ?_
  refine zcons (s_aload_n hx hb 0 dX10_read_124 rfl) ?_
  refine zcons (s_getI hx hb hts hown hK zcX10 hinX10 13 (by decide) w716 rfl (zptk (by decide) (by decide +kernel)) dX10_read_125) ?_
  refine zcons (s_iadd hx hb dX10_read_128) ?_
  refine zcons (s_bipush hx hb 7 dX10_read_129 (by decide)) ?_
  refine zcons (s_iload_n hx hb 3 dX10_read_131 rfl) ?_
  refine zcons (s_callV (hZ := fun _ h => h) hx hb hts hml hown hK hro zcX10 (kX10_found l X) (zgoodV w892 w894 w29 w54 w895) rfl rfl rfl (by decide +kernel) ⟨Nat.le_of_ble_eq_true rfl, Nat.le_of_ble_eq_true rfl⟩ dX10_read_132) ?_
  refine zcons (s_aload_n hx hb 0 dX10_read_135 rfl) ?_
  refine zcons (s_getI hx hb hts hown hK zcX10 hinX10 24 (by decide) w727 rfl (zptk (by decide) (by decide +kernel)) dX10_read_136) ?_
  refine zcons (s_iconst hx hb 1 dX10_read_139 (by decide)) ?_
  refine zcons (s_c_le hx hb 173 dX10_read_140 (by decide)) ?_
  refine zcons (s_aload_n hx hb 0 dX10_read_143 rfl) ?_
  refine zcons (s_getR hx hb hts hown hK zcX10 hinX10 23 (by decide) w726 rfl (fun _ => 38) (zptf (by decide) (by decide +kernel)) dX10_read_144) ?_
  refine zcons (s_iconst hx hb 0 dX10_read_147 (by decide)) ?_
  refine zcons (s_iald hx hb hK dX10_read_148) ?_
  refine zcons (s_bipush hx hb 16 dX10_read_149 (by decide)) ?_
  refine zcons (s_c_ne hx hb 173 dX10_read_151 (by decide)) ?_
  refine zcons (s_aload_n hx hb 0 dX10_read_154 rfl) ?_
  refine zcons (s_getI hx hb hts hown hK zcX10 hinX10 30 (by decide) w733 rfl (zptk (by decide) (by decide +kernel)) dX10_read_155) ?_
  refine zcons (s_if_lt hx hb 173 dX10_read_158 (by decide)) ?_
  refine zcons (s_aload_n hx hb 0 dX10_read_161 rfl) ?_
  refine zcons (s_aload_n hx hb 0 dX10_read_162 rfl) ?_
  refine zcons (s_getI hx hb hts hown hK zcX10 hinX10 30 (by decide) w733 rfl (zptk (by decide) (by decide +kernel)) dX10_read_163) ?_
  refine zcons (s_iconst hx hb 1 dX10_read_166 (by decide)) ?_
  refine zcons (s_callV (hZ := fun _ h => h) hx hb hts hml hown hK hro zcX10 (kX10_answer l X) (zgoodV w884 w886 w27 w54 w887) rfl rfl rfl (by decide +kernel) ⟨Nat.le_of_ble_eq_true rfl, Nat.le_of_ble_eq_true rfl⟩ dX10_read_167) ?_
  refine zcons (s_goto hx hb 174 dX10_read_170 (by decide)) ?_
  refine zcons (s_iconst hx hb (-1) dX10_read_173 (by decide)) ?_
  refine zcons (s_istore hx hb dX10_read_174) ?_
  refine zcons (s_iload hx hb dX10_read_176) ?_
  refine zcons (s_if_lt hx hb 195 dX10_read_178 (by decide)) ?_
  refine zcons (s_aload_n hx hb 0 dX10_read_181 rfl) ?_
  refine zcons (s_iload_n hx hb 1 dX10_read_182 rfl) ?_
  refine zcons (s_aload_n hx hb 0 dX10_read_183 rfl) ?_
  refine zcons (s_getI hx hb hts hown hK zcX10 hinX10 13 (by decide) w716 rfl (zptk (by decide) (by decide +kernel)) dX10_read_184) ?_
  refine zcons (s_iadd hx hb dX10_read_187) ?_
  refine zcons (s_bipush hx hb 8 dX10_read_188 (by decide)) ?_
  refine zcons (s_iload hx hb dX10_read_190) ?_
  refine zcons (s_callV (hZ := fun _ h => h) hx hb hts hml hown hK hro zcX10 (kX10_found l X) (zgoodV w892 w894 w29 w54 w895) rfl rfl rfl (by decide +kernel) ⟨Nat.le_of_ble_eq_true rfl, Nat.le_of_ble_eq_true rfl⟩ dX10_read_192) ?_
  refine zcons (s_vret hx hb hr hK hlk dX10_read_195) ?_
  exact znil
noncomputable def tX10_readAll : List (Nat × AI) := [(0, a_aload 1 0), (1, a_push 2 (.inl 0)), (2, a_push 4 (.inl 1000000)), (4, a_push 5 (.inl 0)), (5, a_push 6 (.inl 0)), (6, a_callV 9 4 9 mX10_set), (9, a_aload 10 0), (10, a_push 11 (.inl 1)), (11, a_push 13 (.inl 1000000)), (13, a_push 14 (.inl 0)), (14, a_push 15 (.inl 0)), (15, a_callV 18 4 9 mX10_set), (18, a_push 19 (.inl 0)), (19, a_istore 20 1), (20, a_iload 21 1), (21, a_aload 22 0), (22, a_getI 25 9 16), (25, a_c_ge 28 41), (28, a_aload 29 0), (29, a_getR 32 9 (fun _ => 39)), (32, a_iload 33 1), (33, a_push 34 (.inl 0)), (34, a_ast 35), (35, a_iinc 38 1 1), (38, a_goto 20), (41, a_push 42 (.inl 1)), (42, a_istore 43 1), (43, a_iload 44 1), (44, a_if_eq 47 235), (47, a_push 48 (.inl 0)), (48, a_istore 49 2), (49, a_aload 50 0), (50, a_push 51 (.inl 0)), (51, a_put 54 9 24), (54, a_push 55 (.inl 0)), (55, a_istore 56 3), (56, a_iload 57 3), (57, a_aload 58 0), (58, a_getI 61 9 16), (61, a_c_ge 64 164), (64, a_aload 65 0), (65, a_getR 68 9 (fun _ => 39)), (68, a_iload 69 3), (69, a_ald 70 10), (70, a_aload 71 0), (71, a_getR 74 9 (fun _ => 32)), (74, a_iload 75 3), (75, a_ald 76 10), (76, a_c_ne 79 83), (79, a_push 80 (.inl 1)), (80, a_goto 84), (83, a_push 84 (.inl 0)), (84, a_istore 86 4), (86, a_iload 87 2), (87, a_iload 89 4), (89, a_if_eq 92 99), (92, a_aload 93 0), (93, a_getI 96 9 12), (96, a_goto 114), (99, a_aload 100 0), (100, a_getR 103 9 (fun _ => 34)), (103, a_push 104 (.inl 4)), (104, a_iload 105 3), (105, a_bin 106 (fun x y => x * y)), (106, a_aload 107 0), (107, a_getR 110 9 (fun _ => 39)), (110, a_iload 111 3), (111, a_ald 112 10), (112, a_bin 113 (fun x y => x + y)), (113, a_ald 114 10), (114, a_bin 115 (fun x y => x + y)), (115, a_istore 116 2), (116, a_iload 118 4), (118, a_if_eq 121 124), (121, a_goto 158), (124, a_aload 125 0), (125, a_getR 128 9 (fun _ => 38)), (128, a_aload 129 0), (129, a_getI 132 9 24), (132, a_aload 133 0), (133, a_getR 136 9 (fun _ => 33)), (136, a_push 137 (.inl 4)), (137, a_iload 138 3), (138, a_bin 139 (fun x y => x * y)), (139, a_aload 140 0), (140, a_getR 143 9 (fun _ => 39)), (143, a_iload 144 3), (144, a_ald 145 10), (145, a_bin 146 (fun x y => x + y)), (146, a_ald 147 10), (147, a_ast 148), (148, a_aload 149 0), (149, a_dup 150), (150, a_getI 153 9 24), (153, a_push 154 (.inl 1)), (154, a_bin 155 (fun x y => x + y)), (155, a_put 158 9 24), (158, a_iinc 161 3 1), (161, a_goto 56), (164, a_aload 165 0), (165, a_iload 166 2), (166, a_callV 169 1 9 mX10_read), (169, a_aload 170 0), (170, a_getI 173 9 16), (173, a_push 174 (.inl 1)), (174, a_bin 175 (fun x y => x - y)), (175, a_istore 176 3), (176, a_iload 177 3), (177, a_if_lt 180 208), (180, a_aload 181 0), (181, a_getR 184 9 (fun _ => 39)), (184, a_iload 185 3), (185, a_ald 186 10), (186, a_aload 187 0), (187, a_getR 190 9 (fun _ => 32)), (190, a_iload 191 3), (191, a_ald 192 10), (192, a_c_ne 195 208), (195, a_aload 196 0), (196, a_getR 199 9 (fun _ => 39)), (199, a_iload 200 3), (200, a_push 201 (.inl 0)), (201, a_ast 202), (202, a_iinc 205 3 (-1)), (205, a_goto 176), (208, a_iload 209 3), (209, a_if_lt 212 216), (212, a_push 213 (.inl 1)), (213, a_goto 217), (216, a_push 217 (.inl 0)), (217, a_istore 218 1), (218, a_iload 219 1), (219, a_if_eq 222 232), (222, a_aload 223 0), (223, a_getR 226 9 (fun _ => 39)), (226, a_iload 227 3), (227, a_dup2 228), (228, a_ald 229 10), (229, a_push 230 (.inl 1)), (230, a_bin 231 (fun x y => x + y)), (231, a_ast 232), (232, a_goto 43), (235, a_vret)]
noncomputable def mX10_readAll : List AV → MM → Option AR := zsem tX10_readAll 5 1
def wX10_readAll : List Cond := .code yX10_readAll cX10_readAll 5 none :: lw_g
def rX10_readAll : Room := { frames := 3, cells := 0, slots := 0, locals := 77 }
set_option maxHeartbeats 4000000 in
set_option maxRecDepth 100000 in
theorem kX10_readAll (l : Launch) (X : XC) : zM l X yX10_readAll wX10_readAll rX10_readAll mX10_readAll := by
  refine zMet tX10_readAll 1 (by decide) rfl (by decide) ?_
  intro p e s m args below meth c res hC
  obtain ⟨hx, hb, hr, hts0, hown, hml, hlk, hK⟩ := hC
  have hts : ∀ w ∈ lw_g, w.before args s = true := fun w h => hts0 w (List.mem_cons_of_mem _ h)
  have hro : 0 ≤ (headSpec wX10_readAll rX10_readAll).room.cells ∧ 0 ≤ (headSpec wX10_readAll rX10_readAll).room.slots := ⟨Nat.zero_le _, Nat.zero_le _⟩
  refine zcons (s_aload_n hx hb 0 dX10_readAll_0 rfl) ?_
  refine zcons (s_iconst hx hb 0 dX10_readAll_1 (by decide)) ?_
  refine zcons (s_ldc hx hb 1000000 hown (hts _ w875) dX10_readAll_2) ?_
  refine zcons (s_iconst hx hb 0 dX10_readAll_4 (by decide)) ?_
  refine zcons (s_iconst hx hb 0 dX10_readAll_5 (by decide)) ?_
  refine zcons (s_callV (hZ := fun _ h => h) hx hb hts hml hown hK hro zcX10 (kX10_set l X) (zgoodV w876 w878 w25 w54 w879) rfl rfl rfl (by decide +kernel) ⟨Nat.le_of_ble_eq_true rfl, Nat.le_of_ble_eq_true rfl⟩ dX10_readAll_6) ?_
  refine zcons (s_aload_n hx hb 0 dX10_readAll_9 rfl) ?_
  refine zcons (s_iconst hx hb 1 dX10_readAll_10 (by decide)) ?_
  refine zcons (s_ldc hx hb 1000000 hown (hts _ w875) dX10_readAll_11) ?_
  refine zcons (s_iconst hx hb 0 dX10_readAll_13 (by decide)) ?_
  refine zcons (s_iconst hx hb 0 dX10_readAll_14 (by decide)) ?_
  refine zcons (s_callV (hZ := fun _ h => h) hx hb hts hml hown hK hro zcX10 (kX10_set l X) (zgoodV w876 w878 w25 w54 w879) rfl rfl rfl (by decide +kernel) ⟨Nat.le_of_ble_eq_true rfl, Nat.le_of_ble_eq_true rfl⟩ dX10_readAll_15) ?_
  refine zcons (s_iconst hx hb 0 dX10_readAll_18 (by decide)) ?_
  refine zcons (s_istore_n hx hb 1 dX10_readAll_19 rfl) ?_
  refine zcons (s_iload_n hx hb 1 dX10_readAll_20 rfl) ?_
  refine zcons (s_aload_n hx hb 0 dX10_readAll_21 rfl) ?_
  refine zcons (s_getI hx hb hts hown hK zcX10 hinX10 16 (by decide) w719 rfl (zptk (by decide) (by decide +kernel)) dX10_readAll_22) ?_
  refine zcons (s_c_ge hx hb 41 dX10_readAll_25 (by decide)) ?_
  refine zcons (s_aload_n hx hb 0 dX10_readAll_28 rfl) ?_
  refine zcons (s_getR hx hb hts hown hK zcX10 hinX10 25 (by decide) w728 rfl (fun _ => 39) (zptf (by decide) (by decide +kernel)) dX10_readAll_29) ?_
  refine zcons (s_iload_n hx hb 1 dX10_readAll_32 rfl) ?_
  refine zcons (s_iconst hx hb 0 dX10_readAll_33 (by decide)) ?_
  refine zcons (s_iast (hZ := fun _ h => h) hx hb hK dX10_readAll_34) ?_
  refine zcons (s_iinc hx hb 1 dX10_readAll_35 (by decide)) ?_
  refine zcons (s_goto hx hb 20 dX10_readAll_38 (by decide)) ?_
  refine zcons (s_iconst hx hb 1 dX10_readAll_41 (by decide)) ?_
  refine zcons (s_istore_n hx hb 1 dX10_readAll_42 rfl) ?_
  refine zcons (s_iload_n hx hb 1 dX10_readAll_43 rfl) ?_
  refine zcons (s_if_eq hx hb 235 dX10_readAll_44 (by decide)) ?_
  refine zcons (s_iconst hx hb 0 dX10_readAll_47 (by decide)) ?_
  refine zcons (s_istore_n hx hb 2 dX10_readAll_48 rfl) ?_
  refine zcons (s_aload_n hx hb 0 dX10_readAll_49 rfl) ?_
  refine zcons (s_iconst hx hb 0 dX10_readAll_50 (by decide)) ?_
  refine zcons (s_put (hZ := fun _ h => h) hx hb hts hown hK zcX10 hinX10 tyX10 tyX10_ok nmX10 24 (by decide) w727 rfl rfl (zptk (by decide) (by decide +kernel)) (by decide +kernel) dX10_readAll_51) ?_
  refine zcons (s_iconst hx hb 0 dX10_readAll_54 (by decide)) ?_
  refine zcons (s_istore_n hx hb 3 dX10_readAll_55 rfl) ?_
  refine zcons (s_iload_n hx hb 3 dX10_readAll_56 rfl) ?_
  refine zcons (s_aload_n hx hb 0 dX10_readAll_57 rfl) ?_
  refine zcons (s_getI hx hb hts hown hK zcX10 hinX10 16 (by decide) w719 rfl (zptk (by decide) (by decide +kernel)) dX10_readAll_58) ?_
  refine zcons (s_c_ge hx hb 164 dX10_readAll_61 (by decide)) ?_
  refine zcons (s_aload_n hx hb 0 dX10_readAll_64 rfl) ?_
  refine zcons (s_getR hx hb hts hown hK zcX10 hinX10 25 (by decide) w728 rfl (fun _ => 39) (zptf (by decide) (by decide +kernel)) dX10_readAll_65) ?_
  refine zcons (s_iload_n hx hb 3 dX10_readAll_68 rfl) ?_
  refine zcons (s_iald hx hb hK dX10_readAll_69) ?_
  refine zcons (s_aload_n hx hb 0 dX10_readAll_70 rfl) ?_
  refine zcons (s_getR hx hb hts hown hK zcX10 hinX10 17 (by decide) w720 rfl (fun _ => 32) (zptf (by decide) (by decide +kernel)) dX10_readAll_71) ?_
  refine zcons (s_iload_n hx hb 3 dX10_readAll_74 rfl) ?_
  refine zcons (s_iald hx hb hK dX10_readAll_75) ?_
  refine zcons (s_c_ne hx hb 83 dX10_readAll_76 (by decide)) ?_
  refine zcons (s_iconst hx hb 1 dX10_readAll_79 (by decide)) ?_
  refine zcons (s_goto hx hb 84 dX10_readAll_80 (by decide)) ?_
  refine zcons (s_iconst hx hb 0 dX10_readAll_83 (by decide)) ?_
  refine zcons (s_istore hx hb dX10_readAll_84) ?_
  refine zcons (s_iload_n hx hb 2 dX10_readAll_86 rfl) ?_
  refine zcons (s_iload hx hb dX10_readAll_87) ?_
  refine zcons (s_if_eq hx hb 99 dX10_readAll_89 (by decide)) ?_
  refine zcons (s_aload_n hx hb 0 dX10_readAll_92 rfl) ?_
  refine zcons (s_getI hx hb hts hown hK zcX10 hinX10 12 (by decide) w715 rfl (zptk (by decide) (by decide +kernel)) dX10_readAll_93) ?_
  refine zcons (s_goto hx hb 114 dX10_readAll_96 (by decide)) ?_
  refine zcons (s_aload_n hx hb 0 dX10_readAll_99 rfl) ?_
  refine zcons (s_getR hx hb hts hown hK zcX10 hinX10 19 (by decide) w722 rfl (fun _ => 34) (zptf (by decide) (by decide +kernel)) dX10_readAll_100) ?_
  refine zcons (s_iconst hx hb 4 dX10_readAll_103 (by decide)) ?_
  refine zcons (s_iload_n hx hb 3 dX10_readAll_104 rfl) ?_
  refine zcons (s_imul hx hb dX10_readAll_105) ?_
  refine zcons (s_aload_n hx hb 0 dX10_readAll_106 rfl) ?_
  refine zcons (s_getR hx hb hts hown hK zcX10 hinX10 25 (by decide) w728 rfl (fun _ => 39) (zptf (by decide) (by decide +kernel)) dX10_readAll_107) ?_
  refine zcons (s_iload_n hx hb 3 dX10_readAll_110 rfl) ?_
  refine zcons (s_iald hx hb hK dX10_readAll_111) ?_
  refine zcons (s_iadd hx hb dX10_readAll_112) ?_
  refine zcons (s_iald hx hb hK dX10_readAll_113) ?_
  refine zcons (s_iadd hx hb dX10_readAll_114) ?_
  refine zcons (s_istore_n hx hb 2 dX10_readAll_115 rfl) ?_
  refine zcons (s_iload hx hb dX10_readAll_116) ?_
  refine zcons (s_if_eq hx hb 124 dX10_readAll_118 (by decide)) ?_
  refine zcons (s_goto hx hb 158 dX10_readAll_121 (by decide)) ?_
  refine zcons (s_aload_n hx hb 0 dX10_readAll_124 rfl) ?_
  refine zcons (s_getR hx hb hts hown hK zcX10 hinX10 23 (by decide) w726 rfl (fun _ => 38) (zptf (by decide) (by decide +kernel)) dX10_readAll_125) ?_
  refine zcons (s_aload_n hx hb 0 dX10_readAll_128 rfl) ?_
  refine zcons (s_getI hx hb hts hown hK zcX10 hinX10 24 (by decide) w727 rfl (zptk (by decide) (by decide +kernel)) dX10_readAll_129) ?_
  refine zcons (s_aload_n hx hb 0 dX10_readAll_132 rfl) ?_
  refine zcons (s_getR hx hb hts hown hK zcX10 hinX10 18 (by decide) w721 rfl (fun _ => 33) (zptf (by decide) (by decide +kernel)) dX10_readAll_133) ?_
  refine zcons (s_iconst hx hb 4 dX10_readAll_136 (by decide)) ?_
  refine zcons (s_iload_n hx hb 3 dX10_readAll_137 rfl) ?_
  refine zcons (s_imul hx hb dX10_readAll_138) ?_
  refine zcons (s_aload_n hx hb 0 dX10_readAll_139 rfl) ?_
  refine zcons (s_getR hx hb hts hown hK zcX10 hinX10 25 (by decide) w728 rfl (fun _ => 39) (zptf (by decide) (by decide +kernel)) dX10_readAll_140) ?_
  refine zcons (s_iload_n hx hb 3 dX10_readAll_143 rfl) ?_
  refine zcons (s_iald hx hb hK dX10_readAll_144) ?_
  refine zcons (s_iadd hx hb dX10_readAll_145) ?_
  refine zcons (s_iald hx hb hK dX10_readAll_146) ?_
  refine zcons (s_iast (hZ := fun _ h => h) hx hb hK dX10_readAll_147) ?_
  refine zcons (s_aload_n hx hb 0 dX10_readAll_148 rfl) ?_
  refine zcons (s_dup hx hb dX10_readAll_149) ?_
  refine zcons (s_getI hx hb hts hown hK zcX10 hinX10 24 (by decide) w727 rfl (zptk (by decide) (by decide +kernel)) dX10_readAll_150) ?_
  refine zcons (s_iconst hx hb 1 dX10_readAll_153 (by decide)) ?_
  refine zcons (s_iadd hx hb dX10_readAll_154) ?_
  refine zcons (s_put (hZ := fun _ h => h) hx hb hts hown hK zcX10 hinX10 tyX10 tyX10_ok nmX10 24 (by decide) w727 rfl rfl (zptk (by decide) (by decide +kernel)) (by decide +kernel) dX10_readAll_155) ?_
  refine zcons (s_iinc hx hb 1 dX10_readAll_158 (by decide)) ?_
  refine zcons (s_goto hx hb 56 dX10_readAll_161 (by decide)) ?_
  refine zcons (s_aload_n hx hb 0 dX10_readAll_164 rfl) ?_
  refine zcons (s_iload_n hx hb 2 dX10_readAll_165 rfl) ?_
  refine zcons (s_callV (hZ := fun _ h => h) hx hb hts hml hown hK hro zcX10 (kX10_read l X) (zgoodV w880 w882 w26 w54 w883) rfl rfl rfl (by decide +kernel) ⟨Nat.le_of_ble_eq_true rfl, Nat.le_of_ble_eq_true rfl⟩ dX10_readAll_166) ?_
  refine zcons (s_aload_n hx hb 0 dX10_readAll_169 rfl) ?_
  refine zcons (s_getI hx hb hts hown hK zcX10 hinX10 16 (by decide) w719 rfl (zptk (by decide) (by decide +kernel)) dX10_readAll_170) ?_
  refine zcons (s_iconst hx hb 1 dX10_readAll_173 (by decide)) ?_
  refine zcons (s_isub hx hb dX10_readAll_174) ?_
  refine zcons (s_istore_n hx hb 3 dX10_readAll_175 rfl) ?_
  refine zcons (s_iload_n hx hb 3 dX10_readAll_176 rfl) ?_
  refine zcons (s_if_lt hx hb 208 dX10_readAll_177 (by decide)) ?_
  refine zcons (s_aload_n hx hb 0 dX10_readAll_180 rfl) ?_
  refine zcons (s_getR hx hb hts hown hK zcX10 hinX10 25 (by decide) w728 rfl (fun _ => 39) (zptf (by decide) (by decide +kernel)) dX10_readAll_181) ?_
  refine zcons (s_iload_n hx hb 3 dX10_readAll_184 rfl) ?_
  refine zcons (s_iald hx hb hK dX10_readAll_185) ?_
  refine zcons (s_aload_n hx hb 0 dX10_readAll_186 rfl) ?_
  refine zcons (s_getR hx hb hts hown hK zcX10 hinX10 17 (by decide) w720 rfl (fun _ => 32) (zptf (by decide) (by decide +kernel)) dX10_readAll_187) ?_
  refine zcons (s_iload_n hx hb 3 dX10_readAll_190 rfl) ?_
  refine zcons (s_iald hx hb hK dX10_readAll_191) ?_
  refine zcons (s_c_ne hx hb 208 dX10_readAll_192 (by decide)) ?_
  refine zcons (s_aload_n hx hb 0 dX10_readAll_195 rfl) ?_
  refine zcons (s_getR hx hb hts hown hK zcX10 hinX10 25 (by decide) w728 rfl (fun _ => 39) (zptf (by decide) (by decide +kernel)) dX10_readAll_196) ?_
  refine zcons (s_iload_n hx hb 3 dX10_readAll_199 rfl) ?_
  refine zcons (s_iconst hx hb 0 dX10_readAll_200 (by decide)) ?_
  refine zcons (s_iast (hZ := fun _ h => h) hx hb hK dX10_readAll_201) ?_
  refine zcons (s_iinc hx hb (-1) dX10_readAll_202 (by decide)) ?_
  refine zcons (s_goto hx hb 176 dX10_readAll_205 (by decide)) ?_
  refine zcons (s_iload_n hx hb 3 dX10_readAll_208 rfl) ?_
  refine zcons (s_if_lt hx hb 216 dX10_readAll_209 (by decide)) ?_
  refine zcons (s_iconst hx hb 1 dX10_readAll_212 (by decide)) ?_
  refine zcons (s_goto hx hb 217 dX10_readAll_213 (by decide)) ?_
  refine zcons (s_iconst hx hb 0 dX10_readAll_216 (by decide)) ?_
  refine zcons (s_istore_n hx hb 1 dX10_readAll_217 rfl) ?_
  refine zcons (s_iload_n hx hb 1 dX10_readAll_218 rfl) ?_
  refine zcons (s_if_eq hx hb 232 dX10_readAll_219 (by decide)) ?_
  refine zcons (s_aload_n hx hb 0 dX10_readAll_222 rfl) ?_
  refine zcons (s_getR hx hb hts hown hK zcX10 hinX10 25 (by decide) w728 rfl (fun _ => 39) (zptf (by decide) (by decide +kernel)) dX10_readAll_223) ?_
  refine zcons (s_iload_n hx hb 3 dX10_readAll_226 rfl) ?_
  refine zcons (s_dup2 hx hb dX10_readAll_227) ?_
  refine zcons (s_iald hx hb hK dX10_readAll_228) ?_
  refine zcons (s_iconst hx hb 1 dX10_readAll_229 (by decide)) ?_
  refine zcons (s_iadd hx hb dX10_readAll_230) ?_
  refine zcons (s_iast (hZ := fun _ h => h) hx hb hK dX10_readAll_231) ?_
  refine zcons (s_goto hx hb 43 dX10_readAll_232 (by decide)) ?_
  refine zcons (s_vret hx hb hr hK hlk dX10_readAll_235) ?_
  exact znil
noncomputable def tX10_comesNow : List (Nat × AI) := [(0, a_iload 1 1), (1, a_aload 2 0), (2, a_getI 5 9 29), (5, a_c_ne 8 9), (8, a_vret), (9, a_aload 10 0), (10, a_getI 13 9 29), (13, a_if_lt 16 86), (16, a_aload 17 0), (17, a_getI 20 9 31), (20, a_push 22 (.inl 20)), (22, a_c_ne 25 63), (25, a_push 26 (.inl 1)), (26, a_istore 27 2), (27, a_iload 28 2), (28, a_push 30 (.inl 20)), (30, a_c_ge 33 53), (33, a_aload 34 0), (34, a_getR 37 9 (fun _ => 40)), (37, a_iload 38 2), (38, a_push 39 (.inl 1)), (39, a_bin 40 (fun x y => x - y)), (40, a_aload 41 0), (41, a_getR 44 9 (fun _ => 40)), (44, a_iload 45 2), (45, a_ald 46 10), (46, a_ast 47), (47, a_iinc 50 2 1), (50, a_goto 27), (53, a_aload 54 0), (54, a_dup 55), (55, a_getI 58 9 31), (58, a_push 59 (.inl 1)), (59, a_bin 60 (fun x y => x - y)), (60, a_put 63 9 31), (63, a_aload 64 0), (64, a_getR 67 9 (fun _ => 40)), (67, a_aload 68 0), (68, a_getI 71 9 31), (71, a_aload 72 0), (72, a_getI 75 9 29), (75, a_ast 76), (76, a_aload 77 0), (77, a_dup 78), (78, a_getI 81 9 31), (81, a_push 82 (.inl 1)), (82, a_bin 83 (fun x y => x + y)), (83, a_put 86 9 31), (86, a_aload 87 0), (87, a_iload 88 1), (88, a_put 91 9 29), (91, a_vret)]
noncomputable def mX10_comesNow : List AV → MM → Option AR := zsem tX10_comesNow 3 2
def wX10_comesNow : List Cond := .code yX10_comesNow cX10_comesNow 3 none :: lw_g
def rX10_comesNow : Room := { frames := 0, cells := 0, slots := 0, locals := 0 }
set_option maxHeartbeats 4000000 in
set_option maxRecDepth 100000 in
theorem kX10_comesNow (l : Launch) (X : XC) : zM l X yX10_comesNow wX10_comesNow rX10_comesNow mX10_comesNow := by
  refine zMet tX10_comesNow 2 (by decide) rfl (by decide) ?_
  intro p e s m args below meth c res hC
  obtain ⟨hx, hb, hr, hts0, hown, hml, hlk, hK⟩ := hC
  have hts : ∀ w ∈ lw_g, w.before args s = true := fun w h => hts0 w (List.mem_cons_of_mem _ h)
  have hro : 0 ≤ (headSpec wX10_comesNow rX10_comesNow).room.cells ∧ 0 ≤ (headSpec wX10_comesNow rX10_comesNow).room.slots := ⟨Nat.zero_le _, Nat.zero_le _⟩
  refine zcons (s_iload_n hx hb 1 dX10_comesNow_0 rfl) ?_
  refine zcons (s_aload_n hx hb 0 dX10_comesNow_1 rfl) ?_
  refine zcons (s_getI hx hb hts hown hK zcX10 hinX10 29 (by decide) w732 rfl (zptk (by decide) (by decide +kernel)) dX10_comesNow_2) ?_
  refine zcons (s_c_ne hx hb 9 dX10_comesNow_5 (by decide)) ?_
  refine zcons (s_vret hx hb hr hK hlk dX10_comesNow_8) ?_
  refine zcons (s_aload_n hx hb 0 dX10_comesNow_9 rfl) ?_
  refine zcons (s_getI hx hb hts hown hK zcX10 hinX10 29 (by decide) w732 rfl (zptk (by decide) (by decide +kernel)) dX10_comesNow_10) ?_
  refine zcons (s_if_lt hx hb 86 dX10_comesNow_13 (by decide)) ?_
  refine zcons (s_aload_n hx hb 0 dX10_comesNow_16 rfl) ?_
  refine zcons (s_getI hx hb hts hown hK zcX10 hinX10 31 (by decide) w734 rfl (zptk (by decide) (by decide +kernel)) dX10_comesNow_17) ?_
  refine zcons (s_bipush hx hb 20 dX10_comesNow_20 (by decide)) ?_
  refine zcons (s_c_ne hx hb 63 dX10_comesNow_22 (by decide)) ?_
  refine zcons (s_iconst hx hb 1 dX10_comesNow_25 (by decide)) ?_
  refine zcons (s_istore_n hx hb 2 dX10_comesNow_26 rfl) ?_
  refine zcons (s_iload_n hx hb 2 dX10_comesNow_27 rfl) ?_
  refine zcons (s_bipush hx hb 20 dX10_comesNow_28 (by decide)) ?_
  refine zcons (s_c_ge hx hb 53 dX10_comesNow_30 (by decide)) ?_
  refine zcons (s_aload_n hx hb 0 dX10_comesNow_33 rfl) ?_
  refine zcons (s_getR hx hb hts hown hK zcX10 hinX10 35 (by decide) w738 rfl (fun _ => 40) (zptf (by decide) (by decide +kernel)) dX10_comesNow_34) ?_
  refine zcons (s_iload_n hx hb 2 dX10_comesNow_37 rfl) ?_
  refine zcons (s_iconst hx hb 1 dX10_comesNow_38 (by decide)) ?_
  refine zcons (s_isub hx hb dX10_comesNow_39) ?_
  refine zcons (s_aload_n hx hb 0 dX10_comesNow_40 rfl) ?_
  refine zcons (s_getR hx hb hts hown hK zcX10 hinX10 35 (by decide) w738 rfl (fun _ => 40) (zptf (by decide) (by decide +kernel)) dX10_comesNow_41) ?_
  refine zcons (s_iload_n hx hb 2 dX10_comesNow_44 rfl) ?_
  refine zcons (s_iald hx hb hK dX10_comesNow_45) ?_
  refine zcons (s_iast (hZ := fun _ h => h) hx hb hK dX10_comesNow_46) ?_
  refine zcons (s_iinc hx hb 1 dX10_comesNow_47 (by decide)) ?_
  refine zcons (s_goto hx hb 27 dX10_comesNow_50 (by decide)) ?_
  refine zcons (s_aload_n hx hb 0 dX10_comesNow_53 rfl) ?_
  refine zcons (s_dup hx hb dX10_comesNow_54) ?_
  refine zcons (s_getI hx hb hts hown hK zcX10 hinX10 31 (by decide) w734 rfl (zptk (by decide) (by decide +kernel)) dX10_comesNow_55) ?_
  refine zcons (s_iconst hx hb 1 dX10_comesNow_58 (by decide)) ?_
  refine zcons (s_isub hx hb dX10_comesNow_59) ?_
  refine zcons (s_put (hZ := fun _ h => h) hx hb hts hown hK zcX10 hinX10 tyX10 tyX10_ok nmX10 31 (by decide) w734 rfl rfl (zptk (by decide) (by decide +kernel)) (by decide +kernel) dX10_comesNow_60) ?_
  refine zcons (s_aload_n hx hb 0 dX10_comesNow_63 rfl) ?_
  refine zcons (s_getR hx hb hts hown hK zcX10 hinX10 35 (by decide) w738 rfl (fun _ => 40) (zptf (by decide) (by decide +kernel)) dX10_comesNow_64) ?_
  refine zcons (s_aload_n hx hb 0 dX10_comesNow_67 rfl) ?_
  refine zcons (s_getI hx hb hts hown hK zcX10 hinX10 31 (by decide) w734 rfl (zptk (by decide) (by decide +kernel)) dX10_comesNow_68) ?_
  refine zcons (s_aload_n hx hb 0 dX10_comesNow_71 rfl) ?_
  refine zcons (s_getI hx hb hts hown hK zcX10 hinX10 29 (by decide) w732 rfl (zptk (by decide) (by decide +kernel)) dX10_comesNow_72) ?_
  refine zcons (s_iast (hZ := fun _ h => h) hx hb hK dX10_comesNow_75) ?_
  refine zcons (s_aload_n hx hb 0 dX10_comesNow_76 rfl) ?_
  refine zcons (s_dup hx hb dX10_comesNow_77) ?_
  refine zcons (s_getI hx hb hts hown hK zcX10 hinX10 31 (by decide) w734 rfl (zptk (by decide) (by decide +kernel)) dX10_comesNow_78) ?_
  refine zcons (s_iconst hx hb 1 dX10_comesNow_81 (by decide)) ?_
  refine zcons (s_iadd hx hb dX10_comesNow_82) ?_
  refine zcons (s_put (hZ := fun _ h => h) hx hb hts hown hK zcX10 hinX10 tyX10 tyX10_ok nmX10 31 (by decide) w734 rfl rfl (zptk (by decide) (by decide +kernel)) (by decide +kernel) dX10_comesNow_83) ?_
  refine zcons (s_aload_n hx hb 0 dX10_comesNow_86 rfl) ?_
  refine zcons (s_iload_n hx hb 1 dX10_comesNow_87 rfl) ?_
  refine zcons (s_put (hZ := fun _ h => h) hx hb hts hown hK zcX10 hinX10 tyX10 tyX10_ok nmX10 29 (by decide) w732 rfl rfl (zptk (by decide) (by decide +kernel)) (by decide +kernel) dX10_comesNow_88) ?_
  refine zcons (s_vret hx hb hr hK hlk dX10_comesNow_91) ?_
  exact znil
noncomputable def tX10_isOpen : List (Nat × AI) := [(0, a_aload 1 0), (1, a_iload 2 1), (2, a_callV 5 1 9 mX10_isAsked), (5, a_if_eq 8 30), (8, a_aload 9 0), (9, a_getR 12 9 (fun _ => 28)), (12, a_iload 13 1), (13, a_ald 14 10), (14, a_if_ge 17 30), (17, a_aload 18 0), (18, a_getR 21 9 (fun _ => 30)), (21, a_iload 22 1), (22, a_ald 23 11), (23, a_if_ne 26 30), (26, a_push 27 (.inl 1)), (27, a_goto 31), (30, a_push 31 (.inl 0)), (31, a_zret)]
noncomputable def mX10_isOpen : List AV → MM → Option AR := zsem tX10_isOpen 2 2
def wX10_isOpen : List Cond := .code yX10_isOpen cX10_isOpen 2 (some .boolean) :: lw_g
def rX10_isOpen : Room := { frames := 1, cells := 0, slots := 0, locals := 22 }
set_option maxHeartbeats 4000000 in
set_option maxRecDepth 100000 in
theorem kX10_isOpen (l : Launch) (X : XC) : zM l X yX10_isOpen wX10_isOpen rX10_isOpen mX10_isOpen := by
  refine zMet tX10_isOpen 2 (by decide) rfl (by decide) ?_
  intro p e s m args below meth c res hC
  obtain ⟨hx, hb, hr, hts0, hown, hml, hlk, hK⟩ := hC
  have hts : ∀ w ∈ lw_g, w.before args s = true := fun w h => hts0 w (List.mem_cons_of_mem _ h)
  have hro : 0 ≤ (headSpec wX10_isOpen rX10_isOpen).room.cells ∧ 0 ≤ (headSpec wX10_isOpen rX10_isOpen).room.slots := ⟨Nat.zero_le _, Nat.zero_le _⟩
  refine zcons (s_aload_n hx hb 0 dX10_isOpen_0 rfl) ?_
  refine zcons (s_iload_n hx hb 1 dX10_isOpen_1 rfl) ?_
  refine zcons (s_callV (hZ := fun _ h => h) hx hb hts hml hown hK hro zcX10 (kX10_isAsked l X) (zgoodV w923 w925 w36 w54 w926) rfl rfl rfl (by decide +kernel) ⟨Nat.le_of_ble_eq_true rfl, Nat.le_of_ble_eq_true rfl⟩ dX10_isOpen_2) ?_
  refine zcons (s_if_eq hx hb 30 dX10_isOpen_5 (by decide)) ?_
  refine zcons (s_aload_n hx hb 0 dX10_isOpen_8 rfl) ?_
  refine zcons (s_getR hx hb hts hown hK zcX10 hinX10 9 (by decide) w712 rfl (fun _ => 28) (zptf (by decide) (by decide +kernel)) dX10_isOpen_9) ?_
  refine zcons (s_iload_n hx hb 1 dX10_isOpen_12 rfl) ?_
  refine zcons (s_iald hx hb hK dX10_isOpen_13) ?_
  refine zcons (s_if_ge hx hb 30 dX10_isOpen_14 (by decide)) ?_
  refine zcons (s_aload_n hx hb 0 dX10_isOpen_17 rfl) ?_
  refine zcons (s_getR hx hb hts hown hK zcX10 hinX10 11 (by decide) w714 rfl (fun _ => 30) (zptf (by decide) (by decide +kernel)) dX10_isOpen_18) ?_
  refine zcons (s_iload_n hx hb 1 dX10_isOpen_21 rfl) ?_
  refine zcons (s_zald hx hb hK dX10_isOpen_22) ?_
  refine zcons (s_if_ne hx hb 30 dX10_isOpen_23 (by decide)) ?_
  refine zcons (s_iconst hx hb 1 dX10_isOpen_26 (by decide)) ?_
  refine zcons (s_goto hx hb 31 dX10_isOpen_27 (by decide)) ?_
  refine zcons (s_iconst hx hb 0 dX10_isOpen_30 (by decide)) ?_
  refine zcons (s_zret hx hb hr hK hlk dX10_isOpen_31) ?_
  exact znil
noncomputable def tX10_nextBehind : List (Nat × AI) := [(0, a_iload 1 1), (1, a_push 2 (.inl 1)), (2, a_bin 3 (fun x y => x + y)), (3, a_istore 4 2), (4, a_iload 5 2), (5, a_aload 6 0), (6, a_getI 9 9 0), (9, a_c_ge 12 28), (12, a_aload 13 0), (13, a_iload 14 2), (14, a_callV 17 1 9 mX10_isOpen), (17, a_if_eq 20 22), (20, a_iload 21 2), (21, a_iret), (22, a_iinc 25 2 1), (25, a_goto 4), (28, a_push 29 (.inl 0)), (29, a_istore 30 2), (30, a_iload 31 2), (31, a_aload 32 0), (32, a_getI 35 9 0), (35, a_c_ge 38 54), (38, a_aload 39 0), (39, a_iload 40 2), (40, a_callV 43 1 9 mX10_isOpen), (43, a_if_eq 46 48), (46, a_iload 47 2), (47, a_iret), (48, a_iinc 51 2 1), (51, a_goto 30), (54, a_push 55 (.inl (-1))), (55, a_iret)]
noncomputable def mX10_nextBehind : List AV → MM → Option AR := zsem tX10_nextBehind 3 2
def wX10_nextBehind : List Cond := .code yX10_nextBehind cX10_nextBehind 3 (some .int) :: lw_g
def rX10_nextBehind : Room := { frames := 2, cells := 0, slots := 0, locals := 43 }
set_option maxHeartbeats 4000000 in
set_option maxRecDepth 100000 in
theorem kX10_nextBehind (l : Launch) (X : XC) : zM l X yX10_nextBehind wX10_nextBehind rX10_nextBehind mX10_nextBehind := by
  refine zMet tX10_nextBehind 2 (by decide) rfl (by decide) ?_
  intro p e s m args below meth c res hC
  obtain ⟨hx, hb, hr, hts0, hown, hml, hlk, hK⟩ := hC
  have hts : ∀ w ∈ lw_g, w.before args s = true := fun w h => hts0 w (List.mem_cons_of_mem _ h)
  have hro : 0 ≤ (headSpec wX10_nextBehind rX10_nextBehind).room.cells ∧ 0 ≤ (headSpec wX10_nextBehind rX10_nextBehind).room.slots := ⟨Nat.zero_le _, Nat.zero_le _⟩
  refine zcons (s_iload_n hx hb 1 dX10_nextBehind_0 rfl) ?_
  refine zcons (s_iconst hx hb 1 dX10_nextBehind_1 (by decide)) ?_
  refine zcons (s_iadd hx hb dX10_nextBehind_2) ?_
  refine zcons (s_istore_n hx hb 2 dX10_nextBehind_3 rfl) ?_
  refine zcons (s_iload_n hx hb 2 dX10_nextBehind_4 rfl) ?_
  refine zcons (s_aload_n hx hb 0 dX10_nextBehind_5 rfl) ?_
  refine zcons (s_getI hx hb hts hown hK zcX10 hinX10 0 (by decide) w703 rfl (zptk (by decide) (by decide +kernel)) dX10_nextBehind_6) ?_
  refine zcons (s_c_ge hx hb 28 dX10_nextBehind_9 (by decide)) ?_
  refine zcons (s_aload_n hx hb 0 dX10_nextBehind_12 rfl) ?_
  refine zcons (s_iload_n hx hb 2 dX10_nextBehind_13 rfl) ?_
  refine zcons (s_callV (hZ := fun _ h => h) hx hb hts hml hown hK hro zcX10 (kX10_isOpen l X) (zgoodV w931 w933 w38 w54 w934) rfl rfl rfl (by decide +kernel) ⟨Nat.le_of_ble_eq_true rfl, Nat.le_of_ble_eq_true rfl⟩ dX10_nextBehind_14) ?_
  refine zcons (s_if_eq hx hb 22 dX10_nextBehind_17 (by decide)) ?_
  refine zcons (s_iload_n hx hb 2 dX10_nextBehind_20 rfl) ?_
  refine zcons (s_iret hx hb hr hK hlk dX10_nextBehind_21) ?_
  refine zcons (s_iinc hx hb 1 dX10_nextBehind_22 (by decide)) ?_
  refine zcons (s_goto hx hb 4 dX10_nextBehind_25 (by decide)) ?_
  refine zcons (s_iconst hx hb 0 dX10_nextBehind_28 (by decide)) ?_
  refine zcons (s_istore_n hx hb 2 dX10_nextBehind_29 rfl) ?_
  refine zcons (s_iload_n hx hb 2 dX10_nextBehind_30 rfl) ?_
  refine zcons (s_aload_n hx hb 0 dX10_nextBehind_31 rfl) ?_
  refine zcons (s_getI hx hb hts hown hK zcX10 hinX10 0 (by decide) w703 rfl (zptk (by decide) (by decide +kernel)) dX10_nextBehind_32) ?_
  refine zcons (s_c_ge hx hb 54 dX10_nextBehind_35 (by decide)) ?_
  refine zcons (s_aload_n hx hb 0 dX10_nextBehind_38 rfl) ?_
  refine zcons (s_iload_n hx hb 2 dX10_nextBehind_39 rfl) ?_
  refine zcons (s_callV (hZ := fun _ h => h) hx hb hts hml hown hK hro zcX10 (kX10_isOpen l X) (zgoodV w931 w933 w38 w54 w934) rfl rfl rfl (by decide +kernel) ⟨Nat.le_of_ble_eq_true rfl, Nat.le_of_ble_eq_true rfl⟩ dX10_nextBehind_40) ?_
  refine zcons (s_if_eq hx hb 48 dX10_nextBehind_43 (by decide)) ?_
  refine zcons (s_iload_n hx hb 2 dX10_nextBehind_46 rfl) ?_
  refine zcons (s_iret hx hb hr hK hlk dX10_nextBehind_47) ?_
  refine zcons (s_iinc hx hb 1 dX10_nextBehind_48 (by decide)) ?_
  refine zcons (s_goto hx hb 30 dX10_nextBehind_51 (by decide)) ?_
  refine zcons (s_iconst hx hb (-1) dX10_nextBehind_54 (by decide)) ?_
  refine zcons (s_iret hx hb hr hK hlk dX10_nextBehind_55) ?_
  exact znil
