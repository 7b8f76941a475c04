/-! The tables of methods and their contracts (written by wip/whole/gen.py). -/
noncomputable def tX10_about : List (Nat × AI) := [(0, a_push 1 (.inl 0)), (1, a_istore 2 2), (2, a_push 3 (.inl 0)), (3, a_istore 4 3), (4, a_push 5 (.inl 0)), (5, a_istore 7 4), (7, a_iload 9 4), (9, a_aload 10 0), (10, a_getI 13 9 0), (13, a_c_ge 16 77), (16, a_iload 17 2), (17, a_aload 18 0), (18, a_iload 20 4), (20, a_callV 23 1 9 mX10_isAsked), (23, a_if_eq 26 40), (26, a_aload 27 0), (27, a_getR 30 9 (fun _ => 28)), (30, a_iload 32 4), (32, a_ald 33 10), (33, a_if_ge 36 40), (36, a_push 37 (.inl 1)), (37, a_goto 41), (40, a_push 41 (.inl 0)), (41, a_bin 42 (fun x y => x + y)), (42, a_istore 43 2), (43, a_iload 44 3), (44, a_aload 45 0), (45, a_getR 48 9 (fun _ => 28)), (48, a_iload 50 4), (50, a_ald 51 10), (51, a_if_lt 54 68), (54, a_aload 55 0), (55, a_getR 58 9 (fun _ => 29)), (58, a_iload 60 4), (60, a_ald 61 11), (61, a_if_ne 64 68), (64, a_push 65 (.inl 1)), (65, a_goto 69), (68, a_push 69 (.inl 0)), (69, a_bin 70 (fun x y => x + y)), (70, a_istore 71 3), (71, a_iinc 74 4 1), (74, a_goto 7), (77, a_iload 78 1), (78, a_switch [(0, 128), (1, 133), (2, 138), (3, 143), (4, 145), (5, 158), (6, 163), (7, 168), (8, 170)] 175), (128, a_aload 129 0), (129, a_getI 132 9 29), (132, a_iret), (133, a_aload 134 0), (134, a_getI 137 9 30), (137, a_iret), (138, a_aload 139 0), (139, a_getI 142 9 32), (142, a_iret), (143, a_iload 144 2), (144, a_iret), (145, a_aload 146 0), (146, a_getI 149 9 27), (149, a_if_eq 152 156), (152, a_push 153 (.inl 1)), (153, a_goto 157), (156, a_push 157 (.inl 0)), (157, a_iret), (158, a_aload 159 0), (159, a_getI 162 9 33), (162, a_iret), (163, a_aload 164 0), (164, a_getI 167 9 0), (167, a_iret), (168, a_iload 169 3), (169, a_iret), (170, a_aload 171 0), (171, a_getI 174 9 16), (174, a_iret), (175, a_push 176 (.inl (-1))), (176, a_iret)]
noncomputable def mX10_about : List AV → MM → Option AR := zsem tX10_about 5 2
def wX10_about : List Cond := .code yX10_about cX10_about 5 (some .int) :: lw_g
def rX10_about : Room := { frames := 1, cells := 0, slots := 0, locals := 22 }
set_option maxHeartbeats 4000000 in
set_option maxRecDepth 100000 in
theorem kX10_about (l : Launch) (X : XC) : zM l X yX10_about wX10_about rX10_about mX10_about := by
  refine zMet tX10_about 2 (by decide) rfl (by decide) ?_
  intro p e s m args below meth c res hC
  obtain ⟨hx, hb, hr, hts0, hown, hml, hlk, hK⟩ := hC
  have hts : ∀ w ∈ lw_g, w.before args s = true := fun w h => hts0 w (List.mem_cons_of_mem _ h)
  have hro : 0 ≤ (headSpec wX10_about rX10_about).room.cells ∧ 0 ≤ (headSpec wX10_about rX10_about).room.slots := ⟨Nat.zero_le _, Nat.zero_le _⟩
  refine zcons (s_iconst hx hb 0 dX10_about_0 (by decide)) ?_
  refine zcons (s_istore_n hx hb 2 dX10_about_1 rfl) ?_
  refine zcons (s_iconst hx hb 0 dX10_about_2 (by decide)) ?_
  refine zcons (s_istore_n hx hb 3 dX10_about_3 rfl) ?_
  refine zcons (s_iconst hx hb 0 dX10_about_4 (by decide)) ?_
  refine zcons (s_istore hx hb dX10_about_5) ?_
  refine zcons (s_iload hx hb dX10_about_7) ?_
  refine zcons (s_aload_n hx hb 0 dX10_about_9 rfl) ?_
  refine zcons (s_getI hx hb hts hown hK zcX10 hinX10 0 (by decide) w703 rfl (zptk (by decide) (by decide +kernel)) dX10_about_10) ?_
  refine zcons (s_c_ge hx hb 77 dX10_about_13 (by decide)) ?_
  refine zcons (s_iload_n hx hb 2 dX10_about_16 rfl) ?_
  refine zcons (s_aload_n hx hb 0 dX10_about_17 rfl) ?_
  refine zcons (s_iload hx hb dX10_about_18) ?_
  refine zcons (s_callV (hZ := fun _ h => h) hx hb hts hml hown hK hro zcX10 (kX10_isAsked l X) (zgoodV w923 w925 w36 w54 w926) rfl rfl rfl (by decide +kernel) ⟨Nat.le_of_ble_eq_true rfl, Nat.le_of_ble_eq_true rfl⟩ dX10_about_20) ?_
  refine zcons (s_if_eq hx hb 40 dX10_about_23 (by decide)) ?_
  refine zcons (s_aload_n hx hb 0 dX10_about_26 rfl) ?_
  refine zcons (s_getR hx hb hts hown hK zcX10 hinX10 9 (by decide) w712 rfl (fun _ => 28) (zptf (by decide) (by decide +kernel)) dX10_about_27) ?_
  refine zcons (s_iload hx hb dX10_about_30) ?_
  refine zcons (s_iald hx hb hK dX10_about_32) ?_
  refine zcons (s_if_ge hx hb 40 dX10_about_33 (by decide)) ?_
  refine zcons (s_iconst hx hb 1 dX10_about_36 (by decide)) ?_
  refine zcons (s_goto hx hb 41 dX10_about_37 (by decide)) ?_
  refine zcons (s_iconst hx hb 0 dX10_about_40 (by decide)) ?_
  refine zcons (s_iadd hx hb dX10_about_41) ?_
  refine zcons (s_istore_n hx hb 2 dX10_about_42 rfl) ?_
  refine zcons (s_iload_n hx hb 3 dX10_about_43 rfl) ?_
  refine zcons (s_aload_n hx hb 0 dX10_about_44 rfl) ?_
  refine zcons (s_getR hx hb hts hown hK zcX10 hinX10 9 (by decide) w712 rfl (fun _ => 28) (zptf (by decide) (by decide +kernel)) dX10_about_45) ?_
  refine zcons (s_iload hx hb dX10_about_48) ?_
  refine zcons (s_iald hx hb hK dX10_about_50) ?_
  refine zcons (s_if_lt hx hb 68 dX10_about_51 (by decide)) ?_
  refine zcons (s_aload_n hx hb 0 dX10_about_54 rfl) ?_
  refine zcons (s_getR hx hb hts hown hK zcX10 hinX10 10 (by decide) w713 rfl (fun _ => 29) (zptf (by decide) (by decide +kernel)) dX10_about_55) ?_
  refine zcons (s_iload hx hb dX10_about_58) ?_
  refine zcons (s_zald hx hb hK dX10_about_60) ?_
  refine zcons (s_if_ne hx hb 68 dX10_about_61 (by decide)) ?_
  refine zcons (s_iconst hx hb 1 dX10_about_64 (by decide)) ?_
  refine zcons (s_goto hx hb 69 dX10_about_65 (by decide)) ?_
  refine zcons (s_iconst hx hb 0 dX10_about_68 (by decide)) ?_
  refine zcons (s_iadd hx hb dX10_about_69) ?_
  refine zcons (s_istore_n hx hb 3 dX10_about_70 rfl) ?_
  refine zcons (s_iinc hx hb 1 dX10_about_71 (by decide)) ?_
  refine zcons (s_goto hx hb 7 dX10_about_74 (by decide)) ?_
  refine zcons (s_iload_n hx hb 1 dX10_about_77 rfl) ?_
  refine zcons (s_switchD hx hb [(0, 128), (1, 133), (2, 138), (3, 143), (4, 145), (5, 158), (6, 163), (7, 168), (8, 170)] 175 dX10_about_78 (by decide +kernel) (by decide)) ?_
  refine zcons (s_aload_n hx hb 0 dX10_about_128 rfl) ?_
  refine zcons (s_getI hx hb hts hown hK zcX10 hinX10 29 (by decide) w732 rfl (zptk (by decide) (by decide +kernel)) dX10_about_129) ?_
  refine zcons (s_iret hx hb hr hK hlk dX10_about_132) ?_
  refine zcons (s_aload_n hx hb 0 dX10_about_133 rfl) ?_
  refine zcons (s_getI hx hb hts hown hK zcX10 hinX10 30 (by decide) w733 rfl (zptk (by decide) (by decide +kernel)) dX10_about_134) ?_
  refine zcons (s_iret hx hb hr hK hlk dX10_about_137) ?_
  refine zcons (s_aload_n hx hb 0 dX10_about_138 rfl) ?_
  refine zcons (s_getI hx hb hts hown hK zcX10 hinX10 32 (by decide) w735 rfl (zptk (by decide) (by decide +kernel)) dX10_about_139) ?_
  refine zcons (s_iret hx hb hr hK hlk dX10_about_142) ?_
  refine zcons (s_iload_n hx hb 2 dX10_about_143 rfl) ?_
  refine zcons (s_iret hx hb hr hK hlk dX10_about_144) ?_
  refine zcons (s_aload_n hx hb 0 dX10_about_145 rfl) ?_
  refine zcons (s_getI hx hb hts hown hK zcX10 hinX10 27 (by decide) w730 rfl (zptk (by decide) (by decide +kernel)) dX10_about_146) ?_
  refine zcons (s_if_eq hx hb 156 dX10_about_149 (by decide)) ?_
  refine zcons (s_iconst hx hb 1 dX10_about_152 (by decide)) ?_
  refine zcons (s_goto hx hb 157 dX10_about_153 (by decide)) ?_
  refine zcons (s_iconst hx hb 0 dX10_about_156 (by decide)) ?_
  refine zcons (s_iret hx hb hr hK hlk dX10_about_157) ?_
  refine zcons (s_aload_n hx hb 0 dX10_about_158 rfl) ?_
  refine zcons (s_getI hx hb hts hown hK zcX10 hinX10 33 (by decide) w736 rfl (zptk (by decide) (by decide +kernel)) dX10_about_159) ?_
  refine zcons (s_iret hx hb hr hK hlk dX10_about_162) ?_
  refine zcons (s_aload_n hx hb 0 dX10_about_163 rfl) ?_
  refine zcons (s_getI hx hb hts hown hK zcX10 hinX10 0 (by decide) w703 rfl (zptk (by decide) (by decide +kernel)) dX10_about_164) ?_
  refine zcons (s_iret hx hb hr hK hlk dX10_about_167) ?_
  refine zcons (s_iload_n hx hb 3 dX10_about_168 rfl) ?_
  refine zcons (s_iret hx hb hr hK hlk dX10_about_169) ?_
  refine zcons (s_aload_n hx hb 0 dX10_about_170 rfl) ?_
  refine zcons (s_getI hx hb hts hown hK zcX10 hinX10 16 (by decide) w719 rfl (zptk (by decide) (by decide +kernel)) dX10_about_171) ?_
  refine zcons (s_iret hx hb hr hK hlk dX10_about_174) ?_
  refine zcons (s_iconst hx hb (-1) dX10_about_175 (by decide)) ?_
  refine zcons (s_iret hx hb hr hK hlk dX10_about_176) ?_
  exact znil
noncomputable def tX10_field : List (Nat × AI) := [(0, a_aload 1 0), (1, a_iload 2 1), (2, a_callV 5 1 9 mX10_isField), (5, a_if_ne 8 10), (8, a_push 9 (.inl (-1))), (9, a_iret), (10, a_iload 11 2), (11, a_switch [(0, 56), (1, 63), (2, 70), (3, 77), (4, 91), (5, 106), (6, 121), (7, 136)] 143), (56, a_aload 57 0), (57, a_getR 60 9 (fun _ => 20)), (60, a_iload 61 1), (61, a_ald 62 10), (62, a_iret), (63, a_aload 64 0), (64, a_getR 67 9 (fun _ => 21)), (67, a_iload 68 1), (68, a_ald 69 10), (69, a_iret), (70, a_aload 71 0), (71, a_getR 74 9 (fun _ => 22)), (74, a_iload 75 1), (75, a_ald 76 10), (76, a_iret), (77, a_aload 78 0), (78, a_iload 79 1), (79, a_callV 82 1 9 mX10_isAsked), (82, a_if_eq 85 89), (85, a_push 86 (.inl 1)), (86, a_goto 90), (89, a_push 90 (.inl 0)), (90, a_iret), (91, a_aload 92 0), (92, a_getR 95 9 (fun _ => 28)), (95, a_iload 96 1), (96, a_ald 97 10), (97, a_if_lt 100 104), (100, a_push 101 (.inl 1)), (101, a_goto 105), (104, a_push 105 (.inl 0)), (105, a_iret), (106, a_aload 107 0), (107, a_getR 110 9 (fun _ => 29)), (110, a_iload 111 1), (111, a_ald 112 11), (112, a_if_eq 115 119), (115, a_push 116 (.inl 1)), (116, a_goto 120), (119, a_push 120 (.inl 0)), (120, a_iret), (121, a_aload 122 0), (122, a_getR 125 9 (fun _ => 30)), (125, a_iload 126 1), (126, a_ald 127 11), (127, a_if_eq 130 134), (130, a_push 131 (.inl 1)), (131, a_goto 135), (134, a_push 135 (.inl 0)), (135, a_iret), (136, a_aload 137 0), (137, a_getR 140 9 (fun _ => 28)), (140, a_iload 141 1), (141, a_ald 142 10), (142, a_iret), (143, a_push 144 (.inl (-1))), (144, a_iret)]
noncomputable def mX10_field : List AV → MM → Option AR := zsem tX10_field 3 3
def wX10_field : List Cond := .code yX10_field cX10_field 3 (some .int) :: lw_g
def rX10_field : Room := { frames := 2, cells := 0, slots := 0, locals := 43 }
set_option maxHeartbeats 4000000 in
set_option maxRecDepth 100000 in
theorem kX10_field (l : Launch) (X : XC) : zM l X yX10_field wX10_field rX10_field mX10_field := by
  refine zMet tX10_field 3 (by decide) rfl (by decide) ?_
  intro p e s m args below meth c res hC
  obtain ⟨hx, hb, hr, hts0, hown, hml, hlk, hK⟩ := hC
  have hts : ∀ w ∈ lw_g, w.before args s = true := fun w h => hts0 w (List.mem_cons_of_mem _ h)
  have hro : 0 ≤ (headSpec wX10_field rX10_field).room.cells ∧ 0 ≤ (headSpec wX10_field rX10_field).room.slots := ⟨Nat.zero_le _, Nat.zero_le _⟩
  refine zcons (s_aload_n hx hb 0 dX10_field_0 rfl) ?_
  refine zcons (s_iload_n hx hb 1 dX10_field_1 rfl) ?_
  refine zcons (s_callV (hZ := fun _ h => h) hx hb hts hml hown hK hro zcX10 (kX10_isField l X) (zgoodV w851 w853 w23 w54 w854) rfl rfl rfl (by decide +kernel) ⟨Nat.le_of_ble_eq_true rfl, Nat.le_of_ble_eq_true rfl⟩ dX10_field_2) ?_
  refine zcons (s_if_ne hx hb 10 dX10_field_5 (by decide)) ?_
  refine zcons (s_iconst hx hb (-1) dX10_field_8 (by decide)) ?_
  refine zcons (s_iret hx hb hr hK hlk dX10_field_9) ?_
  refine zcons (s_iload_n hx hb 2 dX10_field_10 rfl) ?_
  refine zcons (s_switchD hx hb [(0, 56), (1, 63), (2, 70), (3, 77), (4, 91), (5, 106), (6, 121), (7, 136)] 143 dX10_field_11 (by decide +kernel) (by decide)) ?_
  refine zcons (s_aload_n hx hb 0 dX10_field_56 rfl) ?_
  refine zcons (s_getR hx hb hts hown hK zcX10 hinX10 1 (by decide) w704 rfl (fun _ => 20) (zptf (by decide) (by decide +kernel)) dX10_field_57) ?_
  refine zcons (s_iload_n hx hb 1 dX10_field_60 rfl) ?_
  refine zcons (s_iald hx hb hK dX10_field_61) ?_
  refine zcons (s_iret hx hb hr hK hlk dX10_field_62) ?_
  refine zcons (s_aload_n hx hb 0 dX10_field_63 rfl) ?_
  refine zcons (s_getR hx hb hts hown hK zcX10 hinX10 2 (by decide) w705 rfl (fun _ => 21) (zptf (by decide) (by decide +kernel)) dX10_field_64) ?_
  refine zcons (s_iload_n hx hb 1 dX10_field_67 rfl) ?_
  refine zcons (s_iald hx hb hK dX10_field_68) ?_
  refine zcons (s_iret hx hb hr hK hlk dX10_field_69) ?_
  refine zcons (s_aload_n hx hb 0 dX10_field_70 rfl) ?_
  refine zcons (s_getR hx hb hts hown hK zcX10 hinX10 3 (by decide) w706 rfl (fun _ => 22) (zptf (by decide) (by decide +kernel)) dX10_field_71) ?_
  refine zcons (s_iload_n hx hb 1 dX10_field_74 rfl) ?_
  refine zcons (s_iald hx hb hK dX10_field_75) ?_
  refine zcons (s_iret hx hb hr hK hlk dX10_field_76) ?_
  refine zcons (s_aload_n hx hb 0 dX10_field_77 rfl) ?_
  refine zcons (s_iload_n hx hb 1 dX10_field_78 rfl) ?_
  refine zcons (s_callV (hZ := fun _ h => h) hx hb hts hml hown hK hro zcX10 (kX10_isAsked l X) (zgoodV w923 w925 w36 w54 w926) rfl rfl rfl (by decide +kernel) ⟨Nat.le_of_ble_eq_true rfl, Nat.le_of_ble_eq_true rfl⟩ dX10_field_79) ?_
  refine zcons (s_if_eq hx hb 89 dX10_field_82 (by decide)) ?_
  refine zcons (s_iconst hx hb 1 dX10_field_85 (by decide)) ?_
  refine zcons (s_goto hx hb 90 dX10_field_86 (by decide)) ?_
  refine zcons (s_iconst hx hb 0 dX10_field_89 (by decide)) ?_
  refine zcons (s_iret hx hb hr hK hlk dX10_field_90) ?_
  refine zcons (s_aload_n hx hb 0 dX10_field_91 rfl) ?_
  refine zcons (s_getR hx hb hts hown hK zcX10 hinX10 9 (by decide) w712 rfl (fun _ => 28) (zptf (by decide) (by decide +kernel)) dX10_field_92) ?_
  refine zcons (s_iload_n hx hb 1 dX10_field_95 rfl) ?_
  refine zcons (s_iald hx hb hK dX10_field_96) ?_
  refine zcons (s_if_lt hx hb 104 dX10_field_97 (by decide)) ?_
  refine zcons (s_iconst hx hb 1 dX10_field_100 (by decide)) ?_
  refine zcons (s_goto hx hb 105 dX10_field_101 (by decide)) ?_
  refine zcons (s_iconst hx hb 0 dX10_field_104 (by decide)) ?_
  refine zcons (s_iret hx hb hr hK hlk dX10_field_105) ?_
  refine zcons (s_aload_n hx hb 0 dX10_field_106 rfl) ?_
  refine zcons (s_getR hx hb hts hown hK zcX10 hinX10 10 (by decide) w713 rfl (fun _ => 29) (zptf (by decide) (by decide +kernel)) dX10_field_107) ?_
  refine zcons (s_iload_n hx hb 1 dX10_field_110 rfl) ?_
  refine zcons (s_zald hx hb hK dX10_field_111) ?_
  refine zcons (s_if_eq hx hb 119 dX10_field_112 (by decide)) ?_
  refine zcons (s_iconst hx hb 1 dX10_field_115 (by decide)) ?_
  refine zcons (s_goto hx hb 120 dX10_field_116 (by decide)) ?_
  refine zcons (s_iconst hx hb 0 dX10_field_119 (by decide)) ?_
  refine zcons (s_iret hx hb hr hK hlk dX10_field_120) ?_
  refine zcons (s_aload_n hx hb 0 dX10_field_121 rfl) ?_
  refine zcons (s_getR hx hb hts hown hK zcX10 hinX10 11 (by decide) w714 rfl (fun _ => 30) (zptf (by decide) (by decide +kernel)) dX10_field_122) ?_
  refine zcons (s_iload_n hx hb 1 dX10_field_125 rfl) ?_
  refine zcons (s_zald hx hb hK dX10_field_126) ?_
  refine zcons (s_if_eq hx hb 134 dX10_field_127 (by decide)) ?_
  refine zcons (s_iconst hx hb 1 dX10_field_130 (by decide)) ?_
  refine zcons (s_goto hx hb 135 dX10_field_131 (by decide)) ?_
  refine zcons (s_iconst hx hb 0 dX10_field_134 (by decide)) ?_
  refine zcons (s_iret hx hb hr hK hlk dX10_field_135) ?_
  refine zcons (s_aload_n hx hb 0 dX10_field_136 rfl) ?_
  refine zcons (s_getR hx hb hts hown hK zcX10 hinX10 9 (by decide) w712 rfl (fun _ => 28) (zptf (by decide) (by decide +kernel)) dX10_field_137) ?_
  refine zcons (s_iload_n hx hb 1 dX10_field_140 rfl) ?_
  refine zcons (s_iald hx hb hK dX10_field_141) ?_
  refine zcons (s_iret hx hb hr hK hlk dX10_field_142) ?_
  refine zcons (s_iconst hx hb (-1) dX10_field_143 (by decide)) ?_
  refine zcons (s_iret hx hb hr hK hlk dX10_field_144) ?_
  exact znil
noncomputable def tX10_hearBack : List (Nat × AI) := [(0, a_push 1 (.inl 0)), (1, a_istore 2 1), (2, a_push 3 (.inl 0)), (3, a_istore 4 2), (4, a_iload 5 2), (5, a_aload 6 0), (6, a_getI 9 9 0), (9, a_c_ge 12 57), (12, a_aload 13 0), (13, a_getR 16 9 (fun _ => 28)), (16, a_iload 17 2), (17, a_ald 18 10), (18, a_if_lt 21 51), (21, a_aload 22 0), (22, a_iload 23 2), (23, a_callV 26 1 9 mX10_isAsked), (26, a_if_eq 29 51), (29, a_aload 30 0), (30, a_getR 33 9 (fun _ => 29)), (33, a_iload 34 2), (34, a_ald 35 11), (35, a_if_eq 38 41), (38, a_goto 51), (41, a_aload 42 0), (42, a_getR 45 9 (fun _ => 29)), (45, a_iload 46 2), (46, a_push 47 (.inl 1)), (47, a_zst 48), (48, a_iinc 51 1 1), (51, a_iinc 54 2 1), (54, a_goto 4), (57, a_iload 58 1), (58, a_iret)]
noncomputable def mX10_hearBack : List AV → MM → Option AR := zsem tX10_hearBack 3 1
def wX10_hearBack : List Cond := .code yX10_hearBack cX10_hearBack 3 (some .int) :: lw_g
def rX10_hearBack : Room := { frames := 1, cells := 0, slots := 0, locals := 22 }
set_option maxHeartbeats 4000000 in
set_option maxRecDepth 100000 in
theorem kX10_hearBack (l : Launch) (X : XC) : zM l X yX10_hearBack wX10_hearBack rX10_hearBack mX10_hearBack := by
  refine zMet tX10_hearBack 1 (by decide) rfl (by decide) ?_
  intro p e s m args below meth c res hC
  obtain ⟨hx, hb, hr, hts0, hown, hml, hlk, hK⟩ := hC
  have hts : ∀ w ∈ lw_g, w.before args s = true := fun w h => hts0 w (List.mem_cons_of_mem _ h)
  have hro : 0 ≤ (headSpec wX10_hearBack rX10_hearBack).room.cells ∧ 0 ≤ (headSpec wX10_hearBack rX10_hearBack).room.slots := ⟨Nat.zero_le _, Nat.zero_le _⟩
  refine zcons (s_iconst hx hb 0 dX10_hearBack_0 (by decide)) ?_
  refine zcons (s_istore_n hx hb 1 dX10_hearBack_1 rfl) ?_
  refine zcons (s_iconst hx hb 0 dX10_hearBack_2 (by decide)) ?_
  refine zcons (s_istore_n hx hb 2 dX10_hearBack_3 rfl) ?_
  refine zcons (s_iload_n hx hb 2 dX10_hearBack_4 rfl) ?_
  refine zcons (s_aload_n hx hb 0 dX10_hearBack_5 rfl) ?_
  refine zcons (s_getI hx hb hts hown hK zcX10 hinX10 0 (by decide) w703 rfl (zptk (by decide) (by decide +kernel)) dX10_hearBack_6) ?_
  refine zcons (s_c_ge hx hb 57 dX10_hearBack_9 (by decide)) ?_
  refine zcons (s_aload_n hx hb 0 dX10_hearBack_12 rfl) ?_
  refine zcons (s_getR hx hb hts hown hK zcX10 hinX10 9 (by decide) w712 rfl (fun _ => 28) (zptf (by decide) (by decide +kernel)) dX10_hearBack_13) ?_
  refine zcons (s_iload_n hx hb 2 dX10_hearBack_16 rfl) ?_
  refine zcons (s_iald hx hb hK dX10_hearBack_17) ?_
  refine zcons (s_if_lt hx hb 51 dX10_hearBack_18 (by decide)) ?_
  refine zcons (s_aload_n hx hb 0 dX10_hearBack_21 rfl) ?_
  refine zcons (s_iload_n hx hb 2 dX10_hearBack_22 rfl) ?_
  refine zcons (s_callV (hZ := fun _ h => h) hx hb hts hml hown hK hro zcX10 (kX10_isAsked l X) (zgoodV w923 w925 w36 w54 w926) rfl rfl rfl (by decide +kernel) ⟨Nat.le_of_ble_eq_true rfl, Nat.le_of_ble_eq_true rfl⟩ dX10_hearBack_23) ?_
  refine zcons (s_if_eq hx hb 51 dX10_hearBack_26 (by decide)) ?_
  refine zcons (s_aload_n hx hb 0 dX10_hearBack_29 rfl) ?_
  refine zcons (s_getR hx hb hts hown hK zcX10 hinX10 10 (by decide) w713 rfl (fun _ => 29) (zptf (by decide) (by decide +kernel)) dX10_hearBack_30) ?_
  refine zcons (s_iload_n hx hb 2 dX10_hearBack_33 rfl) ?_
  refine zcons (s_zald hx hb hK dX10_hearBack_34) ?_
  refine zcons (s_if_eq hx hb 41 dX10_hearBack_35 (by decide)) ?_
  refine zcons (s_goto hx hb 51 dX10_hearBack_38 (by decide)) ?_
  refine zcons (s_aload_n hx hb 0 dX10_hearBack_41 rfl) ?_
  refine zcons (s_getR hx hb hts hown hK zcX10 hinX10 10 (by decide) w713 rfl (fun _ => 29) (zptf (by decide) (by decide +kernel)) dX10_hearBack_42) ?_
  refine zcons (s_iload_n hx hb 2 dX10_hearBack_45 rfl) ?_
  refine zcons (s_iconst hx hb 1 dX10_hearBack_46 (by decide)) ?_
  refine zcons (s_zast (hZ := fun _ h => h) hx hb hK dX10_hearBack_47) ?_
  refine zcons (s_iinc hx hb 1 dX10_hearBack_48 (by decide)) ?_
  refine zcons (s_iinc hx hb 1 dX10_hearBack_51 (by decide)) ?_
  refine zcons (s_goto hx hb 4 dX10_hearBack_54 (by decide)) ?_
  refine zcons (s_iload_n hx hb 1 dX10_hearBack_57 rfl) ?_
  refine zcons (s_iret hx hb hr hK hlk dX10_hearBack_58) ?_
  exact znil
noncomputable def tX10_send : List (Nat × AI) := [(0, a_aload 1 0), (1, a_getI 4 9 28), (4, a_if_eq 7 9), (7, a_push 8 (.inl 0)), (8, a_zret), (9, a_push 10 (.inl 0)), (10, a_istore 11 1), (11, a_iload 12 1), (12, a_aload 13 0), (13, a_getI 16 9 0), (16, a_c_ge 19 53), (19, a_aload 20 0), (20, a_iload 21 1), (21, a_callV 24 1 9 mX10_isAsked), (24, a_if_eq 27 47), (27, a_aload 28 0), (28, a_getR 31 9 (fun _ => 28)), (31, a_iload 32 1), (32, a_ald 33 10), (33, a_if_lt 36 45), (36, a_aload 37 0), (37, a_getR 40 9 (fun _ => 29)), (40, a_iload 41 1), (41, a_ald 42 11), (42, a_if_ne 45 47), (45, a_push 46 (.inl 0)), (46, a_zret), (47, a_iinc 50 1 1), (50, a_goto 11), (53, a_aload 54 0), (54, a_push 55 (.inl 1)), (55, a_putZ 58 9 28), (58, a_push 59 (.inl 1)), (59, a_zret)]
noncomputable def mX10_send : List AV → MM → Option AR := zsem tX10_send 2 1
def wX10_send : List Cond := .code yX10_send cX10_send 2 (some .boolean) :: lw_g
def rX10_send : Room := { frames := 1, cells := 0, slots := 0, locals := 22 }
set_option maxHeartbeats 4000000 in
set_option maxRecDepth 100000 in
theorem kX10_send (l : Launch) (X : XC) : zM l X yX10_send wX10_send rX10_send mX10_send := by
  refine zMet tX10_send 1 (by decide) rfl (by decide) ?_
  intro p e s m args below meth c res hC
  obtain ⟨hx, hb, hr, hts0, hown, hml, hlk, hK⟩ := hC
  have hts : ∀ w ∈ lw_g, w.before args s = true := fun w h => hts0 w (List.mem_cons_of_mem _ h)
  have hro : 0 ≤ (headSpec wX10_send rX10_send).room.cells ∧ 0 ≤ (headSpec wX10_send rX10_send).room.slots := ⟨Nat.zero_le _, Nat.zero_le _⟩
  refine zcons (s_aload_n hx hb 0 dX10_send_0 rfl) ?_
  refine zcons (s_getI hx hb hts hown hK zcX10 hinX10 28 (by decide) w731 rfl (zptk (by decide) (by decide +kernel)) dX10_send_1) ?_
  refine zcons (s_if_eq hx hb 9 dX10_send_4 (by decide)) ?_
  refine zcons (s_iconst hx hb 0 dX10_send_7 (by decide)) ?_
  refine zcons (s_zret hx hb hr hK hlk dX10_send_8) ?_
  refine zcons (s_iconst hx hb 0 dX10_send_9 (by decide)) ?_
  refine zcons (s_istore_n hx hb 1 dX10_send_10 rfl) ?_
  refine zcons (s_iload_n hx hb 1 dX10_send_11 rfl) ?_
  refine zcons (s_aload_n hx hb 0 dX10_send_12 rfl) ?_
  refine zcons (s_getI hx hb hts hown hK zcX10 hinX10 0 (by decide) w703 rfl (zptk (by decide) (by decide +kernel)) dX10_send_13) ?_
  refine zcons (s_c_ge hx hb 53 dX10_send_16 (by decide)) ?_
  refine zcons (s_aload_n hx hb 0 dX10_send_19 rfl) ?_
  refine zcons (s_iload_n hx hb 1 dX10_send_20 rfl) ?_
  refine zcons (s_callV (hZ := fun _ h => h) hx hb hts hml hown hK hro zcX10 (kX10_isAsked l X) (zgoodV w923 w925 w36 w54 w926) rfl rfl rfl (by decide +kernel) ⟨Nat.le_of_ble_eq_true rfl, Nat.le_of_ble_eq_true rfl⟩ dX10_send_21) ?_
  refine zcons (s_if_eq hx hb 47 dX10_send_24 (by decide)) ?_
  refine zcons (s_aload_n hx hb 0 dX10_send_27 rfl) ?_
  refine zcons (s_getR hx hb hts hown hK zcX10 hinX10 9 (by decide) w712 rfl (fun _ => 28) (zptf (by decide) (by decide +kernel)) dX10_send_28) ?_
  refine zcons (s_iload_n hx hb 1 dX10_send_31 rfl) ?_
  refine zcons (s_iald hx hb hK dX10_send_32) ?_
  refine zcons (s_if_lt hx hb 45 dX10_send_33 (by decide)) ?_
  refine zcons (s_aload_n hx hb 0 dX10_send_36 rfl) ?_
  refine zcons (s_getR hx hb hts hown hK zcX10 hinX10 10 (by decide) w713 rfl (fun _ => 29) (zptf (by decide) (by decide +kernel)) dX10_send_37) ?_
  refine zcons (s_iload_n hx hb 1 dX10_send_40 rfl) ?_
  refine zcons (s_zald hx hb hK dX10_send_41) ?_
  refine zcons (s_if_ne hx hb 47 dX10_send_42 (by decide)) ?_
  refine zcons (s_iconst hx hb 0 dX10_send_45 (by decide)) ?_
  refine zcons (s_zret hx hb hr hK hlk dX10_send_46) ?_
  refine zcons (s_iinc hx hb 1 dX10_send_47 (by decide)) ?_
  refine zcons (s_goto hx hb 11 dX10_send_50 (by decide)) ?_
  refine zcons (s_aload_n hx hb 0 dX10_send_53 rfl) ?_
  refine zcons (s_iconst hx hb 1 dX10_send_54 (by decide)) ?_
  refine zcons (s_putZ (hZ := fun _ h => h) hx hb hts hown hK zcX10 hinX10 tyX10 tyX10_ok nmX10 28 (by decide) w731 rfl rfl (zptk (by decide) (by decide +kernel)) (by decide +kernel) dX10_send_55) ?_
  refine zcons (s_iconst hx hb 1 dX10_send_58 (by decide)) ?_
  refine zcons (s_zret hx hb hr hK hlk dX10_send_59) ?_
  exact znil
