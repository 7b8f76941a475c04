/-! The tables of methods and their contracts (written by wip/whole/gen.py). -/
noncomputable def tJ7_fill_53178 : List (Nat × AI) := [(0, a_push 1 (.inl 0)), (1, a_istore 2 2), (2, a_aload 3 0), (3, a_len 4), (4, a_istore 5 3), (5, a_iload 6 2), (6, a_iload 7 3), (7, a_c_ge 10 20), (10, a_aload 11 0), (11, a_iload 12 2), (12, a_iload 13 1), (13, a_ast 14), (14, a_iinc 17 2 1), (17, a_goto 5), (20, a_vret)]
noncomputable def mJ7_fill_53178 : List AV → MM → Option AR := zsem tJ7_fill_53178 4 2
def wJ7_fill_53178 : List Cond := .code yJ7_fill_53178 cJ7_fill_53178 4 none :: lw_g
def rJ7_fill_53178 : Room := { frames := 0, cells := 0, slots := 0, locals := 0 }
set_option maxHeartbeats 4000000 in
set_option maxRecDepth 100000 in
theorem kJ7_fill_53178 (l : Launch) (X : XC) : zM l X yJ7_fill_53178 wJ7_fill_53178 rJ7_fill_53178 mJ7_fill_53178 := by
  refine zMet tJ7_fill_53178 2 (by decide) rfl (by decide) ?_
  intro p e s m args below meth c res hC
  obtain ⟨hx, hb, hr, hts0, hown, hml, hlk, hK⟩ := hC
  have hts : ∀ w ∈ lw_g, w.before args s = true := fun w h => hts0 w (List.mem_cons_of_mem _ h)
  have hro : 0 ≤ (headSpec wJ7_fill_53178 rJ7_fill_53178).room.cells ∧ 0 ≤ (headSpec wJ7_fill_53178 rJ7_fill_53178).room.slots := ⟨Nat.zero_le _, Nat.zero_le _⟩
  refine zcons (s_iconst hx hb 0 dJ7_fill_53178_0 (by decide)) ?_
  refine zcons (s_istore_n hx hb 2 dJ7_fill_53178_1 rfl) ?_
  refine zcons (s_aload_n hx hb 0 dJ7_fill_53178_2 rfl) ?_
  refine zcons (s_len hx hb hK dJ7_fill_53178_3) ?_
  refine zcons (s_istore_n hx hb 3 dJ7_fill_53178_4 rfl) ?_
  refine zcons (s_iload_n hx hb 2 dJ7_fill_53178_5 rfl) ?_
  refine zcons (s_iload_n hx hb 3 dJ7_fill_53178_6 rfl) ?_
  refine zcons (s_c_ge hx hb 20 dJ7_fill_53178_7 (by decide)) ?_
  refine zcons (s_aload_n hx hb 0 dJ7_fill_53178_10 rfl) ?_
  refine zcons (s_iload_n hx hb 2 dJ7_fill_53178_11 rfl) ?_
  refine zcons (s_iload_n hx hb 1 dJ7_fill_53178_12 rfl) ?_
  refine zcons (s_iast (hZ := fun _ h => h) hx hb hK dJ7_fill_53178_13) ?_
  refine zcons (s_iinc hx hb 1 dJ7_fill_53178_14 (by decide)) ?_
  refine zcons (s_goto hx hb 5 dJ7_fill_53178_17 (by decide)) ?_
  refine zcons (s_vret hx hb hr hK hlk dJ7_fill_53178_20) ?_
  exact znil
noncomputable def tX7_clear : List (Nat × AI) := [(0, a_aload 1 0), (1, a_getR 4 7 (fun c => c + 1)), (4, a_push 6 (.inl 1000000)), (6, a_callS 9 2 mJ7_fill_53178), (9, a_aload 10 0), (10, a_getR 13 7 (fun c => c + 2)), (13, a_push 14 (.inl (-1))), (14, a_callS 17 2 mJ7_fill_53178), (17, a_vret)]
noncomputable def mX7_clear : List AV → MM → Option AR := zsem tX7_clear 1 1
def wX7_clear : List Cond := .code yX7_clear cX7_clear 1 none :: lw_g
def rX7_clear : Room := { frames := 1, cells := 0, slots := 0, locals := 23 }
set_option maxHeartbeats 4000000 in
set_option maxRecDepth 100000 in
theorem kX7_clear (l : Launch) (X : XC) : zM l X yX7_clear wX7_clear rX7_clear mX7_clear := by
  refine zMet tX7_clear 1 (by decide) rfl (by decide) ?_
  intro p e s m args below meth c res hC
  obtain ⟨hx, hb, hr, hts0, hown, hml, hlk, hK⟩ := hC
  have hts : ∀ w ∈ lw_g, w.before args s = true := fun w h => hts0 w (List.mem_cons_of_mem _ h)
  have hro : 0 ≤ (headSpec wX7_clear rX7_clear).room.cells ∧ 0 ≤ (headSpec wX7_clear rX7_clear).room.slots := ⟨Nat.zero_le _, Nat.zero_le _⟩
  refine zcons (s_aload_n hx hb 0 dX7_clear_0 rfl) ?_
  refine zcons (s_getR hx hb hts hown hK zcX7 hinX7 0 (by decide) w181 rfl (fun c => c + 1) (zptf (by decide) (by decide +kernel)) dX7_clear_1) ?_
  refine zcons (s_ldc hx hb 1000000 hown (hts _ w210) dX7_clear_4) ?_
  refine zcons (s_callS (hZ := fun _ h => h) hx hb hts hml hown hK hro (kJ7_fill_53178 l X) (va_cwS 2 hts (zgoodS w211 w212 w51 w213) rfl rfl rfl (by decide +kernel) ⟨Nat.le_of_ble_eq_true rfl, Nat.le_of_ble_eq_true rfl⟩) dX7_clear_6) ?_
  refine zcons (s_aload_n hx hb 0 dX7_clear_9 rfl) ?_
  refine zcons (s_getR hx hb hts hown hK zcX7 hinX7 1 (by decide) w182 rfl (fun c => c + 2) (zptf (by decide) (by decide +kernel)) dX7_clear_10) ?_
  refine zcons (s_iconst hx hb (-1) dX7_clear_13 (by decide)) ?_
  refine zcons (s_callS (hZ := fun _ h => h) hx hb hts hml hown hK hro (kJ7_fill_53178 l X) (va_cwS 2 hts (zgoodS w211 w212 w51 w213) rfl rfl rfl (by decide +kernel) ⟨Nat.le_of_ble_eq_true rfl, Nat.le_of_ble_eq_true rfl⟩) dX7_clear_14) ?_
  refine zcons (s_vret hx hb hr hK hlk dX7_clear_17) ?_
  exact znil
noncomputable def tX0_clear : List (Nat × AI) := [(0, a_aload 1 0), (1, a_getR 4 0 (fun _ => 15)), (4, a_callV 7 0 7 mX7_clear), (7, a_aload 8 0), (8, a_iload 9 1), (9, a_put 12 0 1), (12, a_aload 13 0), (13, a_iload 14 2), (14, a_putZ 17 0 2), (17, a_vret)]
noncomputable def mX0_clear : List AV → MM → Option AR := zsem tX0_clear 3 3
def wX0_clear : List Cond := .code yX0_clear cX0_clear 3 none :: lw_g
def rX0_clear : Room := { frames := 2, cells := 0, slots := 0, locals := 43 }
set_option maxHeartbeats 4000000 in
set_option maxRecDepth 100000 in
theorem kX0_clear (l : Launch) (X : XC) : zM l X yX0_clear wX0_clear rX0_clear mX0_clear := by
  refine zMet tX0_clear 3 (by decide) rfl (by decide) ?_
  intro p e s m args below meth c res hC
  obtain ⟨hx, hb, hr, hts0, hown, hml, hlk, hK⟩ := hC
  have hts : ∀ w ∈ lw_g, w.before args s = true := fun w h => hts0 w (List.mem_cons_of_mem _ h)
  have hro : 0 ≤ (headSpec wX0_clear rX0_clear).room.cells ∧ 0 ≤ (headSpec wX0_clear rX0_clear).room.slots := ⟨Nat.zero_le _, Nat.zero_le _⟩
  refine zcons (s_aload_n hx hb 0 dX0_clear_0 rfl) ?_
  refine zcons (s_getR hx hb hts hown hK zcX0 hinX0 0 (by decide) w196 rfl (fun _ => 15) (zptf (by decide) (by decide +kernel)) dX0_clear_1) ?_
  refine zcons (s_callV (hZ := fun _ h => h) hx hb hts hml hown hK hro zcX7 (kX7_clear l X) (zgoodV w450 w207 w208 w49 w209) rfl rfl rfl (by decide +kernel) ⟨Nat.le_of_ble_eq_true rfl, Nat.le_of_ble_eq_true rfl⟩ dX0_clear_4) ?_
  refine zcons (s_aload_n hx hb 0 dX0_clear_7 rfl) ?_
  refine zcons (s_iload_n hx hb 1 dX0_clear_8 rfl) ?_
  refine zcons (s_put (hZ := fun _ h => h) hx hb hts hown hK zcX0 hinX0 tyX0 tyX0_ok nmX0 1 (by decide) w197 rfl rfl (zptk (by decide) (by decide +kernel)) (by decide +kernel) dX0_clear_9) ?_
  refine zcons (s_aload_n hx hb 0 dX0_clear_12 rfl) ?_
  refine zcons (s_iload_n hx hb 2 dX0_clear_13 rfl) ?_
  refine zcons (s_putZ (hZ := fun _ h => h) hx hb hts hown hK zcX0 hinX0 tyX0 tyX0_ok nmX0 2 (by decide) w198 rfl rfl (zptk (by decide) (by decide +kernel)) (by decide +kernel) dX0_clear_14) ?_
  refine zcons (s_vret hx hb hr hK hlk dX0_clear_17) ?_
  exact znil
noncomputable def tX7_offer : List (Nat × AI) := [(0, a_push 1 (.inl 2)), (1, a_iload 2 1), (2, a_bin 3 (fun x y => x * y)), (3, a_istore 5 4), (5, a_iload 7 4), (7, a_push 8 (.inl 1)), (8, a_bin 9 (fun x y => x + y)), (9, a_istore 11 5), (11, a_iload 13 4), (13, a_if_lt 16 36), (16, a_iload 18 5), (18, a_aload 19 0), (19, a_getR 22 7 (fun c => c + 1)), (22, a_len 23), (23, a_c_ge 26 36), (26, a_iload 28 5), (28, a_aload 29 0), (29, a_getR 32 7 (fun c => c + 2)), (32, a_len 33), (33, a_c_lt 36 37), (36, a_vret), (37, a_iload 38 3), (38, a_aload 39 0), (39, a_getR 42 7 (fun c => c + 2)), (42, a_iload 44 4), (44, a_ald 45 10), (45, a_c_ne 48 69), (48, a_aload 49 0), (49, a_getR 52 7 (fun c => c + 1)), (52, a_iload 54 4), (54, a_iload 55 2), (55, a_aload 56 0), (56, a_getR 59 7 (fun c => c + 1)), (59, a_iload 61 4), (61, a_ald 62 10), (62, a_min 65), (65, a_ast 66), (66, a_goto 198), (69, a_iload 70 2), (70, a_aload 71 0), (71, a_getR 74 7 (fun c => c + 1)), (74, a_iload 76 4), (76, a_ald 77 10), (77, a_c_lt 80 102), (80, a_iload 81 2), (81, a_aload 82 0), (82, a_getR 85 7 (fun c => c + 1)), (85, a_iload 87 4), (87, a_ald 88 10), (88, a_c_ne 91 149), (91, a_iload 92 3), (92, a_aload 93 0), (93, a_getR 96 7 (fun c => c + 2)), (96, a_iload 98 4), (98, a_ald 99 10), (99, a_c_ge 102 149), (102, a_aload 103 0), (103, a_getR 106 7 (fun c => c + 1)), (106, a_iload 108 5), (108, a_aload 109 0), (109, a_getR 112 7 (fun c => c + 1)), (112, a_iload 114 4), (114, a_ald 115 10), (115, a_ast 116), (116, a_aload 117 0), (117, a_getR 120 7 (fun c => c + 2)), (120, a_iload 122 5), (122, a_aload 123 0), (123, a_getR 126 7 (fun c => c + 2)), (126, a_iload 128 4), (128, a_ald 129 10), (129, a_ast 130), (130, a_aload 131 0), (131, a_getR 134 7 (fun c => c + 1)), (134, a_iload 136 4), (136, a_iload 137 2), (137, a_ast 138), (138, a_aload 139 0), (139, a_getR 142 7 (fun c => c + 2)), (142, a_iload 144 4), (144, a_iload 145 3), (145, a_ast 146), (146, a_goto 198), (149, a_iload 150 2), (150, a_aload 151 0), (151, a_getR 154 7 (fun c => c + 1)), (154, a_iload 156 5), (156, a_ald 157 10), (157, a_c_lt 160 182), (160, a_iload 161 2), (161, a_aload 162 0), (162, a_getR 165 7 (fun c => c + 1)), (165, a_iload 167 5), (167, a_ald 168 10), (168, a_c_ne 171 198), (171, a_iload 172 3), (172, a_aload 173 0), (173, a_getR 176 7 (fun c => c + 2)), (176, a_iload 178 5), (178, a_ald 179 10), (179, a_c_ge 182 198), (182, a_aload 183 0), (183, a_getR 186 7 (fun c => c + 1)), (186, a_iload 188 5), (188, a_iload 189 2), (189, a_ast 190), (190, a_aload 191 0), (191, a_getR 194 7 (fun c => c + 2)), (194, a_iload 196 5), (196, a_iload 197 3), (197, a_ast 198), (198, a_vret)]
noncomputable def mX7_offer : List AV → MM → Option AR := zsem tX7_offer 6 4
def wX7_offer : List Cond := .code yX7_offer cX7_offer 6 none :: lw_g
def rX7_offer : Room := { frames := 1, cells := 0, slots := 0, locals := 21 }
set_option maxHeartbeats 4000000 in
set_option maxRecDepth 100000 in
theorem kX7_offer (l : Launch) (X : XC) : zM l X yX7_offer wX7_offer rX7_offer mX7_offer := by
  refine zMet tX7_offer 4 (by decide) rfl (by decide) ?_
  intro p e s m args below meth c res hC
  obtain ⟨hx, hb, hr, hts0, hown, hml, hlk, hK⟩ := hC
  have hts : ∀ w ∈ lw_g, w.before args s = true := fun w h => hts0 w (List.mem_cons_of_mem _ h)
  have hro : 0 ≤ (headSpec wX7_offer rX7_offer).room.cells ∧ 0 ≤ (headSpec wX7_offer rX7_offer).room.slots := ⟨Nat.zero_le _, Nat.zero_le _⟩
  refine zcons (s_iconst hx hb 2 dX7_offer_0 (by decide)) ?_
  refine zcons (s_iload_n hx hb 1 dX7_offer_1 rfl) ?_
  refine zcons (s_imul hx hb dX7_offer_2) ?_
  refine zcons (s_istore hx hb dX7_offer_3) ?_
  refine zcons (s_iload hx hb dX7_offer_5) ?_
  refine zcons (s_iconst hx hb 1 dX7_offer_7 (by decide)) ?_
  refine zcons (s_iadd hx hb dX7_offer_8) ?_
  refine zcons (s_istore hx hb dX7_offer_9) ?_
  refine zcons (s_iload hx hb dX7_offer_11) ?_
  refine zcons (s_if_lt hx hb 36 dX7_offer_13 (by decide)) ?_
  refine zcons (s_iload hx hb dX7_offer_16) ?_
  refine zcons (s_aload_n hx hb 0 dX7_offer_18 rfl) ?_
  refine zcons (s_getR hx hb hts hown hK zcX7 hinX7 0 (by decide) w181 rfl (fun c => c + 1) (zptf (by decide) (by decide +kernel)) dX7_offer_19) ?_
  refine zcons (s_len hx hb hK dX7_offer_22) ?_
  refine zcons (s_c_ge hx hb 36 dX7_offer_23 (by decide)) ?_
  refine zcons (s_iload hx hb dX7_offer_26) ?_
  refine zcons (s_aload_n hx hb 0 dX7_offer_28 rfl) ?_
  refine zcons (s_getR hx hb hts hown hK zcX7 hinX7 1 (by decide) w182 rfl (fun c => c + 2) (zptf (by decide) (by decide +kernel)) dX7_offer_29) ?_
  refine zcons (s_len hx hb hK dX7_offer_32) ?_
  refine zcons (s_c_lt hx hb 37 dX7_offer_33 (by decide)) ?_
  refine zcons (s_vret hx hb hr hK hlk dX7_offer_36) ?_
  refine zcons (s_iload_n hx hb 3 dX7_offer_37 rfl) ?_
  refine zcons (s_aload_n hx hb 0 dX7_offer_38 rfl) ?_
  refine zcons (s_getR hx hb hts hown hK zcX7 hinX7 1 (by decide) w182 rfl (fun c => c + 2) (zptf (by decide) (by decide +kernel)) dX7_offer_39) ?_
  refine zcons (s_iload hx hb dX7_offer_42) ?_
  refine zcons (s_iald hx hb hK dX7_offer_44) ?_
  refine zcons (s_c_ne hx hb 69 dX7_offer_45 (by decide)) ?_
  refine zcons (s_aload_n hx hb 0 dX7_offer_48 rfl) ?_
  refine zcons (s_getR hx hb hts hown hK zcX7 hinX7 0 (by decide) w181 rfl (fun c => c + 1) (zptf (by decide) (by decide +kernel)) dX7_offer_49) ?_
  refine zcons (s_iload hx hb dX7_offer_52) ?_
  refine zcons (s_iload_n hx hb 2 dX7_offer_54 rfl) ?_
  refine zcons (s_aload_n hx hb 0 dX7_offer_55 rfl) ?_
  refine zcons (s_getR hx hb hts hown hK zcX7 hinX7 0 (by decide) w181 rfl (fun c => c + 1) (zptf (by decide) (by decide +kernel)) dX7_offer_56) ?_
  refine zcons (s_iload hx hb dX7_offer_59) ?_
  refine zcons (s_iald hx hb hK dX7_offer_61) ?_
  refine zcons (s_min hx hb hts hml hown hro w463 w464 w55 w465 ⟨Nat.le_of_ble_eq_true rfl, Nat.le_of_ble_eq_true rfl⟩ dX7_offer_62) ?_
  refine zcons (s_iast (hZ := fun _ h => h) hx hb hK dX7_offer_65) ?_
  refine zcons (s_goto hx hb 198 dX7_offer_66 (by decide)) ?_
  refine zcons (s_iload_n hx hb 2 dX7_offer_69 rfl) ?_
  refine zcons (s_aload_n hx hb 0 dX7_offer_70 rfl) ?_
  refine zcons (s_getR hx hb hts hown hK zcX7 hinX7 0 (by decide) w181 rfl (fun c => c + 1) (zptf (by decide) (by decide +kernel)) dX7_offer_71) ?_
  refine zcons (s_iload hx hb dX7_offer_74) ?_
  refine zcons (s_iald hx hb hK dX7_offer_76) ?_
  refine zcons (s_c_lt hx hb 102 dX7_offer_77 (by decide)) ?_
  refine zcons (s_iload_n hx hb 2 dX7_offer_80 rfl) ?_
  refine zcons (s_aload_n hx hb 0 dX7_offer_81 rfl) ?_
  refine zcons (s_getR hx hb hts hown hK zcX7 hinX7 0 (by decide) w181 rfl (fun c => c + 1) (zptf (by decide) (by decide +kernel)) dX7_offer_82) ?_
  refine zcons (s_iload hx hb dX7_offer_85) ?_
  refine zcons (s_iald hx hb hK dX7_offer_87) ?_
  refine zcons (s_c_ne hx hb 149 dX7_offer_88 (by decide)) ?_
  refine zcons (s_iload_n hx hb 3 dX7_offer_91 rfl) ?_
  refine zcons (s_aload_n hx hb 0 dX7_offer_92 rfl) ?_
  refine zcons (s_getR hx hb hts hown hK zcX7 hinX7 1 (by decide) w182 rfl (fun c => c + 2) (zptf (by decide) (by decide +kernel)) dX7_offer_93) ?_
  refine zcons (s_iload hx hb dX7_offer_96) ?_
  refine zcons (s_iald hx hb hK dX7_offer_98) ?_
  refine zcons (s_c_ge hx hb 149 dX7_offer_99 (by decide)) ?_
  refine zcons (s_aload_n hx hb 0 dX7_offer_102 rfl) ?_
  refine zcons (s_getR hx hb hts hown hK zcX7 hinX7 0 (by decide) w181 rfl (fun c => c + 1) (zptf (by decide) (by decide +kernel)) dX7_offer_103) ?_
  refine zcons (s_iload hx hb dX7_offer_106) ?_
  refine zcons (s_aload_n hx hb 0 dX7_offer_108 rfl) ?_
  refine zcons (s_getR hx hb hts hown hK zcX7 hinX7 0 (by decide) w181 rfl (fun c => c + 1) (zptf (by decide) (by decide +kernel)) dX7_offer_109) ?_
  refine zcons (s_iload hx hb dX7_offer_112) ?_
  refine zcons (s_iald hx hb hK dX7_offer_114) ?_
  refine zcons (s_iast (hZ := fun _ h => h) hx hb hK dX7_offer_115) ?_
  refine zcons (s_aload_n hx hb 0 dX7_offer_116 rfl) ?_
  refine zcons (s_getR hx hb hts hown hK zcX7 hinX7 1 (by decide) w182 rfl (fun c => c + 2) (zptf (by decide) (by decide +kernel)) dX7_offer_117) ?_
  refine zcons (s_iload hx hb dX7_offer_120) ?_
  refine zcons (s_aload_n hx hb 0 dX7_offer_122 rfl) ?_
  refine zcons (s_getR hx hb hts hown hK zcX7 hinX7 1 (by decide) w182 rfl (fun c => c + 2) (zptf (by decide) (by decide +kernel)) dX7_offer_123) ?_
  refine zcons (s_iload hx hb dX7_offer_126) ?_
  refine zcons (s_iald hx hb hK dX7_offer_128) ?_
  refine zcons (s_iast (hZ := fun _ h => h) hx hb hK dX7_offer_129) ?_
  refine zcons (s_aload_n hx hb 0 dX7_offer_130 rfl) ?_
  refine zcons (s_getR hx hb hts hown hK zcX7 hinX7 0 (by decide) w181 rfl (fun c => c + 1) (zptf (by decide) (by decide +kernel)) dX7_offer_131) ?_
  refine zcons (s_iload hx hb dX7_offer_134) ?_
  refine zcons (s_iload_n hx hb 2 dX7_offer_136 rfl) ?_
  refine zcons (s_iast (hZ := fun _ h => h) hx hb hK dX7_offer_137) ?_
  refine zcons (s_aload_n hx hb 0 dX7_offer_138 rfl) ?_
  refine zcons (s_getR hx hb hts hown hK zcX7 hinX7 1 (by decide) w182 rfl (fun c => c + 2) (zptf (by decide) (by decide +kernel)) dX7_offer_139) ?_
  refine zcons (s_iload hx hb dX7_offer_142) ?_
  refine zcons (s_iload_n hx hb 3 dX7_offer_144 rfl) ?_
  refine zcons (s_iast (hZ := fun _ h => h) hx hb hK dX7_offer_145) ?_
  refine zcons (s_goto hx hb 198 dX7_offer_146 (by decide)) ?_
  refine zcons (s_iload_n hx hb 2 dX7_offer_149 rfl) ?_
  refine zcons (s_aload_n hx hb 0 dX7_offer_150 rfl) ?_
  refine zcons (s_getR hx hb hts hown hK zcX7 hinX7 0 (by decide) w181 rfl (fun c => c + 1) (zptf (by decide) (by decide +kernel)) dX7_offer_151) ?_
  refine zcons (s_iload hx hb dX7_offer_154) ?_
  refine zcons (s_iald hx hb hK dX7_offer_156) ?_
  refine zcons (s_c_lt hx hb 182 dX7_offer_157 (by decide)) ?_
  refine zcons (s_iload_n hx hb 2 dX7_offer_160 rfl) ?_
  refine zcons (s_aload_n hx hb 0 dX7_offer_161 rfl) ?_
  refine zcons (s_getR hx hb hts hown hK zcX7 hinX7 0 (by decide) w181 rfl (fun c => c + 1) (zptf (by decide) (by decide +kernel)) dX7_offer_162) ?_
  refine zcons (s_iload hx hb dX7_offer_165) ?_
  refine zcons (s_iald hx hb hK dX7_offer_167) ?_
  refine zcons (s_c_ne hx hb 198 dX7_offer_168 (by decide)) ?_
  refine zcons (s_iload_n hx hb 3 dX7_offer_171 rfl) ?_
  refine zcons (s_aload_n hx hb 0 dX7_offer_172 rfl) ?_
  refine zcons (s_getR hx hb hts hown hK zcX7 hinX7 1 (by decide) w182 rfl (fun c => c + 2) (zptf (by decide) (by decide +kernel)) dX7_offer_173) ?_
  refine zcons (s_iload hx hb dX7_offer_176) ?_
  refine zcons (s_iald hx hb hK dX7_offer_178) ?_
  refine zcons (s_c_ge hx hb 198 dX7_offer_179 (by decide)) ?_
  refine zcons (s_aload_n hx hb 0 dX7_offer_182 rfl) ?_
  refine zcons (s_getR hx hb hts hown hK zcX7 hinX7 0 (by decide) w181 rfl (fun c => c + 1) (zptf (by decide) (by decide +kernel)) dX7_offer_183) ?_
  refine zcons (s_iload hx hb dX7_offer_186) ?_
  refine zcons (s_iload_n hx hb 2 dX7_offer_188 rfl) ?_
  refine zcons (s_iast (hZ := fun _ h => h) hx hb hK dX7_offer_189) ?_
  refine zcons (s_aload_n hx hb 0 dX7_offer_190 rfl) ?_
  refine zcons (s_getR hx hb hts hown hK zcX7 hinX7 1 (by decide) w182 rfl (fun c => c + 2) (zptf (by decide) (by decide +kernel)) dX7_offer_191) ?_
  refine zcons (s_iload hx hb dX7_offer_194) ?_
  refine zcons (s_iload_n hx hb 3 dX7_offer_196 rfl) ?_
  refine zcons (s_iast (hZ := fun _ h => h) hx hb hK dX7_offer_197) ?_
  refine zcons (s_vret hx hb hr hK hlk dX7_offer_198) ?_
  exact znil
noncomputable def tX0_begin : List (Nat × AI) := [(0, a_aload 1 0), (1, a_getR 4 0 (fun _ => 15)), (4, a_push 5 (.inl 0)), (5, a_iload 6 1), (6, a_push 7 (.inl 0)), (7, a_callV 10 3 7 mX7_offer), (10, a_vret)]
noncomputable def mX0_begin : List AV → MM → Option AR := zsem tX0_begin 2 2
def wX0_begin : List Cond := .code yX0_begin cX0_begin 2 none :: lw_g
def rX0_begin : Room := { frames := 2, cells := 0, slots := 0, locals := 46 }
set_option maxHeartbeats 4000000 in
set_option maxRecDepth 100000 in
theorem kX0_begin (l : Launch) (X : XC) : zM l X yX0_begin wX0_begin rX0_begin mX0_begin := by
  refine zMet tX0_begin 2 (by decide) rfl (by decide) ?_
  intro p e s m args below meth c res hC
  obtain ⟨hx, hb, hr, hts0, hown, hml, hlk, hK⟩ := hC
  have hts : ∀ w ∈ lw_g, w.before args s = true := fun w h => hts0 w (List.mem_cons_of_mem _ h)
  have hro : 0 ≤ (headSpec wX0_begin rX0_begin).room.cells ∧ 0 ≤ (headSpec wX0_begin rX0_begin).room.slots := ⟨Nat.zero_le _, Nat.zero_le _⟩
  refine zcons (s_aload_n hx hb 0 dX0_begin_0 rfl) ?_
  refine zcons (s_getR hx hb hts hown hK zcX0 hinX0 0 (by decide) w196 rfl (fun _ => 15) (zptf (by decide) (by decide +kernel)) dX0_begin_1) ?_
  refine zcons (s_iconst hx hb 0 dX0_begin_4 (by decide)) ?_
  refine zcons (s_iload_n hx hb 1 dX0_begin_5 rfl) ?_
  refine zcons (s_iconst hx hb 0 dX0_begin_6 (by decide)) ?_
  refine zcons (s_callV (hZ := fun _ h => h) hx hb hts hml hown hK hro zcX7 (kX7_offer l X) (zgoodV w459 w460 w461 w49 w462) rfl rfl rfl (by decide +kernel) ⟨Nat.le_of_ble_eq_true rfl, Nat.le_of_ble_eq_true rfl⟩ dX0_begin_7) ?_
  refine zcons (s_vret hx hb hr hK hlk dX0_begin_10) ?_
  exact znil
noncomputable def tX2_wordsIn : List (Nat × AI) := [(0, a_iload 1 1), (1, a_if_lt 4 30), (4, a_iload 5 1), (5, a_aload 6 0), (6, a_getI 9 2 3), (9, a_c_ge 12 30), (12, a_iload 13 1), (13, a_aload 14 0), (14, a_getR 17 2 (fun _ => 9)), (17, a_len 18), (18, a_c_ge 21 30), (21, a_aload 22 0), (22, a_getR 25 2 (fun _ => 9)), (25, a_iload 26 1), (26, a_ald 27 10), (27, a_goto 31), (30, a_push 31 (.inl 0)), (31, a_iret)]
noncomputable def mX2_wordsIn : List AV → MM → Option AR := zsem tX2_wordsIn 2 2
def wX2_wordsIn : List Cond := .code yX2_wordsIn cX2_wordsIn 2 (some .int) :: lw_g
def rX2_wordsIn : Room := { frames := 0, cells := 0, slots := 0, locals := 0 }
set_option maxHeartbeats 4000000 in
set_option maxRecDepth 100000 in
theorem kX2_wordsIn (l : Launch) (X : XC) : zM l X yX2_wordsIn wX2_wordsIn rX2_wordsIn mX2_wordsIn := by
  refine zMet tX2_wordsIn 2 (by decide) rfl (by decide) ?_
  intro p e s m args below meth c res hC
  obtain ⟨hx, hb, hr, hts0, hown, hml, hlk, hK⟩ := hC
  have hts : ∀ w ∈ lw_g, w.before args s = true := fun w h => hts0 w (List.mem_cons_of_mem _ h)
  have hro : 0 ≤ (headSpec wX2_wordsIn rX2_wordsIn).room.cells ∧ 0 ≤ (headSpec wX2_wordsIn rX2_wordsIn).room.slots := ⟨Nat.zero_le _, Nat.zero_le _⟩
  refine zcons (s_iload_n hx hb 1 dX2_wordsIn_0 rfl) ?_
  refine zcons (s_if_lt hx hb 30 dX2_wordsIn_1 (by decide)) ?_
  refine zcons (s_iload_n hx hb 1 dX2_wordsIn_4 rfl) ?_
  refine zcons (s_aload_n hx hb 0 dX2_wordsIn_5 rfl) ?_
  refine zcons (s_getI hx hb hts hown hK zcX2 hinX2 3 (by decide) w157 rfl (zptk (by decide) (by decide +kernel)) dX2_wordsIn_6) ?_
  refine zcons (s_c_ge hx hb 30 dX2_wordsIn_9 (by decide)) ?_
  refine zcons (s_iload_n hx hb 1 dX2_wordsIn_12 rfl) ?_
  refine zcons (s_aload_n hx hb 0 dX2_wordsIn_13 rfl) ?_
  refine zcons (s_getR hx hb hts hown hK zcX2 hinX2 2 (by decide) w156 rfl (fun _ => 9) (zptf (by decide) (by decide +kernel)) dX2_wordsIn_14) ?_
  refine zcons (s_len hx hb hK dX2_wordsIn_17) ?_
  refine zcons (s_c_ge hx hb 30 dX2_wordsIn_18 (by decide)) ?_
  refine zcons (s_aload_n hx hb 0 dX2_wordsIn_21 rfl) ?_
  refine zcons (s_getR hx hb hts hown hK zcX2 hinX2 2 (by decide) w156 rfl (fun _ => 9) (zptf (by decide) (by decide +kernel)) dX2_wordsIn_22) ?_
  refine zcons (s_iload_n hx hb 1 dX2_wordsIn_25 rfl) ?_
  refine zcons (s_iald hx hb hK dX2_wordsIn_26) ?_
  refine zcons (s_goto hx hb 31 dX2_wordsIn_27 (by decide)) ?_
  refine zcons (s_iconst hx hb 0 dX2_wordsIn_30 (by decide)) ?_
  refine zcons (s_iret hx hb hr hK hlk dX2_wordsIn_31) ?_
  exact znil
noncomputable def tX2_wordAt : List (Nat × AI) := [(0, a_iload 1 1), (1, a_push 2 (.inl 4)), (2, a_bin 3 (fun x y => x * y)), (3, a_iload 4 2), (4, a_bin 5 (fun x y => x + y)), (5, a_istore 6 3), (6, a_iload 7 2), (7, a_if_lt 10 37), (10, a_iload 11 2), (11, a_aload 12 0), (12, a_iload 13 1), (13, a_callV 16 1 2 mX2_wordsIn), (16, a_c_ge 19 37), (19, a_iload 20 3), (20, a_aload 21 0), (21, a_getR 24 2 (fun _ => 7)), (24, a_len 25), (25, a_c_ge 28 37), (28, a_aload 29 0), (29, a_getR 32 2 (fun _ => 7)), (32, a_iload 33 3), (33, a_ald 34 10), (34, a_goto 38), (37, a_push 38 (.inl (-1))), (38, a_iret)]
noncomputable def mX2_wordAt : List AV → MM → Option AR := zsem tX2_wordAt 4 3
def wX2_wordAt : List Cond := .code yX2_wordAt cX2_wordAt 4 (some .int) :: lw_g
def rX2_wordAt : Room := { frames := 1, cells := 0, slots := 0, locals := 21 }
set_option maxHeartbeats 4000000 in
set_option maxRecDepth 100000 in
theorem kX2_wordAt (l : Launch) (X : XC) : zM l X yX2_wordAt wX2_wordAt rX2_wordAt mX2_wordAt := by
  refine zMet tX2_wordAt 3 (by decide) rfl (by decide) ?_
  intro p e s m args below meth c res hC
  obtain ⟨hx, hb, hr, hts0, hown, hml, hlk, hK⟩ := hC
  have hts : ∀ w ∈ lw_g, w.before args s = true := fun w h => hts0 w (List.mem_cons_of_mem _ h)
  have hro : 0 ≤ (headSpec wX2_wordAt rX2_wordAt).room.cells ∧ 0 ≤ (headSpec wX2_wordAt rX2_wordAt).room.slots := ⟨Nat.zero_le _, Nat.zero_le _⟩
  refine zcons (s_iload_n hx hb 1 dX2_wordAt_0 rfl) ?_
  refine zcons (s_iconst hx hb 4 dX2_wordAt_1 (by decide)) ?_
  refine zcons (s_imul hx hb dX2_wordAt_2) ?_
  refine zcons (s_iload_n hx hb 2 dX2_wordAt_3 rfl) ?_
  refine zcons (s_iadd hx hb dX2_wordAt_4) ?_
  refine zcons (s_istore_n hx hb 3 dX2_wordAt_5 rfl) ?_
  refine zcons (s_iload_n hx hb 2 dX2_wordAt_6 rfl) ?_
  refine zcons (s_if_lt hx hb 37 dX2_wordAt_7 (by decide)) ?_
  refine zcons (s_iload_n hx hb 2 dX2_wordAt_10 rfl) ?_
  refine zcons (s_aload_n hx hb 0 dX2_wordAt_11 rfl) ?_
  refine zcons (s_iload_n hx hb 1 dX2_wordAt_12 rfl) ?_
  refine zcons (s_callV (hZ := fun _ h => h) hx hb hts hml hown hK hro zcX2 (kX2_wordsIn l X) (zgoodV w413 w414 w415 w47 w416) rfl rfl rfl (by decide +kernel) ⟨Nat.le_of_ble_eq_true rfl, Nat.le_of_ble_eq_true rfl⟩ dX2_wordAt_13) ?_
  refine zcons (s_c_ge hx hb 37 dX2_wordAt_16 (by decide)) ?_
  refine zcons (s_iload_n hx hb 3 dX2_wordAt_19 rfl) ?_
  refine zcons (s_aload_n hx hb 0 dX2_wordAt_20 rfl) ?_
  refine zcons (s_getR hx hb hts hown hK zcX2 hinX2 0 (by decide) w154 rfl (fun _ => 7) (zptf (by decide) (by decide +kernel)) dX2_wordAt_21) ?_
  refine zcons (s_len hx hb hK dX2_wordAt_24) ?_
  refine zcons (s_c_ge hx hb 37 dX2_wordAt_25 (by decide)) ?_
  refine zcons (s_aload_n hx hb 0 dX2_wordAt_28 rfl) ?_
  refine zcons (s_getR hx hb hts hown hK zcX2 hinX2 0 (by decide) w154 rfl (fun _ => 7) (zptf (by decide) (by decide +kernel)) dX2_wordAt_29) ?_
  refine zcons (s_iload_n hx hb 3 dX2_wordAt_32 rfl) ?_
  refine zcons (s_iald hx hb hK dX2_wordAt_33) ?_
  refine zcons (s_goto hx hb 38 dX2_wordAt_34 (by decide)) ?_
  refine zcons (s_iconst hx hb (-1) dX2_wordAt_37 (by decide)) ?_
  refine zcons (s_iret hx hb hr hK hlk dX2_wordAt_38) ?_
  exact znil
noncomputable def tX9_isWithin : List (Nat × AI) := [(0, a_iload 1 0), (1, a_if_lt 4 13), (4, a_iload 5 0), (5, a_iload 6 1), (6, a_c_gt 9 13), (9, a_push 10 (.inl 1)), (10, a_goto 14), (13, a_push 14 (.inl 0)), (14, a_zret)]
noncomputable def mX9_isWithin : List AV → MM → Option AR := zsem tX9_isWithin 2 2
def wX9_isWithin : List Cond := .code yX9_isWithin cX9_isWithin 2 (some .boolean) :: lw_g
def rX9_isWithin : Room := { frames := 0, cells := 0, slots := 0, locals := 0 }
set_option maxHeartbeats 4000000 in
set_option maxRecDepth 100000 in
theorem kX9_isWithin (l : Launch) (X : XC) : zM l X yX9_isWithin wX9_isWithin rX9_isWithin mX9_isWithin := by
  refine zMet tX9_isWithin 2 (by decide) rfl (by decide) ?_
  intro p e s m args below meth c res hC
  obtain ⟨hx, hb, hr, hts0, hown, hml, hlk, hK⟩ := hC
  have hts : ∀ w ∈ lw_g, w.before args s = true := fun w h => hts0 w (List.mem_cons_of_mem _ h)
  have hro : 0 ≤ (headSpec wX9_isWithin rX9_isWithin).room.cells ∧ 0 ≤ (headSpec wX9_isWithin rX9_isWithin).room.slots := ⟨Nat.zero_le _, Nat.zero_le _⟩
  refine zcons (s_iload_n hx hb 0 dX9_isWithin_0 rfl) ?_
  refine zcons (s_if_lt hx hb 13 dX9_isWithin_1 (by decide)) ?_
  refine zcons (s_iload_n hx hb 0 dX9_isWithin_4 rfl) ?_
  refine zcons (s_iload_n hx hb 1 dX9_isWithin_5 rfl) ?_
  refine zcons (s_c_gt hx hb 13 dX9_isWithin_6 (by decide)) ?_
  refine zcons (s_iconst hx hb 1 dX9_isWithin_9 (by decide)) ?_
  refine zcons (s_goto hx hb 14 dX9_isWithin_10 (by decide)) ?_
  refine zcons (s_iconst hx hb 0 dX9_isWithin_13 (by decide)) ?_
  refine zcons (s_zret hx hb hr hK hlk dX9_isWithin_14) ?_
  exact znil
noncomputable def tX0_standBehind : List (Nat × AI) := [(0, a_iload 1 1), (1, a_push 2 (.inl 2)), (2, a_rem 3), (3, a_push 4 (.inl 1)), (4, a_c_ne 7 11), (7, a_push 8 (.inl 1)), (8, a_goto 12), (11, a_push 12 (.inl 0)), (12, a_istore 13 3), (13, a_iload 14 2), (14, a_push 16 (.inl 10)), (16, a_c_ne 19 39), (19, a_iload 20 3), (20, a_if_ne 23 39), (23, a_iload 24 1), (24, a_push 25 (.inl 4)), (25, a_bin 26 (fun x y => x + y)), (26, a_push 27 (.inl 2)), (27, a_aload 28 0), (28, a_getI 31 0 1), (31, a_bin 32 (fun x y => x * y)), (32, a_c_gt 35 39), (35, a_iload 36 1), (36, a_push 37 (.inl 1)), (37, a_bin 38 (fun x y => x + y)), (38, a_iret), (39, a_iload 40 3), (40, a_if_eq 43 49), (43, a_iload 44 1), (44, a_push 45 (.inl 3)), (45, a_bin 46 (fun x y => x + y)), (46, a_goto 52), (49, a_iload 50 1), (50, a_push 51 (.inl 2)), (51, a_bin 52 (fun x y => x + y)), (52, a_istore 54 4), (54, a_iload 55 2), (55, a_push 57 (.inl 9)), (57, a_callS 60 2 mX9_isWithin), (60, a_if_eq 63 79), (63, a_iload 65 4), (65, a_push 66 (.inl 2)), (66, a_aload 67 0), (67, a_getI 70 0 1), (70, a_bin 71 (fun x y => x * y)), (71, a_c_gt 74 79), (74, a_iload 76 4), (76, a_goto 80), (79, a_push 80 (.inl (-1))), (80, a_iret)]
noncomputable def mX0_standBehind : List AV → MM → Option AR := zsem tX0_standBehind 5 3
def wX0_standBehind : List Cond := .code yX0_standBehind cX0_standBehind 5 (some .int) :: lw_g
def rX0_standBehind : Room := { frames := 1, cells := 0, slots := 0, locals := 21 }
set_option maxHeartbeats 4000000 in
set_option maxRecDepth 100000 in
theorem kX0_standBehind (l : Launch) (X : XC) : zM l X yX0_standBehind wX0_standBehind rX0_standBehind mX0_standBehind := by
  refine zMet tX0_standBehind 3 (by decide) rfl (by decide) ?_
  intro p e s m args below meth c res hC
  obtain ⟨hx, hb, hr, hts0, hown, hml, hlk, hK⟩ := hC
  have hts : ∀ w ∈ lw_g, w.before args s = true := fun w h => hts0 w (List.mem_cons_of_mem _ h)
  have hro : 0 ≤ (headSpec wX0_standBehind rX0_standBehind).room.cells ∧ 0 ≤ (headSpec wX0_standBehind rX0_standBehind).room.slots := ⟨Nat.zero_le _, Nat.zero_le _⟩
  refine zcons (s_iload_n hx hb 1 dX0_standBehind_0 rfl) ?_
  refine zcons (s_iconst hx hb 2 dX0_standBehind_1 (by decide)) ?_
  refine zcons (s_irem hx hb dX0_standBehind_2) ?_
  refine zcons (s_iconst hx hb 1 dX0_standBehind_3 (by decide)) ?_
  refine zcons (s_c_ne hx hb 11 dX0_standBehind_4 (by decide)) ?_
  refine zcons (s_iconst hx hb 1 dX0_standBehind_7 (by decide)) ?_
  refine zcons (s_goto hx hb 12 dX0_standBehind_8 (by decide)) ?_
  refine zcons (s_iconst hx hb 0 dX0_standBehind_11 (by decide)) ?_
  refine zcons (s_istore_n hx hb 3 dX0_standBehind_12 rfl) ?_
  refine zcons (s_iload_n hx hb 2 dX0_standBehind_13 rfl) ?_
  refine zcons (s_bipush hx hb 10 dX0_standBehind_14 (by decide)) ?_
  refine zcons (s_c_ne hx hb 39 dX0_standBehind_16 (by decide)) ?_
  refine zcons (s_iload_n hx hb 3 dX0_standBehind_19 rfl) ?_
  refine zcons (s_if_ne hx hb 39 dX0_standBehind_20 (by decide)) ?_
  refine zcons (s_iload_n hx hb 1 dX0_standBehind_23 rfl) ?_
  refine zcons (s_iconst hx hb 4 dX0_standBehind_24 (by decide)) ?_
  refine zcons (s_iadd hx hb dX0_standBehind_25) ?_
  refine zcons (s_iconst hx hb 2 dX0_standBehind_26 (by decide)) ?_
  refine zcons (s_aload_n hx hb 0 dX0_standBehind_27 rfl) ?_
  refine zcons (s_getI hx hb hts hown hK zcX0 hinX0 1 (by decide) w197 rfl (zptk (by decide) (by decide +kernel)) dX0_standBehind_28) ?_
  refine zcons (s_imul hx hb dX0_standBehind_31) ?_
  refine zcons (s_c_gt hx hb 39 dX0_standBehind_32 (by decide)) ?_
  refine zcons (s_iload_n hx hb 1 dX0_standBehind_35 rfl) ?_
  refine zcons (s_iconst hx hb 1 dX0_standBehind_36 (by decide)) ?_
  refine zcons (s_iadd hx hb dX0_standBehind_37) ?_
  refine zcons (s_iret hx hb hr hK hlk dX0_standBehind_38) ?_
  refine zcons (s_iload_n hx hb 3 dX0_standBehind_39 rfl) ?_
  refine zcons (s_if_eq hx hb 49 dX0_standBehind_40 (by decide)) ?_
  refine zcons (s_iload_n hx hb 1 dX0_standBehind_43 rfl) ?_
  refine zcons (s_iconst hx hb 3 dX0_standBehind_44 (by decide)) ?_
  refine zcons (s_iadd hx hb dX0_standBehind_45) ?_
  refine zcons (s_goto hx hb 52 dX0_standBehind_46 (by decide)) ?_
  refine zcons (s_iload_n hx hb 1 dX0_standBehind_49 rfl) ?_
  refine zcons (s_iconst hx hb 2 dX0_standBehind_50 (by decide)) ?_
  refine zcons (s_iadd hx hb dX0_standBehind_51) ?_
  refine zcons (s_istore hx hb dX0_standBehind_52) ?_
  refine zcons (s_iload_n hx hb 2 dX0_standBehind_54 rfl) ?_
  refine zcons (s_bipush hx hb 9 dX0_standBehind_55 (by decide)) ?_
  refine zcons (s_callSN (hZ := fun _ h => h) hx hb hts hml hown hK hro (kX9_isWithin l X) (zgoodC w392) rfl rfl rfl hK.2.2.1 w44 w391 (by decide +kernel) ⟨Nat.le_of_ble_eq_true rfl, Nat.le_of_ble_eq_true rfl⟩ dX0_standBehind_57) ?_
  refine zcons (s_if_eq hx hb 79 dX0_standBehind_60 (by decide)) ?_
  refine zcons (s_iload hx hb dX0_standBehind_63) ?_
  refine zcons (s_iconst hx hb 2 dX0_standBehind_65 (by decide)) ?_
  refine zcons (s_aload_n hx hb 0 dX0_standBehind_66 rfl) ?_
  refine zcons (s_getI hx hb hts hown hK zcX0 hinX0 1 (by decide) w197 rfl (zptk (by decide) (by decide +kernel)) dX0_standBehind_67) ?_
  refine zcons (s_imul hx hb dX0_standBehind_70) ?_
  refine zcons (s_c_gt hx hb 79 dX0_standBehind_71 (by decide)) ?_
  refine zcons (s_iload hx hb dX0_standBehind_74) ?_
  refine zcons (s_goto hx hb 80 dX0_standBehind_76 (by decide)) ?_
  refine zcons (s_iconst hx hb (-1) dX0_standBehind_79 (by decide)) ?_
  refine zcons (s_iret hx hb hr hK hlk dX0_standBehind_80) ?_
  exact znil
noncomputable def tX2_costAt : List (Nat × AI) := [(0, a_iload 1 1), (1, a_push 2 (.inl 4)), (2, a_bin 3 (fun x y => x * y)), (3, a_iload 4 2), (4, a_bin 5 (fun x y => x + y)), (5, a_istore 6 3), (6, a_iload 7 2), (7, a_if_lt 10 37), (10, a_iload 11 2), (11, a_aload 12 0), (12, a_iload 13 1), (13, a_callV 16 1 2 mX2_wordsIn), (16, a_c_ge 19 37), (19, a_iload 20 3), (20, a_aload 21 0), (21, a_getR 24 2 (fun _ => 8)), (24, a_len 25), (25, a_c_ge 28 37), (28, a_aload 29 0), (29, a_getR 32 2 (fun _ => 8)), (32, a_iload 33 3), (33, a_ald 34 10), (34, a_goto 38), (37, a_push 38 (.inl (-1))), (38, a_iret)]
noncomputable def mX2_costAt : List AV → MM → Option AR := zsem tX2_costAt 4 3
def wX2_costAt : List Cond := .code yX2_costAt cX2_costAt 4 (some .int) :: lw_g
def rX2_costAt : Room := { frames := 1, cells := 0, slots := 0, locals := 21 }
set_option maxHeartbeats 4000000 in
set_option maxRecDepth 100000 in
theorem kX2_costAt (l : Launch) (X : XC) : zM l X yX2_costAt wX2_costAt rX2_costAt mX2_costAt := by
  refine zMet tX2_costAt 3 (by decide) rfl (by decide) ?_
  intro p e s m args below meth c res hC
  obtain ⟨hx, hb, hr, hts0, hown, hml, hlk, hK⟩ := hC
  have hts : ∀ w ∈ lw_g, w.before args s = true := fun w h => hts0 w (List.mem_cons_of_mem _ h)
  have hro : 0 ≤ (headSpec wX2_costAt rX2_costAt).room.cells ∧ 0 ≤ (headSpec wX2_costAt rX2_costAt).room.slots := ⟨Nat.zero_le _, Nat.zero_le _⟩
  refine zcons (s_iload_n hx hb 1 dX2_costAt_0 rfl) ?_
  refine zcons (s_iconst hx hb 4 dX2_costAt_1 (by decide)) ?_
  refine zcons (s_imul hx hb dX2_costAt_2) ?_
  refine zcons (s_iload_n hx hb 2 dX2_costAt_3 rfl) ?_
  refine zcons (s_iadd hx hb dX2_costAt_4) ?_
  refine zcons (s_istore_n hx hb 3 dX2_costAt_5 rfl) ?_
  refine zcons (s_iload_n hx hb 2 dX2_costAt_6 rfl) ?_
  refine zcons (s_if_lt hx hb 37 dX2_costAt_7 (by decide)) ?_
  refine zcons (s_iload_n hx hb 2 dX2_costAt_10 rfl) ?_
  refine zcons (s_aload_n hx hb 0 dX2_costAt_11 rfl) ?_
  refine zcons (s_iload_n hx hb 1 dX2_costAt_12 rfl) ?_
  refine zcons (s_callV (hZ := fun _ h => h) hx hb hts hml hown hK hro zcX2 (kX2_wordsIn l X) (zgoodV w413 w414 w415 w47 w416) rfl rfl rfl (by decide +kernel) ⟨Nat.le_of_ble_eq_true rfl, Nat.le_of_ble_eq_true rfl⟩ dX2_costAt_13) ?_
  refine zcons (s_c_ge hx hb 37 dX2_costAt_16 (by decide)) ?_
  refine zcons (s_iload_n hx hb 3 dX2_costAt_19 rfl) ?_
  refine zcons (s_aload_n hx hb 0 dX2_costAt_20 rfl) ?_
  refine zcons (s_getR hx hb hts hown hK zcX2 hinX2 1 (by decide) w155 rfl (fun _ => 8) (zptf (by decide) (by decide +kernel)) dX2_costAt_21) ?_
  refine zcons (s_len hx hb hK dX2_costAt_24) ?_
  refine zcons (s_c_ge hx hb 37 dX2_costAt_25 (by decide)) ?_
  refine zcons (s_aload_n hx hb 0 dX2_costAt_28 rfl) ?_
  refine zcons (s_getR hx hb hts hown hK zcX2 hinX2 1 (by decide) w155 rfl (fun _ => 8) (zptf (by decide) (by decide +kernel)) dX2_costAt_29) ?_
  refine zcons (s_iload_n hx hb 3 dX2_costAt_32 rfl) ?_
  refine zcons (s_iald hx hb hK dX2_costAt_33) ?_
  refine zcons (s_goto hx hb 38 dX2_costAt_34 (by decide)) ?_
  refine zcons (s_iconst hx hb (-1) dX2_costAt_37 (by decide)) ?_
  refine zcons (s_iret hx hb hr hK hlk dX2_costAt_38) ?_
  exact znil
noncomputable def tX0_weight : List (Nat × AI) := [(0, a_aload 1 0), (1, a_getI 4 0 2), (4, a_if_ne 7 9), (7, a_push 8 (.inl 0)), (8, a_iret), (9, a_aload 10 0), (10, a_getI 13 0 1), (13, a_push 14 (.inl 1)), (14, a_bin 15 (fun x y => x - y)), (15, a_iload 16 1), (16, a_bin 17 (fun x y => x - y)), (17, a_push 18 (.inl 2)), (18, a_rem 19), (19, a_if_ne 22 24), (22, a_iload 23 2), (23, a_iret), (24, a_iload 25 2), (25, a_push 26 (.inl 4)), (26, a_c_le 29 38), (29, a_push 30 (.inl 2)), (30, a_iload 31 2), (31, a_bin 32 (fun x y => x * y)), (32, a_push 34 (.inl 9)), (34, a_bin 35 (fun x y => x - y)), (35, a_goto 41), (38, a_push 39 (.inl 2)), (39, a_iload 40 2), (40, a_bin 41 (fun x y => x * y)), (41, a_iret)]
noncomputable def mX0_weight : List AV → MM → Option AR := zsem tX0_weight 3 3
def wX0_weight : List Cond := .code yX0_weight cX0_weight 3 (some .int) :: lw_g
def rX0_weight : Room := { frames := 0, cells := 0, slots := 0, locals := 0 }
set_option maxHeartbeats 4000000 in
set_option maxRecDepth 100000 in
theorem kX0_weight (l : Launch) (X : XC) : zM l X yX0_weight wX0_weight rX0_weight mX0_weight := by
  refine zMet tX0_weight 3 (by decide) rfl (by decide) ?_
  intro p e s m args below meth c res hC
  obtain ⟨hx, hb, hr, hts0, hown, hml, hlk, hK⟩ := hC
  have hts : ∀ w ∈ lw_g, w.before args s = true := fun w h => hts0 w (List.mem_cons_of_mem _ h)
  have hro : 0 ≤ (headSpec wX0_weight rX0_weight).room.cells ∧ 0 ≤ (headSpec wX0_weight rX0_weight).room.slots := ⟨Nat.zero_le _, Nat.zero_le _⟩
  refine zcons (s_aload_n hx hb 0 dX0_weight_0 rfl) ?_
  refine zcons (s_getI hx hb hts hown hK zcX0 hinX0 2 (by decide) w198 rfl (zptk (by decide) (by decide +kernel)) dX0_weight_1) ?_
  refine zcons (s_if_ne hx hb 9 dX0_weight_4 (by decide)) ?_
  refine zcons (s_iconst hx hb 0 dX0_weight_7 (by decide)) ?_
  refine zcons (s_iret hx hb hr hK hlk dX0_weight_8) ?_
  refine zcons (s_aload_n hx hb 0 dX0_weight_9 rfl) ?_
  refine zcons (s_getI hx hb hts hown hK zcX0 hinX0 1 (by decide) w197 rfl (zptk (by decide) (by decide +kernel)) dX0_weight_10) ?_
  refine zcons (s_iconst hx hb 1 dX0_weight_13 (by decide)) ?_
  refine zcons (s_isub hx hb dX0_weight_14) ?_
  refine zcons (s_iload_n hx hb 1 dX0_weight_15 rfl) ?_
  refine zcons (s_isub hx hb dX0_weight_16) ?_
  refine zcons (s_iconst hx hb 2 dX0_weight_17 (by decide)) ?_
  refine zcons (s_irem hx hb dX0_weight_18) ?_
  refine zcons (s_if_ne hx hb 24 dX0_weight_19 (by decide)) ?_
  refine zcons (s_iload_n hx hb 2 dX0_weight_22 rfl) ?_
  refine zcons (s_iret hx hb hr hK hlk dX0_weight_23) ?_
  refine zcons (s_iload_n hx hb 2 dX0_weight_24 rfl) ?_
  refine zcons (s_iconst hx hb 4 dX0_weight_25 (by decide)) ?_
  refine zcons (s_c_le hx hb 38 dX0_weight_26 (by decide)) ?_
  refine zcons (s_iconst hx hb 2 dX0_weight_29 (by decide)) ?_
  refine zcons (s_iload_n hx hb 2 dX0_weight_30 rfl) ?_
  refine zcons (s_imul hx hb dX0_weight_31) ?_
  refine zcons (s_bipush hx hb 9 dX0_weight_32 (by decide)) ?_
  refine zcons (s_isub hx hb dX0_weight_34) ?_
  refine zcons (s_goto hx hb 41 dX0_weight_35 (by decide)) ?_
  refine zcons (s_iconst hx hb 2 dX0_weight_38 (by decide)) ?_
  refine zcons (s_iload_n hx hb 2 dX0_weight_39 rfl) ?_
  refine zcons (s_imul hx hb dX0_weight_40) ?_
  refine zcons (s_iret hx hb hr hK hlk dX0_weight_41) ?_
  exact znil
noncomputable def tX7_cost : List (Nat × AI) := [(0, a_push 1 (.inl 2)), (1, a_iload 2 1), (2, a_bin 3 (fun x y => x * y)), (3, a_iload 4 2), (4, a_bin 5 (fun x y => x + y)), (5, a_istore 6 3), (6, a_iload 7 3), (7, a_if_lt 10 28), (10, a_iload 11 3), (11, a_aload 12 0), (12, a_getR 15 7 (fun c => c + 1)), (15, a_len 16), (16, a_c_ge 19 28), (19, a_aload 20 0), (20, a_getR 23 7 (fun c => c + 1)), (23, a_iload 24 3), (24, a_ald 25 10), (25, a_goto 30), (28, a_push 30 (.inl 1000000)), (30, a_iret)]
noncomputable def mX7_cost : List AV → MM → Option AR := zsem tX7_cost 4 3
def wX7_cost : List Cond := .code yX7_cost cX7_cost 4 (some .int) :: lw_g
def rX7_cost : Room := { frames := 0, cells := 0, slots := 0, locals := 0 }
set_option maxHeartbeats 4000000 in
set_option maxRecDepth 100000 in
theorem kX7_cost (l : Launch) (X : XC) : zM l X yX7_cost wX7_cost rX7_cost mX7_cost := by
  refine zMet tX7_cost 3 (by decide) rfl (by decide) ?_
  intro p e s m args below meth c res hC
  obtain ⟨hx, hb, hr, hts0, hown, hml, hlk, hK⟩ := hC
  have hts : ∀ w ∈ lw_g, w.before args s = true := fun w h => hts0 w (List.mem_cons_of_mem _ h)
  have hro : 0 ≤ (headSpec wX7_cost rX7_cost).room.cells ∧ 0 ≤ (headSpec wX7_cost rX7_cost).room.slots := ⟨Nat.zero_le _, Nat.zero_le _⟩
  refine zcons (s_iconst hx hb 2 dX7_cost_0 (by decide)) ?_
  refine zcons (s_iload_n hx hb 1 dX7_cost_1 rfl) ?_
  refine zcons (s_imul hx hb dX7_cost_2) ?_
  refine zcons (s_iload_n hx hb 2 dX7_cost_3 rfl) ?_
  refine zcons (s_iadd hx hb dX7_cost_4) ?_
  refine zcons (s_istore_n hx hb 3 dX7_cost_5 rfl) ?_
  refine zcons (s_iload_n hx hb 3 dX7_cost_6 rfl) ?_
  refine zcons (s_if_lt hx hb 28 dX7_cost_7 (by decide)) ?_
  refine zcons (s_iload_n hx hb 3 dX7_cost_10 rfl) ?_
  refine zcons (s_aload_n hx hb 0 dX7_cost_11 rfl) ?_
  refine zcons (s_getR hx hb hts hown hK zcX7 hinX7 0 (by decide) w181 rfl (fun c => c + 1) (zptf (by decide) (by decide +kernel)) dX7_cost_12) ?_
  refine zcons (s_len hx hb hK dX7_cost_15) ?_
  refine zcons (s_c_ge hx hb 28 dX7_cost_16 (by decide)) ?_
  refine zcons (s_aload_n hx hb 0 dX7_cost_19 rfl) ?_
  refine zcons (s_getR hx hb hts hown hK zcX7 hinX7 0 (by decide) w181 rfl (fun c => c + 1) (zptf (by decide) (by decide +kernel)) dX7_cost_20) ?_
  refine zcons (s_iload_n hx hb 3 dX7_cost_23 rfl) ?_
  refine zcons (s_iald hx hb hK dX7_cost_24) ?_
  refine zcons (s_goto hx hb 30 dX7_cost_25 (by decide)) ?_
  refine zcons (s_ldc hx hb 1000000 hown (hts _ w210) dX7_cost_28) ?_
  refine zcons (s_iret hx hb hr hK hlk dX7_cost_30) ?_
  exact znil
noncomputable def tX7_key : List (Nat × AI) := [(0, a_push 1 (.inl 2)), (1, a_iload 2 1), (2, a_bin 3 (fun x y => x * y)), (3, a_iload 4 2), (4, a_bin 5 (fun x y => x + y)), (5, a_istore 6 3), (6, a_iload 7 3), (7, a_if_lt 10 28), (10, a_iload 11 3), (11, a_aload 12 0), (12, a_getR 15 7 (fun c => c + 2)), (15, a_len 16), (16, a_c_ge 19 28), (19, a_aload 20 0), (20, a_getR 23 7 (fun c => c + 2)), (23, a_iload 24 3), (24, a_ald 25 10), (25, a_goto 29), (28, a_push 29 (.inl (-1))), (29, a_iret)]
noncomputable def mX7_key : List AV → MM → Option AR := zsem tX7_key 4 3
def wX7_key : List Cond := .code yX7_key cX7_key 4 (some .int) :: lw_g
def rX7_key : Room := { frames := 0, cells := 0, slots := 0, locals := 0 }
set_option maxHeartbeats 4000000 in
set_option maxRecDepth 100000 in
theorem kX7_key (l : Launch) (X : XC) : zM l X yX7_key wX7_key rX7_key mX7_key := by
  refine zMet tX7_key 3 (by decide) rfl (by decide) ?_
  intro p e s m args below meth c res hC
  obtain ⟨hx, hb, hr, hts0, hown, hml, hlk, hK⟩ := hC
  have hts : ∀ w ∈ lw_g, w.before args s = true := fun w h => hts0 w (List.mem_cons_of_mem _ h)
  have hro : 0 ≤ (headSpec wX7_key rX7_key).room.cells ∧ 0 ≤ (headSpec wX7_key rX7_key).room.slots := ⟨Nat.zero_le _, Nat.zero_le _⟩
  refine zcons (s_iconst hx hb 2 dX7_key_0 (by decide)) ?_
  refine zcons (s_iload_n hx hb 1 dX7_key_1 rfl) ?_
  refine zcons (s_imul hx hb dX7_key_2) ?_
  refine zcons (s_iload_n hx hb 2 dX7_key_3 rfl) ?_
  refine zcons (s_iadd hx hb dX7_key_4) ?_
  refine zcons (s_istore_n hx hb 3 dX7_key_5 rfl) ?_
  refine zcons (s_iload_n hx hb 3 dX7_key_6 rfl) ?_
  refine zcons (s_if_lt hx hb 28 dX7_key_7 (by decide)) ?_
  refine zcons (s_iload_n hx hb 3 dX7_key_10 rfl) ?_
  refine zcons (s_aload_n hx hb 0 dX7_key_11 rfl) ?_
  refine zcons (s_getR hx hb hts hown hK zcX7 hinX7 1 (by decide) w182 rfl (fun c => c + 2) (zptf (by decide) (by decide +kernel)) dX7_key_12) ?_
  refine zcons (s_len hx hb hK dX7_key_15) ?_
  refine zcons (s_c_ge hx hb 28 dX7_key_16 (by decide)) ?_
  refine zcons (s_aload_n hx hb 0 dX7_key_19 rfl) ?_
  refine zcons (s_getR hx hb hts hown hK zcX7 hinX7 1 (by decide) w182 rfl (fun c => c + 2) (zptf (by decide) (by decide +kernel)) dX7_key_20) ?_
  refine zcons (s_iload_n hx hb 3 dX7_key_23 rfl) ?_
  refine zcons (s_iald hx hb hK dX7_key_24) ?_
  refine zcons (s_goto hx hb 29 dX7_key_25 (by decide)) ?_
  refine zcons (s_iconst hx hb (-1) dX7_key_28 (by decide)) ?_
  refine zcons (s_iret hx hb hr hK hlk dX7_key_29) ?_
  exact znil
noncomputable def tX0_grow : List (Nat × AI) := [(0, a_push 1 (.inl 0)), (1, a_istore 3 5), (3, a_push 4 (.inl 1)), (4, a_istore 6 6), (6, a_push 7 (.inl 0)), (7, a_istore 9 7), (9, a_iload 10 1), (10, a_push 11 (.inl 2)), (11, a_div 12), (12, a_istore 14 8), (14, a_iload 16 8), (16, a_iload 17 2), (17, a_push 18 (.inl 2)), (18, a_div 19), (19, a_c_ge 22 56), (22, a_iload 24 5), (24, a_aload 25 0), (25, a_iload 27 8), (27, a_iload 28 3), (28, a_callV 31 2 0 mX0_weight), (31, a_bin 32 (fun x y => x + y)), (32, a_istore 34 5), (34, a_iload 36 6), (36, a_push 38 (.inl 10)), (38, a_bin 39 (fun x y => x * y)), (39, a_istore 41 6), (41, a_push 43 (.inl 10)), (43, a_iload 45 7), (45, a_bin 46 (fun x y => x * y)), (46, a_iload 47 3), (47, a_bin 48 (fun x y => x + y)), (48, a_istore 50 7), (50, a_iinc 53 8 1), (53, a_goto 14), (56, a_aload 57 0), (57, a_getI 60 0 2), (60, a_if_eq 63 68), (63, a_push 65 (.inl 10)), (65, a_goto 69), (68, a_push 69 (.inl 1)), (69, a_istore 71 8), (71, a_push 72 (.inl 0)), (72, a_istore 74 9), (74, a_iload 76 9), (76, a_iload 78 8), (78, a_c_ge 81 178), (81, a_push 82 (.inl 0)), (82, a_istore 84 10), (84, a_iload 86 10), (86, a_push 87 (.inl 2)), (87, a_c_ge 90 172), (90, a_aload 91 0), (91, a_getR 94 0 (fun _ => 15)), (94, a_iload 95 1), (95, a_push 97 (.inl 10)), (97, a_bin 98 (fun x y => x * y)), (98, a_iload 100 9), (100, a_bin 101 (fun x y => x + y)), (101, a_iload 103 10), (103, a_callV 106 2 7 mX7_cost), (106, a_istore 108 11), (108, a_iload 110 11), (110, a_push 112 (.inl 1000000)), (112, a_c_ge 115 166), (115, a_aload 116 0), (116, a_getR 119 0 (fun _ => 15)), (119, a_iload 120 1), (120, a_push 122 (.inl 10)), (122, a_bin 123 (fun x y => x * y)), (123, a_iload 125 9), (125, a_bin 126 (fun x y => x + y)), (126, a_iload 128 10), (128, a_callV 131 2 7 mX7_key), (131, a_iload 133 6), (133, a_bin 134 (fun x y => x * y)), (134, a_iload 136 7), (136, a_bin 137 (fun x y => x + y)), (137, a_istore 139 12), (139, a_aload 140 0), (140, a_getR 143 0 (fun _ => 15)), (143, a_iload 144 2), (144, a_push 146 (.inl 10)), (146, a_bin 147 (fun x y => x * y)), (147, a_iload 149 9), (149, a_iload 151 5), (151, a_bin 152 (fun x y => x + y)), (152, a_push 154 (.inl 10)), (154, a_rem 155), (155, a_bin 156 (fun x y => x + y)), (156, a_iload 158 11), (158, a_iload 160 4), (160, a_bin 161 (fun x y => x + y)), (161, a_iload 163 12), (163, a_callV 166 3 7 mX7_offer), (166, a_iinc 169 10 1), (169, a_goto 84), (172, a_iinc 175 9 1), (175, a_goto 74), (178, a_vret)]
noncomputable def mX0_grow : List AV → MM → Option AR := zsem tX0_grow 13 5
def wX0_grow : List Cond := .code yX0_grow cX0_grow 13 none :: lw_g
def rX0_grow : Room := { frames := 2, cells := 0, slots := 0, locals := 46 }
set_option maxHeartbeats 4000000 in
set_option maxRecDepth 100000 in
theorem kX0_grow (l : Launch) (X : XC) : zM l X yX0_grow wX0_grow rX0_grow mX0_grow := by
  refine zMet tX0_grow 5 (by decide) rfl (by decide) ?_
  intro p e s m args below meth c res hC
  obtain ⟨hx, hb, hr, hts0, hown, hml, hlk, hK⟩ := hC
  have hts : ∀ w ∈ lw_g, w.before args s = true := fun w h => hts0 w (List.mem_cons_of_mem _ h)
  have hro : 0 ≤ (headSpec wX0_grow rX0_grow).room.cells ∧ 0 ≤ (headSpec wX0_grow rX0_grow).room.slots := ⟨Nat.zero_le _, Nat.zero_le _⟩
  refine zcons (s_iconst hx hb 0 dX0_grow_0 (by decide)) ?_
  refine zcons (s_istore hx hb dX0_grow_1) ?_
  refine zcons (s_iconst hx hb 1 dX0_grow_3 (by decide)) ?_
  refine zcons (s_istore hx hb dX0_grow_4) ?_
  refine zcons (s_iconst hx hb 0 dX0_grow_6 (by decide)) ?_
  refine zcons (s_istore hx hb dX0_grow_7) ?_
  refine zcons (s_iload_n hx hb 1 dX0_grow_9 rfl) ?_
  refine zcons (s_iconst hx hb 2 dX0_grow_10 (by decide)) ?_
  refine zcons (s_idiv hx hb dX0_grow_11) ?_
  refine zcons (s_istore hx hb dX0_grow_12) ?_
  refine zcons (s_iload hx hb dX0_grow_14) ?_
  refine zcons (s_iload_n hx hb 2 dX0_grow_16 rfl) ?_
  refine zcons (s_iconst hx hb 2 dX0_grow_17 (by decide)) ?_
  refine zcons (s_idiv hx hb dX0_grow_18) ?_
  refine zcons (s_c_ge hx hb 56 dX0_grow_19 (by decide)) ?_
  refine zcons (s_iload hx hb dX0_grow_22) ?_
  refine zcons (s_aload_n hx hb 0 dX0_grow_24 rfl) ?_
  refine zcons (s_iload hx hb dX0_grow_25) ?_
  refine zcons (s_iload_n hx hb 3 dX0_grow_27 rfl) ?_
  refine zcons (s_callV (hZ := fun _ h => h) hx hb hts hml hown hK hro zcX0 (kX0_weight l X) (zgoodV w482 w484 w7 w50 w485) rfl rfl rfl (by decide +kernel) ⟨Nat.le_of_ble_eq_true rfl, Nat.le_of_ble_eq_true rfl⟩ dX0_grow_28) ?_
  refine zcons (s_iadd hx hb dX0_grow_31) ?_
  refine zcons (s_istore hx hb dX0_grow_32) ?_
  refine zcons (s_iload hx hb dX0_grow_34) ?_
  refine zcons (s_bipush hx hb 10 dX0_grow_36 (by decide)) ?_
  refine zcons (s_imul hx hb dX0_grow_38) ?_
  refine zcons (s_istore hx hb dX0_grow_39) ?_
  refine zcons (s_bipush hx hb 10 dX0_grow_41 (by decide)) ?_
  refine zcons (s_iload hx hb dX0_grow_43) ?_
  refine zcons (s_imul hx hb dX0_grow_45) ?_
  refine zcons (s_iload_n hx hb 3 dX0_grow_46 rfl) ?_
  refine zcons (s_iadd hx hb dX0_grow_47) ?_
  refine zcons (s_istore hx hb dX0_grow_48) ?_
  refine zcons (s_iinc hx hb 1 dX0_grow_50 (by decide)) ?_
  refine zcons (s_goto hx hb 14 dX0_grow_53 (by decide)) ?_
  refine zcons (s_aload_n hx hb 0 dX0_grow_56 rfl) ?_
  refine zcons (s_getI hx hb hts hown hK zcX0 hinX0 2 (by decide) w198 rfl (zptk (by decide) (by decide +kernel)) dX0_grow_57) ?_
  refine zcons (s_if_eq hx hb 68 dX0_grow_60 (by decide)) ?_
  refine zcons (s_bipush hx hb 10 dX0_grow_63 (by decide)) ?_
  refine zcons (s_goto hx hb 69 dX0_grow_65 (by decide)) ?_
  refine zcons (s_iconst hx hb 1 dX0_grow_68 (by decide)) ?_
  refine zcons (s_istore hx hb dX0_grow_69) ?_
  refine zcons (s_iconst hx hb 0 dX0_grow_71 (by decide)) ?_
  refine zcons (s_istore hx hb dX0_grow_72) ?_
  refine zcons (s_iload hx hb dX0_grow_74) ?_
  refine zcons (s_iload hx hb dX0_grow_76) ?_
  refine zcons (s_c_ge hx hb 178 dX0_grow_78 (by decide)) ?_
  refine zcons (s_iconst hx hb 0 dX0_grow_81 (by decide)) ?_
  refine zcons (s_istore hx hb dX0_grow_82) ?_
  refine zcons (s_iload hx hb dX0_grow_84) ?_
  refine zcons (s_iconst hx hb 2 dX0_grow_86 (by decide)) ?_
  refine zcons (s_c_ge hx hb 172 dX0_grow_87 (by decide)) ?_
  refine zcons (s_aload_n hx hb 0 dX0_grow_90 rfl) ?_
  refine zcons (s_getR hx hb hts hown hK zcX0 hinX0 0 (by decide) w196 rfl (fun _ => 15) (zptf (by decide) (by decide +kernel)) dX0_grow_91) ?_
  refine zcons (s_iload_n hx hb 1 dX0_grow_94 rfl) ?_
  refine zcons (s_bipush hx hb 10 dX0_grow_95 (by decide)) ?_
  refine zcons (s_imul hx hb dX0_grow_97) ?_
  refine zcons (s_iload hx hb dX0_grow_98) ?_
  refine zcons (s_iadd hx hb dX0_grow_100) ?_
  refine zcons (s_iload hx hb dX0_grow_101) ?_
  refine zcons (s_callV (hZ := fun _ h => h) hx hb hts hml hown hK hro zcX7 (kX7_cost l X) (zgoodV w486 w487 w488 w49 w489) rfl rfl rfl (by decide +kernel) ⟨Nat.le_of_ble_eq_true rfl, Nat.le_of_ble_eq_true rfl⟩ dX0_grow_103) ?_
  refine zcons (s_istore hx hb dX0_grow_106) ?_
  refine zcons (s_iload hx hb dX0_grow_108) ?_
  refine zcons (s_ldc hx hb 1000000 hown (hts _ w490) dX0_grow_110) ?_
  refine zcons (s_c_ge hx hb 166 dX0_grow_112 (by decide)) ?_
  refine zcons (s_aload_n hx hb 0 dX0_grow_115 rfl) ?_
  refine zcons (s_getR hx hb hts hown hK zcX0 hinX0 0 (by decide) w196 rfl (fun _ => 15) (zptf (by decide) (by decide +kernel)) dX0_grow_116) ?_
  refine zcons (s_iload_n hx hb 1 dX0_grow_119 rfl) ?_
  refine zcons (s_bipush hx hb 10 dX0_grow_120 (by decide)) ?_
  refine zcons (s_imul hx hb dX0_grow_122) ?_
  refine zcons (s_iload hx hb dX0_grow_123) ?_
  refine zcons (s_iadd hx hb dX0_grow_125) ?_
  refine zcons (s_iload hx hb dX0_grow_126) ?_
  refine zcons (s_callV (hZ := fun _ h => h) hx hb hts hml hown hK hro zcX7 (kX7_key l X) (zgoodV w491 w492 w493 w49 w494) rfl rfl rfl (by decide +kernel) ⟨Nat.le_of_ble_eq_true rfl, Nat.le_of_ble_eq_true rfl⟩ dX0_grow_128) ?_
  refine zcons (s_iload hx hb dX0_grow_131) ?_
  refine zcons (s_imul hx hb dX0_grow_133) ?_
  refine zcons (s_iload hx hb dX0_grow_134) ?_
  refine zcons (s_iadd hx hb dX0_grow_136) ?_
  refine zcons (s_istore hx hb dX0_grow_137) ?_
  refine zcons (s_aload_n hx hb 0 dX0_grow_139 rfl) ?_
  refine zcons (s_getR hx hb hts hown hK zcX0 hinX0 0 (by decide) w196 rfl (fun _ => 15) (zptf (by decide) (by decide +kernel)) dX0_grow_140) ?_
  refine zcons (s_iload_n hx hb 2 dX0_grow_143 rfl) ?_
  refine zcons (s_bipush hx hb 10 dX0_grow_144 (by decide)) ?_
  refine zcons (s_imul hx hb dX0_grow_146) ?_
  refine zcons (s_iload hx hb dX0_grow_147) ?_
  refine zcons (s_iload hx hb dX0_grow_149) ?_
  refine zcons (s_iadd hx hb dX0_grow_151) ?_
  refine zcons (s_bipush hx hb 10 dX0_grow_152 (by decide)) ?_
  refine zcons (s_irem hx hb dX0_grow_154) ?_
  refine zcons (s_iadd hx hb dX0_grow_155) ?_
  refine zcons (s_iload hx hb dX0_grow_156) ?_
  refine zcons (s_iload hx hb dX0_grow_158) ?_
  refine zcons (s_iadd hx hb dX0_grow_160) ?_
  refine zcons (s_iload hx hb dX0_grow_161) ?_
  refine zcons (s_callV (hZ := fun _ h => h) hx hb hts hml hown hK hro zcX7 (kX7_offer l X) (zgoodV w459 w460 w461 w49 w462) rfl rfl rfl (by decide +kernel) ⟨Nat.le_of_ble_eq_true rfl, Nat.le_of_ble_eq_true rfl⟩ dX0_grow_163) ?_
  refine zcons (s_iinc hx hb 1 dX0_grow_166 (by decide)) ?_
  refine zcons (s_goto hx hb 84 dX0_grow_169 (by decide)) ?_
  refine zcons (s_iinc hx hb 1 dX0_grow_172 (by decide)) ?_
  refine zcons (s_goto hx hb 74 dX0_grow_175 (by decide)) ?_
  refine zcons (s_vret hx hb hr hK hlk dX0_grow_178) ?_
  exact znil
noncomputable def tX0_hearPlace : List (Nat × AI) := [(0, a_push 1 (.inl 2)), (1, a_aload 2 0), (2, a_getI 5 0 1), (5, a_bin 6 (fun x y => x * y)), (6, a_push 7 (.inl 1)), (7, a_bin 8 (fun x y => x - y)), (8, a_istore 10 4), (10, a_iload 12 4), (12, a_if_lt 15 84), (15, a_push 16 (.inl 0)), (16, a_istore 18 5), (18, a_iload 20 5), (20, a_aload 21 1), (21, a_iload 22 2), (22, a_callV 25 1 2 mX2_wordsIn), (25, a_c_ge 28 78), (28, a_aload 29 1), (29, a_iload 30 2), (30, a_iload 32 5), (32, a_callV 35 2 2 mX2_wordAt), (35, a_istore 37 6), (37, a_aload 38 0), (38, a_iload 40 4), (40, a_iload 42 6), (42, a_callV 45 2 0 mX0_standBehind), (45, a_istore 47 7), (47, a_iload 49 7), (49, a_push 50 (.inl (-1))), (50, a_c_eq 53 72), (53, a_aload 54 0), (54, a_iload 56 4), (56, a_iload 58 7), (58, a_iload 60 6), (60, a_aload 61 1), (61, a_iload 62 2), (62, a_iload 64 5), (64, a_callV 67 2 2 mX2_costAt), (67, a_iload 68 3), (68, a_bin 69 (fun x y => x - y)), (69, a_callV 72 4 0 mX0_grow), (72, a_iinc 75 5 1), (75, a_goto 18), (78, a_iinc 81 4 (-1)), (81, a_goto 10), (84, a_vret)]
noncomputable def mX0_hearPlace : List AV → MM → Option AR := zsem tX0_hearPlace 8 4
def wX0_hearPlace : List Cond := .code yX0_hearPlace cX0_hearPlace 8 none :: lw_g
def rX0_hearPlace : Room := { frames := 3, cells := 0, slots := 0, locals := 78 }
set_option maxHeartbeats 4000000 in
set_option maxRecDepth 100000 in
theorem kX0_hearPlace (l : Launch) (X : XC) : zM l X yX0_hearPlace wX0_hearPlace rX0_hearPlace mX0_hearPlace := by
  refine zMet tX0_hearPlace 4 (by decide) rfl (by decide) ?_
  intro p e s m args below meth c res hC
  obtain ⟨hx, hb, hr, hts0, hown, hml, hlk, hK⟩ := hC
  have hts : ∀ w ∈ lw_g, w.before args s = true := fun w h => hts0 w (List.mem_cons_of_mem _ h)
  have hro : 0 ≤ (headSpec wX0_hearPlace rX0_hearPlace).room.cells ∧ 0 ≤ (headSpec wX0_hearPlace rX0_hearPlace).room.slots := ⟨Nat.zero_le _, Nat.zero_le _⟩
  refine zcons (s_iconst hx hb 2 dX0_hearPlace_0 (by decide)) ?_
  refine zcons (s_aload_n hx hb 0 dX0_hearPlace_1 rfl) ?_
  refine zcons (s_getI hx hb hts hown hK zcX0 hinX0 1 (by decide) w197 rfl (zptk (by decide) (by decide +kernel)) dX0_hearPlace_2) ?_
  refine zcons (s_imul hx hb dX0_hearPlace_5) ?_
  refine zcons (s_iconst hx hb 1 dX0_hearPlace_6 (by decide)) ?_
  refine zcons (s_isub hx hb dX0_hearPlace_7) ?_
  refine zcons (s_istore hx hb dX0_hearPlace_8) ?_
  refine zcons (s_iload hx hb dX0_hearPlace_10) ?_
  refine zcons (s_if_lt hx hb 84 dX0_hearPlace_12 (by decide)) ?_
  refine zcons (s_iconst hx hb 0 dX0_hearPlace_15 (by decide)) ?_
  refine zcons (s_istore hx hb dX0_hearPlace_16) ?_
  refine zcons (s_iload hx hb dX0_hearPlace_18) ?_
  refine zcons (s_aload_n hx hb 1 dX0_hearPlace_20 rfl) ?_
  refine zcons (s_iload_n hx hb 2 dX0_hearPlace_21 rfl) ?_
  refine zcons (s_callV (hZ := fun _ h => h) hx hb hts hml hown hK hro zcX2 (kX2_wordsIn l X) (zgoodV w470 w414 w415 w47 w416) rfl rfl rfl (by decide +kernel) ⟨Nat.le_of_ble_eq_true rfl, Nat.le_of_ble_eq_true rfl⟩ dX0_hearPlace_22) ?_
  refine zcons (s_c_ge hx hb 78 dX0_hearPlace_25 (by decide)) ?_
  refine zcons (s_aload_n hx hb 1 dX0_hearPlace_28 rfl) ?_
  refine zcons (s_iload_n hx hb 2 dX0_hearPlace_29 rfl) ?_
  refine zcons (s_iload hx hb dX0_hearPlace_30) ?_
  refine zcons (s_callV (hZ := fun _ h => h) hx hb hts hml hown hK hro zcX2 (kX2_wordAt l X) (zgoodV w471 w418 w419 w47 w420) rfl rfl rfl (by decide +kernel) ⟨Nat.le_of_ble_eq_true rfl, Nat.le_of_ble_eq_true rfl⟩ dX0_hearPlace_32) ?_
  refine zcons (s_istore hx hb dX0_hearPlace_35) ?_
  refine zcons (s_aload_n hx hb 0 dX0_hearPlace_37 rfl) ?_
  refine zcons (s_iload hx hb dX0_hearPlace_38) ?_
  refine zcons (s_iload hx hb dX0_hearPlace_40) ?_
  refine zcons (s_callV (hZ := fun _ h => h) hx hb hts hml hown hK hro zcX0 (kX0_standBehind l X) (zgoodV w472 w474 w5 w50 w475) rfl rfl rfl (by decide +kernel) ⟨Nat.le_of_ble_eq_true rfl, Nat.le_of_ble_eq_true rfl⟩ dX0_hearPlace_42) ?_
  refine zcons (s_istore hx hb dX0_hearPlace_45) ?_
  refine zcons (s_iload hx hb dX0_hearPlace_47) ?_
  refine zcons (s_iconst hx hb (-1) dX0_hearPlace_49 (by decide)) ?_
  refine zcons (s_c_eq hx hb 72 dX0_hearPlace_50 (by decide)) ?_
  refine zcons (s_aload_n hx hb 0 dX0_hearPlace_53 rfl) ?_
  refine zcons (s_iload hx hb dX0_hearPlace_54) ?_
  refine zcons (s_iload hx hb dX0_hearPlace_56) ?_
  refine zcons (s_iload hx hb dX0_hearPlace_58) ?_
  refine zcons (s_aload_n hx hb 1 dX0_hearPlace_60 rfl) ?_
  refine zcons (s_iload_n hx hb 2 dX0_hearPlace_61 rfl) ?_
  refine zcons (s_iload hx hb dX0_hearPlace_62) ?_
  refine zcons (s_callV (hZ := fun _ h => h) hx hb hts hml hown hK hro zcX2 (kX2_costAt l X) (zgoodV w477 w422 w423 w47 w424) rfl rfl rfl (by decide +kernel) ⟨Nat.le_of_ble_eq_true rfl, Nat.le_of_ble_eq_true rfl⟩ dX0_hearPlace_64) ?_
  refine zcons (s_iload_n hx hb 3 dX0_hearPlace_67 rfl) ?_
  refine zcons (s_isub hx hb dX0_hearPlace_68) ?_
  refine zcons (s_callV (hZ := fun _ h => h) hx hb hts hml hown hK hro zcX0 (kX0_grow l X) (zgoodV w478 w480 w6 w50 w481) rfl rfl rfl (by decide +kernel) ⟨Nat.le_of_ble_eq_true rfl, Nat.le_of_ble_eq_true rfl⟩ dX0_hearPlace_69) ?_
  refine zcons (s_iinc hx hb 1 dX0_hearPlace_72 (by decide)) ?_
  refine zcons (s_goto hx hb 18 dX0_hearPlace_75 (by decide)) ?_
  refine zcons (s_iinc hx hb (-1) dX0_hearPlace_78 (by decide)) ?_
  refine zcons (s_goto hx hb 10 dX0_hearPlace_81 (by decide)) ?_
  refine zcons (s_vret hx hb hr hK hlk dX0_hearPlace_84) ?_
  exact znil
noncomputable def tX0_cost : List (Nat × AI) := [(0, a_aload 1 0), (1, a_getR 4 0 (fun _ => 15)), (4, a_push 5 (.inl 2)), (5, a_aload 6 0), (6, a_getI 9 0 1), (9, a_bin 10 (fun x y => x * y)), (10, a_push 12 (.inl 10)), (12, a_bin 13 (fun x y => x * y)), (13, a_iload 14 1), (14, a_callV 17 2 7 mX7_cost), (17, a_iret)]
noncomputable def mX0_cost : List AV → MM → Option AR := zsem tX0_cost 2 2
def wX0_cost : List Cond := .code yX0_cost cX0_cost 2 (some .int) :: lw_g
def rX0_cost : Room := { frames := 1, cells := 0, slots := 0, locals := 23 }
set_option maxHeartbeats 4000000 in
set_option maxRecDepth 100000 in
theorem kX0_cost (l : Launch) (X : XC) : zM l X yX0_cost wX0_cost rX0_cost mX0_cost := by
  refine zMet tX0_cost 2 (by decide) rfl (by decide) ?_
  intro p e s m args below meth c res hC
  obtain ⟨hx, hb, hr, hts0, hown, hml, hlk, hK⟩ := hC
  have hts : ∀ w ∈ lw_g, w.before args s = true := fun w h => hts0 w (List.mem_cons_of_mem _ h)
  have hro : 0 ≤ (headSpec wX0_cost rX0_cost).room.cells ∧ 0 ≤ (headSpec wX0_cost rX0_cost).room.slots := ⟨Nat.zero_le _, Nat.zero_le _⟩
  refine zcons (s_aload_n hx hb 0 dX0_cost_0 rfl) ?_
  refine zcons (s_getR hx hb hts hown hK zcX0 hinX0 0 (by decide) w196 rfl (fun _ => 15) (zptf (by decide) (by decide +kernel)) dX0_cost_1) ?_
  refine zcons (s_iconst hx hb 2 dX0_cost_4 (by decide)) ?_
  refine zcons (s_aload_n hx hb 0 dX0_cost_5 rfl) ?_
  refine zcons (s_getI hx hb hts hown hK zcX0 hinX0 1 (by decide) w197 rfl (zptk (by decide) (by decide +kernel)) dX0_cost_6) ?_
  refine zcons (s_imul hx hb dX0_cost_9) ?_
  refine zcons (s_bipush hx hb 10 dX0_cost_10 (by decide)) ?_
  refine zcons (s_imul hx hb dX0_cost_12) ?_
  refine zcons (s_iload_n hx hb 1 dX0_cost_13 rfl) ?_
  refine zcons (s_callV (hZ := fun _ h => h) hx hb hts hml hown hK hro zcX7 (kX7_cost l X) (zgoodV w486 w487 w488 w49 w489) rfl rfl rfl (by decide +kernel) ⟨Nat.le_of_ble_eq_true rfl, Nat.le_of_ble_eq_true rfl⟩ dX0_cost_14) ?_
  refine zcons (s_iret hx hb hr hK hlk dX0_cost_17) ?_
  exact znil
noncomputable def tX0_value : List (Nat × AI) := [(0, a_aload 1 0), (1, a_getR 4 0 (fun _ => 15)), (4, a_push 5 (.inl 2)), (5, a_aload 6 0), (6, a_getI 9 0 1), (9, a_bin 10 (fun x y => x * y)), (10, a_push 12 (.inl 10)), (12, a_bin 13 (fun x y => x * y)), (13, a_iload 14 1), (14, a_callV 17 2 7 mX7_key), (17, a_iret)]
noncomputable def mX0_value : List AV → MM → Option AR := zsem tX0_value 2 2
def wX0_value : List Cond := .code yX0_value cX0_value 2 (some .int) :: lw_g
def rX0_value : Room := { frames := 1, cells := 0, slots := 0, locals := 23 }
set_option maxHeartbeats 4000000 in
set_option maxRecDepth 100000 in
theorem kX0_value (l : Launch) (X : XC) : zM l X yX0_value wX0_value rX0_value mX0_value := by
  refine zMet tX0_value 2 (by decide) rfl (by decide) ?_
  intro p e s m args below meth c res hC
  obtain ⟨hx, hb, hr, hts0, hown, hml, hlk, hK⟩ := hC
  have hts : ∀ w ∈ lw_g, w.before args s = true := fun w h => hts0 w (List.mem_cons_of_mem _ h)
  have hro : 0 ≤ (headSpec wX0_value rX0_value).room.cells ∧ 0 ≤ (headSpec wX0_value rX0_value).room.slots := ⟨Nat.zero_le _, Nat.zero_le _⟩
  refine zcons (s_aload_n hx hb 0 dX0_value_0 rfl) ?_
  refine zcons (s_getR hx hb hts hown hK zcX0 hinX0 0 (by decide) w196 rfl (fun _ => 15) (zptf (by decide) (by decide +kernel)) dX0_value_1) ?_
  refine zcons (s_iconst hx hb 2 dX0_value_4 (by decide)) ?_
  refine zcons (s_aload_n hx hb 0 dX0_value_5 rfl) ?_
  refine zcons (s_getI hx hb hts hown hK zcX0 hinX0 1 (by decide) w197 rfl (zptk (by decide) (by decide +kernel)) dX0_value_6) ?_
  refine zcons (s_imul hx hb dX0_value_9) ?_
  refine zcons (s_bipush hx hb 10 dX0_value_10 (by decide)) ?_
  refine zcons (s_imul hx hb dX0_value_12) ?_
  refine zcons (s_iload_n hx hb 1 dX0_value_13 rfl) ?_
  refine zcons (s_callV (hZ := fun _ h => h) hx hb hts hml hown hK hro zcX7 (kX7_key l X) (zgoodV w491 w492 w493 w49 w494) rfl rfl rfl (by decide +kernel) ⟨Nat.le_of_ble_eq_true rfl, Nat.le_of_ble_eq_true rfl⟩ dX0_value_14) ?_
  refine zcons (s_iret hx hb hr hK hlk dX0_value_17) ?_
  exact znil
noncomputable def tX1_slotAt : List (Nat × AI) := [(0, a_iload 1 1), (1, a_if_lt 4 30), (4, a_iload 5 1), (5, a_aload 6 0), (6, a_getI 9 1 1), (9, a_c_ge 12 30), (12, a_iload 13 1), (13, a_aload 14 0), (14, a_getR 17 1 (fun _ => 6)), (17, a_len 18), (18, a_c_ge 21 30), (21, a_aload 22 0), (22, a_getR 25 1 (fun _ => 6)), (25, a_iload 26 1), (26, a_aald 27), (27, a_goto 31), (30, a_push 31 (.inr none)), (31, a_aret)]
noncomputable def mX1_slotAt : List AV → MM → Option AR := zsem tX1_slotAt 2 2
def wX1_slotAt : List Cond := .code yX1_slotAt cX1_slotAt 2 (some (.object "VoiceForm$Slot")) :: lw_g
def rX1_slotAt : Room := { frames := 0, cells := 0, slots := 0, locals := 0 }
set_option maxHeartbeats 4000000 in
set_option maxRecDepth 100000 in
theorem kX1_slotAt (l : Launch) (X : XC) : zM l X yX1_slotAt wX1_slotAt rX1_slotAt mX1_slotAt := by
  refine zMet tX1_slotAt 2 (by decide) rfl (by decide) ?_
  intro p e s m args below meth c res hC
  obtain ⟨hx, hb, hr, hts0, hown, hml, hlk, hK⟩ := hC
  have hts : ∀ w ∈ lw_g, w.before args s = true := fun w h => hts0 w (List.mem_cons_of_mem _ h)
  have hro : 0 ≤ (headSpec wX1_slotAt rX1_slotAt).room.cells ∧ 0 ≤ (headSpec wX1_slotAt rX1_slotAt).room.slots := ⟨Nat.zero_le _, Nat.zero_le _⟩
  refine zcons (s_iload_n hx hb 1 dX1_slotAt_0 rfl) ?_
  refine zcons (s_if_lt hx hb 30 dX1_slotAt_1 (by decide)) ?_
  refine zcons (s_iload_n hx hb 1 dX1_slotAt_4 rfl) ?_
  refine zcons (s_aload_n hx hb 0 dX1_slotAt_5 rfl) ?_
  refine zcons (s_getI hx hb hts hown hK zcX1 hinX1 1 (by decide) w141 rfl (zptk (by decide) (by decide +kernel)) dX1_slotAt_6) ?_
  refine zcons (s_c_ge hx hb 30 dX1_slotAt_9 (by decide)) ?_
  refine zcons (s_iload_n hx hb 1 dX1_slotAt_12 rfl) ?_
  refine zcons (s_aload_n hx hb 0 dX1_slotAt_13 rfl) ?_
  refine zcons (s_getR hx hb hts hown hK zcX1 hinX1 0 (by decide) w140 rfl (fun _ => 6) (zptf (by decide) (by decide +kernel)) dX1_slotAt_14) ?_
  refine zcons (s_len hx hb hK dX1_slotAt_17) ?_
  refine zcons (s_c_ge hx hb 30 dX1_slotAt_18 (by decide)) ?_
  refine zcons (s_aload_n hx hb 0 dX1_slotAt_21 rfl) ?_
  refine zcons (s_getR hx hb hts hown hK zcX1 hinX1 0 (by decide) w140 rfl (fun _ => 6) (zptf (by decide) (by decide +kernel)) dX1_slotAt_22) ?_
  refine zcons (s_iload_n hx hb 1 dX1_slotAt_25 rfl) ?_
  refine zcons (s_aald hx hb hK dX1_slotAt_26) ?_
  refine zcons (s_goto hx hb 31 dX1_slotAt_27 (by decide)) ?_
  refine zcons (s_anull hx hb dX1_slotAt_30) ?_
  refine zcons (s_aret hx hb hr hK hlk dX1_slotAt_31) ?_
  exact znil
noncomputable def tX1_numberOf : List (Nat × AI) := [(0, a_push 1 (.inl 0)), (1, a_istore 2 2), (2, a_iload 3 2), (3, a_aload 4 0), (4, a_getI 7 1 1), (7, a_c_ge 10 40), (10, a_iload 11 2), (11, a_aload 12 0), (12, a_getR 15 1 (fun _ => 6)), (15, a_len 16), (16, a_c_ge 19 40), (19, a_aload 20 0), (20, a_getR 23 1 (fun _ => 6)), (23, a_iload 24 2), (24, a_aald 25), (25, a_getI 28 5 0), (28, a_iload 29 1), (29, a_c_ne 32 34), (32, a_iload 33 2), (33, a_iret), (34, a_iinc 37 2 1), (37, a_goto 2), (40, a_push 41 (.inl (-1))), (41, a_iret)]
noncomputable def mX1_numberOf : List AV → MM → Option AR := zsem tX1_numberOf 3 2
def wX1_numberOf : List Cond := .code yX1_numberOf cX1_numberOf 3 (some .int) :: lw_g
def rX1_numberOf : Room := { frames := 0, cells := 0, slots := 0, locals := 0 }
set_option maxHeartbeats 4000000 in
set_option maxRecDepth 100000 in
theorem kX1_numberOf (l : Launch) (X : XC) : zM l X yX1_numberOf wX1_numberOf rX1_numberOf mX1_numberOf := by
  refine zMet tX1_numberOf 2 (by decide) rfl (by decide) ?_
  intro p e s m args below meth c res hC
  obtain ⟨hx, hb, hr, hts0, hown, hml, hlk, hK⟩ := hC
  have hts : ∀ w ∈ lw_g, w.before args s = true := fun w h => hts0 w (List.mem_cons_of_mem _ h)
  have hro : 0 ≤ (headSpec wX1_numberOf rX1_numberOf).room.cells ∧ 0 ≤ (headSpec wX1_numberOf rX1_numberOf).room.slots := ⟨Nat.zero_le _, Nat.zero_le _⟩
  refine zcons (s_iconst hx hb 0 dX1_numberOf_0 (by decide)) ?_
  refine zcons (s_istore_n hx hb 2 dX1_numberOf_1 rfl) ?_
  refine zcons (s_iload_n hx hb 2 dX1_numberOf_2 rfl) ?_
  refine zcons (s_aload_n hx hb 0 dX1_numberOf_3 rfl) ?_
  refine zcons (s_getI hx hb hts hown hK zcX1 hinX1 1 (by decide) w141 rfl (zptk (by decide) (by decide +kernel)) dX1_numberOf_4) ?_
  refine zcons (s_c_ge hx hb 40 dX1_numberOf_7 (by decide)) ?_
  refine zcons (s_iload_n hx hb 2 dX1_numberOf_10 rfl) ?_
  refine zcons (s_aload_n hx hb 0 dX1_numberOf_11 rfl) ?_
  refine zcons (s_getR hx hb hts hown hK zcX1 hinX1 0 (by decide) w140 rfl (fun _ => 6) (zptf (by decide) (by decide +kernel)) dX1_numberOf_12) ?_
  refine zcons (s_len hx hb hK dX1_numberOf_15) ?_
  refine zcons (s_c_ge hx hb 40 dX1_numberOf_16 (by decide)) ?_
  refine zcons (s_aload_n hx hb 0 dX1_numberOf_19 rfl) ?_
  refine zcons (s_getR hx hb hts hown hK zcX1 hinX1 0 (by decide) w140 rfl (fun _ => 6) (zptf (by decide) (by decide +kernel)) dX1_numberOf_20) ?_
  refine zcons (s_iload_n hx hb 2 dX1_numberOf_23 rfl) ?_
  refine zcons (s_aald hx hb hK dX1_numberOf_24) ?_
  refine zcons (s_getI hx hb hts hown hK zcX5 hinX5 0 (by decide) w77 rfl (zptk (by decide) (by decide +kernel)) dX1_numberOf_25) ?_
  refine zcons (s_iload_n hx hb 1 dX1_numberOf_28 rfl) ?_
  refine zcons (s_c_ne hx hb 34 dX1_numberOf_29 (by decide)) ?_
  refine zcons (s_iload_n hx hb 2 dX1_numberOf_32 rfl) ?_
  refine zcons (s_iret hx hb hr hK hlk dX1_numberOf_33) ?_
  refine zcons (s_iinc hx hb 1 dX1_numberOf_34 (by decide)) ?_
  refine zcons (s_goto hx hb 2 dX1_numberOf_37 (by decide)) ?_
  refine zcons (s_iconst hx hb (-1) dX1_numberOf_40 (by decide)) ?_
  refine zcons (s_iret hx hb hr hK hlk dX1_numberOf_41) ?_
  exact znil
noncomputable def tX9_isName : List (Nat × AI) := [(0, a_iload 1 0), (1, a_push 3 (.inl 20)), (3, a_c_lt 6 16), (6, a_iload 7 0), (7, a_push 9 (.inl 59)), (9, a_c_gt 12 16), (12, a_push 13 (.inl 1)), (13, a_goto 17), (16, a_push 17 (.inl 0)), (17, a_zret)]
noncomputable def mX9_isName : List AV → MM → Option AR := zsem tX9_isName 1 1
def wX9_isName : List Cond := .code yX9_isName cX9_isName 1 (some .boolean) :: lw_g
def rX9_isName : Room := { frames := 0, cells := 0, slots := 0, locals := 0 }
set_option maxHeartbeats 4000000 in
set_option maxRecDepth 100000 in
theorem kX9_isName (l : Launch) (X : XC) : zM l X yX9_isName wX9_isName rX9_isName mX9_isName := by
  refine zMet tX9_isName 1 (by decide) rfl (by decide) ?_
  intro p e s m args below meth c res hC
  obtain ⟨hx, hb, hr, hts0, hown, hml, hlk, hK⟩ := hC
  have hts : ∀ w ∈ lw_g, w.before args s = true := fun w h => hts0 w (List.mem_cons_of_mem _ h)
  have hro : 0 ≤ (headSpec wX9_isName rX9_isName).room.cells ∧ 0 ≤ (headSpec wX9_isName rX9_isName).room.slots := ⟨Nat.zero_le _, Nat.zero_le _⟩
  refine zcons (s_iload_n hx hb 0 dX9_isName_0 rfl) ?_
  refine zcons (s_bipush hx hb 20 dX9_isName_1 (by decide)) ?_
  refine zcons (s_c_lt hx hb 16 dX9_isName_3 (by decide)) ?_
  refine zcons (s_iload_n hx hb 0 dX9_isName_6 rfl) ?_
  refine zcons (s_bipush hx hb 59 dX9_isName_7 (by decide)) ?_
  refine zcons (s_c_gt hx hb 16 dX9_isName_9 (by decide)) ?_
  refine zcons (s_iconst hx hb 1 dX9_isName_12 (by decide)) ?_
  refine zcons (s_goto hx hb 17 dX9_isName_13 (by decide)) ?_
  refine zcons (s_iconst hx hb 0 dX9_isName_16 (by decide)) ?_
  refine zcons (s_zret hx hb hr hK hlk dX9_isName_17) ?_
  exact znil
noncomputable def tX1_canName : List (Nat × AI) := [(0, a_aload 1 0), (1, a_getI 4 1 1), (4, a_aload 5 0), (5, a_getR 8 1 (fun _ => 6)), (8, a_len 9), (9, a_c_ge 12 32), (12, a_iload 13 1), (13, a_callS 16 1 mX9_isName), (16, a_if_eq 19 32), (19, a_aload 20 0), (20, a_iload 21 1), (21, a_callV 24 1 1 mX1_numberOf), (24, a_push 25 (.inl (-1))), (25, a_c_ne 28 32), (28, a_push 29 (.inl 1)), (29, a_goto 33), (32, a_push 33 (.inl 0)), (33, a_zret)]
noncomputable def mX1_canName : List AV → MM → Option AR := zsem tX1_canName 2 2
def wX1_canName : List Cond := .code yX1_canName cX1_canName 2 (some .boolean) :: lw_g
def rX1_canName : Room := { frames := 1, cells := 0, slots := 0, locals := 22 }
set_option maxHeartbeats 4000000 in
set_option maxRecDepth 100000 in
theorem kX1_canName (l : Launch) (X : XC) : zM l X yX1_canName wX1_canName rX1_canName mX1_canName := by
  refine zMet tX1_canName 2 (by decide) rfl (by decide) ?_
  intro p e s m args below meth c res hC
  obtain ⟨hx, hb, hr, hts0, hown, hml, hlk, hK⟩ := hC
  have hts : ∀ w ∈ lw_g, w.before args s = true := fun w h => hts0 w (List.mem_cons_of_mem _ h)
  have hro : 0 ≤ (headSpec wX1_canName rX1_canName).room.cells ∧ 0 ≤ (headSpec wX1_canName rX1_canName).room.slots := ⟨Nat.zero_le _, Nat.zero_le _⟩
  refine zcons (s_aload_n hx hb 0 dX1_canName_0 rfl) ?_
  refine zcons (s_getI hx hb hts hown hK zcX1 hinX1 1 (by decide) w141 rfl (zptk (by decide) (by decide +kernel)) dX1_canName_1) ?_
  refine zcons (s_aload_n hx hb 0 dX1_canName_4 rfl) ?_
  refine zcons (s_getR hx hb hts hown hK zcX1 hinX1 0 (by decide) w140 rfl (fun _ => 6) (zptf (by decide) (by decide +kernel)) dX1_canName_5) ?_
  refine zcons (s_len hx hb hK dX1_canName_8) ?_
  refine zcons (s_c_ge hx hb 32 dX1_canName_9 (by decide)) ?_
  refine zcons (s_iload_n hx hb 1 dX1_canName_12 rfl) ?_
  refine zcons (s_callSN (hZ := fun _ h => h) hx hb hts hml hown hK hro (kX9_isName l X) (zgoodC w339) rfl rfl rfl hK.2.2.2.1 w44 w338 (by decide +kernel) ⟨Nat.le_of_ble_eq_true rfl, Nat.le_of_ble_eq_true rfl⟩ dX1_canName_13) ?_
  refine zcons (s_if_eq hx hb 32 dX1_canName_16 (by decide)) ?_
  refine zcons (s_aload_n hx hb 0 dX1_canName_19 rfl) ?_
  refine zcons (s_iload_n hx hb 1 dX1_canName_20 rfl) ?_
  refine zcons (s_callV (hZ := fun _ h => h) hx hb hts hml hown hK hro zcX1 (kX1_numberOf l X) (zgoodV w340 w341 w342 w45 w343) rfl rfl rfl (by decide +kernel) ⟨Nat.le_of_ble_eq_true rfl, Nat.le_of_ble_eq_true rfl⟩ dX1_canName_21) ?_
  refine zcons (s_iconst hx hb (-1) dX1_canName_24 (by decide)) ?_
  refine zcons (s_c_ne hx hb 32 dX1_canName_25 (by decide)) ?_
  refine zcons (s_iconst hx hb 1 dX1_canName_28 (by decide)) ?_
  refine zcons (s_goto hx hb 33 dX1_canName_29 (by decide)) ?_
  refine zcons (s_iconst hx hb 0 dX1_canName_32 (by decide)) ?_
  refine zcons (s_zret hx hb hr hK hlk dX1_canName_33) ?_
  exact znil
