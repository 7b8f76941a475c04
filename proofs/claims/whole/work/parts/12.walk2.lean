/-! The tables of methods and their contracts (written by wip/whole/gen.py). -/
noncomputable def tX4_leadIn : List (Nat × AI) := [(0, a_iload 1 2), (1, a_if_ne 4 7), (4, a_push 6 (.inl 1000000)), (6, a_iret), (7, a_aload 8 0), (8, a_getR 11 4 (fun _ => 2)), (11, a_iload 12 1), (12, a_iload 13 2), (13, a_push 15 (.inl 7)), (15, a_c_ne 18 23), (18, a_push 20 (.inl 17)), (20, a_goto 25), (23, a_push 25 (.inl 16)), (25, a_callV 28 2 2 mX2_costOf), (28, a_istore 29 3), (29, a_iload 30 3), (30, a_push 31 (.inl (-1))), (31, a_c_ne 34 39), (34, a_push 36 (.inl 1000000)), (36, a_goto 45), (39, a_iload 40 3), (40, a_aload 41 0), (41, a_getI 44 4 4), (44, a_bin 45 (fun x y => x - y)), (45, a_iret)]
noncomputable def mX4_leadIn : List AV → MM → Option AR := zsem tX4_leadIn 4 3
def wX4_leadIn : List Cond := .code yX4_leadIn cX4_leadIn 4 (some .int) :: lw_g
def rX4_leadIn : Room := { frames := 3, cells := 0, slots := 0, locals := 67 }
set_option maxHeartbeats 4000000 in
set_option maxRecDepth 100000 in
theorem kX4_leadIn (l : Launch) (X : XC) : zM l X yX4_leadIn wX4_leadIn rX4_leadIn mX4_leadIn := by
  refine zMet tX4_leadIn 3 (by decide) rfl (by decide) ?_
  intro p e s m args below meth c res hC
  obtain ⟨hx, hb, hr, hts0, hown, hml, hlk, hK⟩ := hC
  have hts : ∀ w ∈ lw_g, w.before args s = true := fun w h => hts0 w (List.mem_cons_of_mem _ h)
  have hro : 0 ≤ (headSpec wX4_leadIn rX4_leadIn).room.cells ∧ 0 ≤ (headSpec wX4_leadIn rX4_leadIn).room.slots := ⟨Nat.zero_le _, Nat.zero_le _⟩
  refine zcons (s_iload_n hx hb 2 dX4_leadIn_0 rfl) ?_
  refine zcons (s_if_ne hx hb 7 dX4_leadIn_1 (by decide)) ?_
  refine zcons (s_ldc hx hb 1000000 hown (hts _ w454) dX4_leadIn_4) ?_
  refine zcons (s_iret hx hb hr hK hlk dX4_leadIn_6) ?_
  refine zcons (s_aload_n hx hb 0 dX4_leadIn_7 rfl) ?_
  refine zcons (s_getR hx hb hts hown hK zcX4 hinX4 1 (by decide) w215 rfl (fun _ => 2) (zptf (by decide) (by decide +kernel)) dX4_leadIn_8) ?_
  refine zcons (s_iload_n hx hb 1 dX4_leadIn_11 rfl) ?_
  refine zcons (s_iload_n hx hb 2 dX4_leadIn_12 rfl) ?_
  refine zcons (s_bipush hx hb 7 dX4_leadIn_13 (by decide)) ?_
  refine zcons (s_c_ne hx hb 23 dX4_leadIn_15 (by decide)) ?_
  refine zcons (s_bipush hx hb 17 dX4_leadIn_18 (by decide)) ?_
  refine zcons (s_goto hx hb 25 dX4_leadIn_20 (by decide)) ?_
  refine zcons (s_bipush hx hb 16 dX4_leadIn_23 (by decide)) ?_
  refine zcons (s_callV (hZ := fun _ h => h) hx hb hts hml hown hK hro zcX2 (kX2_costOf l X) (zgoodV w499 w410 w411 w47 w412) rfl rfl rfl (by decide +kernel) ⟨Nat.le_of_ble_eq_true rfl, Nat.le_of_ble_eq_true rfl⟩ dX4_leadIn_25) ?_
  refine zcons (s_istore_n hx hb 3 dX4_leadIn_28 rfl) ?_
  refine zcons (s_iload_n hx hb 3 dX4_leadIn_29 rfl) ?_
  refine zcons (s_iconst hx hb (-1) dX4_leadIn_30 (by decide)) ?_
  refine zcons (s_c_ne hx hb 39 dX4_leadIn_31 (by decide)) ?_
  refine zcons (s_ldc hx hb 1000000 hown (hts _ w454) dX4_leadIn_34) ?_
  refine zcons (s_goto hx hb 45 dX4_leadIn_36 (by decide)) ?_
  refine zcons (s_iload_n hx hb 3 dX4_leadIn_39 rfl) ?_
  refine zcons (s_aload_n hx hb 0 dX4_leadIn_40 rfl) ?_
  refine zcons (s_getI hx hb hts hown hK zcX4 hinX4 4 (by decide) w218 rfl (zptk (by decide) (by decide +kernel)) dX4_leadIn_41) ?_
  refine zcons (s_isub hx hb dX4_leadIn_44) ?_
  refine zcons (s_iret hx hb hr hK hlk dX4_leadIn_45) ?_
  exact znil
noncomputable def tX4_offer : List (Nat × AI) := [(0, a_aload 1 0), (1, a_getR 4 4 (fun _ => 2)), (4, a_getI 7 2 3), (7, a_aload 8 0), (8, a_getI 11 4 4), (11, a_bin 12 (fun x y => x * y)), (12, a_iload 13 3), (13, a_bin 14 (fun x y => x + y)), (14, a_iload 15 1), (15, a_if_ne 18 22), (18, a_push 19 (.inl 0)), (19, a_goto 26), (22, a_aload 23 0), (23, a_getI 26 4 5), (26, a_bin 27 (fun x y => x + y)), (27, a_istore 29 4), (29, a_aload 30 0), (30, a_getR 33 4 (fun _ => 10)), (33, a_push 34 (.inl 0)), (34, a_iload 36 4), (36, a_iload 37 1), (37, a_push 39 (.inl 100000000)), (39, a_bin 40 (fun x y => x * y)), (40, a_iload 41 2), (41, a_bin 42 (fun x y => x + y)), (42, a_callV 45 3 7 mX7_offer), (45, a_vret)]
noncomputable def mX4_offer : List AV → MM → Option AR := zsem tX4_offer 5 4
def wX4_offer : List Cond := .code yX4_offer cX4_offer 5 none :: lw_g
def rX4_offer : Room := { frames := 2, cells := 0, slots := 0, locals := 46 }
set_option maxHeartbeats 4000000 in
set_option maxRecDepth 100000 in
theorem kX4_offer (l : Launch) (X : XC) : zM l X yX4_offer wX4_offer rX4_offer mX4_offer := by
  refine zMet tX4_offer 4 (by decide) rfl (by decide) ?_
  intro p e s m args below meth c res hC
  obtain ⟨hx, hb, hr, hts0, hown, hml, hlk, hK⟩ := hC
  have hts : ∀ w ∈ lw_g, w.before args s = true := fun w h => hts0 w (List.mem_cons_of_mem _ h)
  have hro : 0 ≤ (headSpec wX4_offer rX4_offer).room.cells ∧ 0 ≤ (headSpec wX4_offer rX4_offer).room.slots := ⟨Nat.zero_le _, Nat.zero_le _⟩
  refine zcons (s_aload_n hx hb 0 dX4_offer_0 rfl) ?_
  refine zcons (s_getR hx hb hts hown hK zcX4 hinX4 1 (by decide) w215 rfl (fun _ => 2) (zptf (by decide) (by decide +kernel)) dX4_offer_1) ?_
  refine zcons (s_getI hx hb hts hown hK zcX2 hinX2 3 (by decide) w159 rfl (zptk (by decide) (by decide +kernel)) dX4_offer_4) ?_
  refine zcons (s_aload_n hx hb 0 dX4_offer_7 rfl) ?_
  refine zcons (s_getI hx hb hts hown hK zcX4 hinX4 4 (by decide) w218 rfl (zptk (by decide) (by decide +kernel)) dX4_offer_8) ?_
  refine zcons (s_imul hx hb dX4_offer_11) ?_
  refine zcons (s_iload_n hx hb 3 dX4_offer_12 rfl) ?_
  refine zcons (s_iadd hx hb dX4_offer_13) ?_
  refine zcons (s_iload_n hx hb 1 dX4_offer_14 rfl) ?_
  refine zcons (s_if_ne hx hb 22 dX4_offer_15 (by decide)) ?_
  refine zcons (s_iconst hx hb 0 dX4_offer_18 (by decide)) ?_
  refine zcons (s_goto hx hb 26 dX4_offer_19 (by decide)) ?_
  refine zcons (s_aload_n hx hb 0 dX4_offer_22 rfl) ?_
  refine zcons (s_getI hx hb hts hown hK zcX4 hinX4 5 (by decide) w220 rfl (zptk (by decide) (by decide +kernel)) dX4_offer_23) ?_
  refine zcons (s_iadd hx hb dX4_offer_26) ?_
  refine zcons (s_istore hx hb dX4_offer_27) ?_
  refine zcons (s_aload_n hx hb 0 dX4_offer_29 rfl) ?_
  refine zcons (s_getR hx hb hts hown hK zcX4 hinX4 2 (by decide) w216 rfl (fun _ => 10) (zptf (by decide) (by decide +kernel)) dX4_offer_30) ?_
  refine zcons (s_iconst hx hb 0 dX4_offer_33 (by decide)) ?_
  refine zcons (s_iload hx hb dX4_offer_34) ?_
  refine zcons (s_iload_n hx hb 1 dX4_offer_36 rfl) ?_
  refine zcons (s_ldc hx hb 100000000 hown (hts _ w512) dX4_offer_37) ?_
  refine zcons (s_imul hx hb dX4_offer_39) ?_
  refine zcons (s_iload_n hx hb 2 dX4_offer_40 rfl) ?_
  refine zcons (s_iadd hx hb dX4_offer_41) ?_
  refine zcons (s_callV (hZ := fun _ h => h) hx hb hts hml hown hK hro zcX7 (kX7_offer l X) (zgoodV w513 w460 w461 w49 w462) rfl rfl rfl (by decide +kernel) ⟨Nat.le_of_ble_eq_true rfl, Nat.le_of_ble_eq_true rfl⟩ dX4_offer_42) ?_
  refine zcons (s_vret hx hb hr hK hlk dX4_offer_45) ?_
  exact znil
noncomputable def tX4_offerDigits : List (Nat × AI) := [(0, a_aload 1 0), (1, a_getR 4 4 (fun _ => 2)), (4, a_getI 7 2 3), (7, a_aload 8 1), (8, a_getI 11 5 1), (11, a_c_ge 14 15), (14, a_vret), (15, a_aload 16 0), (16, a_getR 19 4 (fun _ => 13)), (19, a_aload 20 1), (20, a_getI 23 5 1), (23, a_aload 24 1), (24, a_getI 27 5 2), (27, a_callV 30 2 0 mX0_clear), (30, a_iload 31 2), (31, a_callS 34 1 mX4_leadAtFirst), (34, a_istore 35 3), (35, a_iload 36 3), (36, a_push 38 (.inl 1000000)), (38, a_c_ge 41 49), (41, a_aload 42 0), (42, a_getR 45 4 (fun _ => 13)), (45, a_iload 46 3), (46, a_callV 49 1 0 mX0_begin), (49, a_push 50 (.inl 0)), (50, a_istore 52 4), (52, a_iload 54 4), (54, a_aload 55 0), (55, a_getR 58 4 (fun _ => 2)), (58, a_getI 61 2 3), (61, a_c_ge 64 109), (64, a_aload 65 0), (65, a_getR 68 4 (fun _ => 13)), (68, a_aload 69 0), (69, a_getR 72 4 (fun _ => 2)), (72, a_iload 74 4), (74, a_aload 75 0), (75, a_getI 78 4 4), (78, a_callV 81 3 0 mX0_hearPlace), (81, a_aload 82 0), (82, a_iload 84 4), (84, a_iload 85 2), (85, a_callV 88 2 4 mX4_leadIn), (88, a_istore 89 3), (89, a_iload 90 3), (90, a_push 92 (.inl 1000000)), (92, a_c_ge 95 103), (95, a_aload 96 0), (96, a_getR 99 4 (fun _ => 13)), (99, a_iload 100 3), (100, a_callV 103 1 0 mX0_begin), (103, a_iinc 106 4 1), (106, a_goto 52), (109, a_push 110 (.inl 0)), (110, a_istore 112 4), (112, a_iload 114 4), (114, a_push 115 (.inl 2)), (115, a_c_ge 118 161), (118, a_aload 119 0), (119, a_getR 122 4 (fun _ => 13)), (122, a_iload 124 4), (124, a_callV 127 1 0 mX0_cost), (127, a_push 129 (.inl 1000000)), (129, a_c_ge 132 155), (132, a_aload 133 0), (133, a_iload 134 2), (134, a_aload 135 0), (135, a_getR 138 4 (fun _ => 13)), (138, a_iload 140 4), (140, a_callV 143 1 0 mX0_value), (143, a_aload 144 0), (144, a_getR 147 4 (fun _ => 13)), (147, a_iload 149 4), (149, a_callV 152 1 0 mX0_cost), (152, a_callV 155 3 4 mX4_offer), (155, a_iinc 158 4 1), (158, a_goto 112), (161, a_vret)]
noncomputable def mX4_offerDigits : List AV → MM → Option AR := zsem tX4_offerDigits 5 3
def wX4_offerDigits : List Cond := .code yX4_offerDigits cX4_offerDigits 5 none :: lw_g
def rX4_offerDigits : Room := { frames := 4, cells := 0, slots := 0, locals := 105 }
set_option maxHeartbeats 4000000 in
set_option maxRecDepth 100000 in
theorem kX4_offerDigits (l : Launch) (X : XC) : zM l X yX4_offerDigits wX4_offerDigits rX4_offerDigits mX4_offerDigits := by
  refine zMet tX4_offerDigits 3 (by decide) rfl (by decide) ?_
  intro p e s m args below meth c res hC
  obtain ⟨hx, hb, hr, hts0, hown, hml, hlk, hK⟩ := hC
  have hts : ∀ w ∈ lw_g, w.before args s = true := fun w h => hts0 w (List.mem_cons_of_mem _ h)
  have hro : 0 ≤ (headSpec wX4_offerDigits rX4_offerDigits).room.cells ∧ 0 ≤ (headSpec wX4_offerDigits rX4_offerDigits).room.slots := ⟨Nat.zero_le _, Nat.zero_le _⟩
  refine zcons (s_aload_n hx hb 0 dX4_offerDigits_0 rfl) ?_
  refine zcons (s_getR hx hb hts hown hK zcX4 hinX4 1 (by decide) w215 rfl (fun _ => 2) (zptf (by decide) (by decide +kernel)) dX4_offerDigits_1) ?_
  refine zcons (s_getI hx hb hts hown hK zcX2 hinX2 3 (by decide) w159 rfl (zptk (by decide) (by decide +kernel)) dX4_offerDigits_4) ?_
  refine zcons (s_aload_n hx hb 1 dX4_offerDigits_7 rfl) ?_
  refine zcons (s_getI hx hb hts hown hK zcX5 hinX5 1 (by decide) w80 rfl (zptk (by decide) (by decide +kernel)) dX4_offerDigits_8) ?_
  refine zcons (s_c_ge hx hb 15 dX4_offerDigits_11 (by decide)) ?_
  refine zcons (s_vret hx hb hr hK hlk dX4_offerDigits_14) ?_
  refine zcons (s_aload_n hx hb 0 dX4_offerDigits_15 rfl) ?_
  refine zcons (s_getR hx hb hts hown hK zcX4 hinX4 3 (by decide) w217 rfl (fun _ => 13) (zptf (by decide) (by decide +kernel)) dX4_offerDigits_16) ?_
  refine zcons (s_aload_n hx hb 1 dX4_offerDigits_19 rfl) ?_
  refine zcons (s_getI hx hb hts hown hK zcX5 hinX5 1 (by decide) w80 rfl (zptk (by decide) (by decide +kernel)) dX4_offerDigits_20) ?_
  refine zcons (s_aload_n hx hb 1 dX4_offerDigits_23 rfl) ?_
  refine zcons (s_getI hx hb hts hown hK zcX5 hinX5 2 (by decide) w84 rfl (zptk (by decide) (by decide +kernel)) dX4_offerDigits_24) ?_
  refine zcons (s_callV (hZ := fun _ h => h) hx hb hts hml hown hK hro zcX0 (kX0_clear l X) (zgoodV w446 w447 w448 w50 w449) rfl rfl rfl (by decide +kernel) ⟨Nat.le_of_ble_eq_true rfl, Nat.le_of_ble_eq_true rfl⟩ dX4_offerDigits_27) ?_
  refine zcons (s_iload_n hx hb 2 dX4_offerDigits_30 rfl) ?_
  refine zcons (s_callS (hZ := fun _ h => h) hx hb hts hml hown hK hro (kX4_leadAtFirst l X) (va_cwS 1 hts (zgoodS w451 w452 w48 w453) rfl rfl rfl (by decide +kernel) ⟨Nat.le_of_ble_eq_true rfl, Nat.le_of_ble_eq_true rfl⟩) dX4_offerDigits_31) ?_
  refine zcons (s_istore_n hx hb 3 dX4_offerDigits_34 rfl) ?_
  refine zcons (s_iload_n hx hb 3 dX4_offerDigits_35 rfl) ?_
  refine zcons (s_ldc hx hb 1000000 hown (hts _ w454) dX4_offerDigits_36) ?_
  refine zcons (s_c_ge hx hb 49 dX4_offerDigits_38 (by decide)) ?_
  refine zcons (s_aload_n hx hb 0 dX4_offerDigits_41 rfl) ?_
  refine zcons (s_getR hx hb hts hown hK zcX4 hinX4 3 (by decide) w217 rfl (fun _ => 13) (zptf (by decide) (by decide +kernel)) dX4_offerDigits_42) ?_
  refine zcons (s_iload_n hx hb 3 dX4_offerDigits_45 rfl) ?_
  refine zcons (s_callV (hZ := fun _ h => h) hx hb hts hml hown hK hro zcX0 (kX0_begin l X) (zgoodV w455 w456 w457 w50 w458) rfl rfl rfl (by decide +kernel) ⟨Nat.le_of_ble_eq_true rfl, Nat.le_of_ble_eq_true rfl⟩ dX4_offerDigits_46) ?_
  refine zcons (s_iconst hx hb 0 dX4_offerDigits_49 (by decide)) ?_
  refine zcons (s_istore hx hb dX4_offerDigits_50) ?_
  refine zcons (s_iload hx hb dX4_offerDigits_52) ?_
  refine zcons (s_aload_n hx hb 0 dX4_offerDigits_54 rfl) ?_
  refine zcons (s_getR hx hb hts hown hK zcX4 hinX4 1 (by decide) w215 rfl (fun _ => 2) (zptf (by decide) (by decide +kernel)) dX4_offerDigits_55) ?_
  refine zcons (s_getI hx hb hts hown hK zcX2 hinX2 3 (by decide) w159 rfl (zptk (by decide) (by decide +kernel)) dX4_offerDigits_58) ?_
  refine zcons (s_c_ge hx hb 109 dX4_offerDigits_61 (by decide)) ?_
  refine zcons (s_aload_n hx hb 0 dX4_offerDigits_64 rfl) ?_
  refine zcons (s_getR hx hb hts hown hK zcX4 hinX4 3 (by decide) w217 rfl (fun _ => 13) (zptf (by decide) (by decide +kernel)) dX4_offerDigits_65) ?_
  refine zcons (s_aload_n hx hb 0 dX4_offerDigits_68 rfl) ?_
  refine zcons (s_getR hx hb hts hown hK zcX4 hinX4 1 (by decide) w215 rfl (fun _ => 2) (zptf (by decide) (by decide +kernel)) dX4_offerDigits_69) ?_
  refine zcons (s_iload hx hb dX4_offerDigits_72) ?_
  refine zcons (s_aload_n hx hb 0 dX4_offerDigits_74 rfl) ?_
  refine zcons (s_getI hx hb hts hown hK zcX4 hinX4 4 (by decide) w218 rfl (zptk (by decide) (by decide +kernel)) dX4_offerDigits_75) ?_
  refine zcons (s_callV (hZ := fun _ h => h) hx hb hts hml hown hK hro zcX0 (kX0_hearPlace l X) (zgoodV w466 w467 w468 w50 w469) rfl rfl rfl (by decide +kernel) ⟨Nat.le_of_ble_eq_true rfl, Nat.le_of_ble_eq_true rfl⟩ dX4_offerDigits_78) ?_
  refine zcons (s_aload_n hx hb 0 dX4_offerDigits_81 rfl) ?_
  refine zcons (s_iload hx hb dX4_offerDigits_82) ?_
  refine zcons (s_iload_n hx hb 2 dX4_offerDigits_84 rfl) ?_
  refine zcons (s_callV (hZ := fun _ h => h) hx hb hts hml hown hK hro zcX4 (kX4_leadIn l X) (zgoodV w495 w497 w8 w48 w498) rfl rfl rfl (by decide +kernel) ⟨Nat.le_of_ble_eq_true rfl, Nat.le_of_ble_eq_true rfl⟩ dX4_offerDigits_85) ?_
  refine zcons (s_istore_n hx hb 3 dX4_offerDigits_88 rfl) ?_
  refine zcons (s_iload_n hx hb 3 dX4_offerDigits_89 rfl) ?_
  refine zcons (s_ldc hx hb 1000000 hown (hts _ w454) dX4_offerDigits_90) ?_
  refine zcons (s_c_ge hx hb 103 dX4_offerDigits_92 (by decide)) ?_
  refine zcons (s_aload_n hx hb 0 dX4_offerDigits_95 rfl) ?_
  refine zcons (s_getR hx hb hts hown hK zcX4 hinX4 3 (by decide) w217 rfl (fun _ => 13) (zptf (by decide) (by decide +kernel)) dX4_offerDigits_96) ?_
  refine zcons (s_iload_n hx hb 3 dX4_offerDigits_99 rfl) ?_
  refine zcons (s_callV (hZ := fun _ h => h) hx hb hts hml hown hK hro zcX0 (kX0_begin l X) (zgoodV w455 w456 w457 w50 w458) rfl rfl rfl (by decide +kernel) ⟨Nat.le_of_ble_eq_true rfl, Nat.le_of_ble_eq_true rfl⟩ dX4_offerDigits_100) ?_
  refine zcons (s_iinc hx hb 1 dX4_offerDigits_103 (by decide)) ?_
  refine zcons (s_goto hx hb 52 dX4_offerDigits_106 (by decide)) ?_
  refine zcons (s_iconst hx hb 0 dX4_offerDigits_109 (by decide)) ?_
  refine zcons (s_istore hx hb dX4_offerDigits_110) ?_
  refine zcons (s_iload hx hb dX4_offerDigits_112) ?_
  refine zcons (s_iconst hx hb 2 dX4_offerDigits_114 (by decide)) ?_
  refine zcons (s_c_ge hx hb 161 dX4_offerDigits_115 (by decide)) ?_
  refine zcons (s_aload_n hx hb 0 dX4_offerDigits_118 rfl) ?_
  refine zcons (s_getR hx hb hts hown hK zcX4 hinX4 3 (by decide) w217 rfl (fun _ => 13) (zptf (by decide) (by decide +kernel)) dX4_offerDigits_119) ?_
  refine zcons (s_iload hx hb dX4_offerDigits_122) ?_
  refine zcons (s_callV (hZ := fun _ h => h) hx hb hts hml hown hK hro zcX0 (kX0_cost l X) (zgoodV w500 w501 w502 w50 w503) rfl rfl rfl (by decide +kernel) ⟨Nat.le_of_ble_eq_true rfl, Nat.le_of_ble_eq_true rfl⟩ dX4_offerDigits_124) ?_
  refine zcons (s_ldc hx hb 1000000 hown (hts _ w454) dX4_offerDigits_127) ?_
  refine zcons (s_c_ge hx hb 155 dX4_offerDigits_129 (by decide)) ?_
  refine zcons (s_aload_n hx hb 0 dX4_offerDigits_132 rfl) ?_
  refine zcons (s_iload_n hx hb 2 dX4_offerDigits_133 rfl) ?_
  refine zcons (s_aload_n hx hb 0 dX4_offerDigits_134 rfl) ?_
  refine zcons (s_getR hx hb hts hown hK zcX4 hinX4 3 (by decide) w217 rfl (fun _ => 13) (zptf (by decide) (by decide +kernel)) dX4_offerDigits_135) ?_
  refine zcons (s_iload hx hb dX4_offerDigits_138) ?_
  refine zcons (s_callV (hZ := fun _ h => h) hx hb hts hml hown hK hro zcX0 (kX0_value l X) (zgoodV w504 w505 w506 w50 w507) rfl rfl rfl (by decide +kernel) ⟨Nat.le_of_ble_eq_true rfl, Nat.le_of_ble_eq_true rfl⟩ dX4_offerDigits_140) ?_
  refine zcons (s_aload_n hx hb 0 dX4_offerDigits_143 rfl) ?_
  refine zcons (s_getR hx hb hts hown hK zcX4 hinX4 3 (by decide) w217 rfl (fun _ => 13) (zptf (by decide) (by decide +kernel)) dX4_offerDigits_144) ?_
  refine zcons (s_iload hx hb dX4_offerDigits_147) ?_
  refine zcons (s_callV (hZ := fun _ h => h) hx hb hts hml hown hK hro zcX0 (kX0_cost l X) (zgoodV w500 w501 w502 w50 w503) rfl rfl rfl (by decide +kernel) ⟨Nat.le_of_ble_eq_true rfl, Nat.le_of_ble_eq_true rfl⟩ dX4_offerDigits_149) ?_
  refine zcons (s_callV (hZ := fun _ h => h) hx hb hts hml hown hK hro zcX4 (kX4_offer l X) (zgoodV w508 w510 w9 w48 w511) rfl rfl rfl (by decide +kernel) ⟨Nat.le_of_ble_eq_true rfl, Nat.le_of_ble_eq_true rfl⟩ dX4_offerDigits_152) ?_
  refine zcons (s_iinc hx hb 1 dX4_offerDigits_155 (by decide)) ?_
  refine zcons (s_goto hx hb 112 dX4_offerDigits_158 (by decide)) ?_
  refine zcons (s_vret hx hb hr hK hlk dX4_offerDigits_161) ?_
  exact znil
noncomputable def tX5_numberOf : List (Nat × AI) := [(0, a_push 1 (.inl 0)), (1, a_istore 2 2), (2, a_iload 3 2), (3, a_aload 4 0), (4, a_getI 7 5 5), (7, a_c_ge 10 37), (10, a_iload 11 2), (11, a_aload 12 0), (12, a_getR 15 5 (fun c => c + 12)), (15, a_len 16), (16, a_c_ge 19 37), (19, a_aload 20 0), (20, a_getR 23 5 (fun c => c + 12)), (23, a_iload 24 2), (24, a_ald 25 10), (25, a_iload 26 1), (26, a_c_ne 29 31), (29, a_iload 30 2), (30, a_iret), (31, a_iinc 34 2 1), (34, a_goto 2), (37, a_push 38 (.inl (-1))), (38, a_iret)]
noncomputable def mX5_numberOf : List AV → MM → Option AR := zsem tX5_numberOf 3 2
def wX5_numberOf : List Cond := .code yX5_numberOf cX5_numberOf 3 (some .int) :: lw_g
def rX5_numberOf : Room := { frames := 0, cells := 0, slots := 0, locals := 0 }
set_option maxHeartbeats 4000000 in
set_option maxRecDepth 100000 in
theorem kX5_numberOf (l : Launch) (X : XC) : zM l X yX5_numberOf wX5_numberOf rX5_numberOf mX5_numberOf := by
  refine zMet tX5_numberOf 2 (by decide) rfl (by decide) ?_
  intro p e s m args below meth c res hC
  obtain ⟨hx, hb, hr, hts0, hown, hml, hlk, hK⟩ := hC
  have hts : ∀ w ∈ lw_g, w.before args s = true := fun w h => hts0 w (List.mem_cons_of_mem _ h)
  have hro : 0 ≤ (headSpec wX5_numberOf rX5_numberOf).room.cells ∧ 0 ≤ (headSpec wX5_numberOf rX5_numberOf).room.slots := ⟨Nat.zero_le _, Nat.zero_le _⟩
  refine zcons (s_iconst hx hb 0 dX5_numberOf_0 (by decide)) ?_
  refine zcons (s_istore_n hx hb 2 dX5_numberOf_1 rfl) ?_
  refine zcons (s_iload_n hx hb 2 dX5_numberOf_2 rfl) ?_
  refine zcons (s_aload_n hx hb 0 dX5_numberOf_3 rfl) ?_
  refine zcons (s_getI hx hb hts hown hK zcX5 hinX5 5 (by decide) w89 rfl (zptk (by decide) (by decide +kernel)) dX5_numberOf_4) ?_
  refine zcons (s_c_ge hx hb 37 dX5_numberOf_7 (by decide)) ?_
  refine zcons (s_iload_n hx hb 2 dX5_numberOf_10 rfl) ?_
  refine zcons (s_aload_n hx hb 0 dX5_numberOf_11 rfl) ?_
  refine zcons (s_getR hx hb hts hown hK zcX5 hinX5 4 (by decide) w87 rfl (fun c => c + 12) (zptf (by decide) (by decide +kernel)) dX5_numberOf_12) ?_
  refine zcons (s_len hx hb hK dX5_numberOf_15) ?_
  refine zcons (s_c_ge hx hb 37 dX5_numberOf_16 (by decide)) ?_
  refine zcons (s_aload_n hx hb 0 dX5_numberOf_19 rfl) ?_
  refine zcons (s_getR hx hb hts hown hK zcX5 hinX5 4 (by decide) w87 rfl (fun c => c + 12) (zptf (by decide) (by decide +kernel)) dX5_numberOf_20) ?_
  refine zcons (s_iload_n hx hb 2 dX5_numberOf_23 rfl) ?_
  refine zcons (s_iald hx hb hK dX5_numberOf_24) ?_
  refine zcons (s_iload_n hx hb 1 dX5_numberOf_25 rfl) ?_
  refine zcons (s_c_ne hx hb 31 dX5_numberOf_26 (by decide)) ?_
  refine zcons (s_iload_n hx hb 2 dX5_numberOf_29 rfl) ?_
  refine zcons (s_iret hx hb hr hK hlk dX5_numberOf_30) ?_
  refine zcons (s_iinc hx hb 1 dX5_numberOf_31 (by decide)) ?_
  refine zcons (s_goto hx hb 2 dX5_numberOf_34 (by decide)) ?_
  refine zcons (s_iconst hx hb (-1) dX5_numberOf_37 (by decide)) ?_
  refine zcons (s_iret hx hb hr hK hlk dX5_numberOf_38) ?_
  exact znil
noncomputable def tX4_offerListed : List (Nat × AI) := [(0, a_iload 1 2), (1, a_callS 4 1 mX4_leadAtFirst), (4, a_istore 5 3), (5, a_push 6 (.inl 0)), (6, a_istore 8 4), (8, a_iload 10 4), (10, a_aload 11 0), (11, a_getR 14 4 (fun _ => 2)), (14, a_getI 17 2 3), (17, a_c_ge 20 117), (20, a_push 21 (.inl 0)), (21, a_istore 23 5), (23, a_iload 25 5), (25, a_aload 26 0), (26, a_getR 29 4 (fun _ => 2)), (29, a_iload 31 4), (31, a_callV 34 1 2 mX2_wordsIn), (34, a_c_ge 37 99), (37, a_iload 38 3), (38, a_push 40 (.inl 1000000)), (40, a_c_ge 43 99), (43, a_aload 44 1), (44, a_aload 45 0), (45, a_getR 48 4 (fun _ => 2)), (48, a_iload 50 4), (50, a_iload 52 5), (52, a_callV 55 2 2 mX2_wordAt), (55, a_callF 60 1 mX1_numberOf mX5_numberOf), (60, a_istore 62 6), (62, a_iload 64 6), (64, a_push 65 (.inl (-1))), (65, a_c_eq 68 93), (68, a_aload 69 0), (69, a_iload 70 2), (70, a_iload 72 6), (72, a_iload 73 3), (73, a_aload 74 0), (74, a_getR 77 4 (fun _ => 2)), (77, a_iload 79 4), (79, a_iload 81 5), (81, a_callV 84 2 2 mX2_costAt), (84, a_bin 85 (fun x y => x + y)), (85, a_aload 86 0), (86, a_getI 89 4 4), (89, a_bin 90 (fun x y => x - y)), (90, a_callV 93 3 4 mX4_offer), (93, a_iinc 96 5 1), (96, a_goto 23), (99, a_iload 100 3), (100, a_aload 101 0), (101, a_iload 103 4), (103, a_iload 104 2), (104, a_callV 107 2 4 mX4_leadIn), (107, a_min 110), (110, a_istore 111 3), (111, a_iinc 114 4 1), (114, a_goto 8), (117, a_vret)]
noncomputable def mX4_offerListed : List AV → MM → Option AR := zsem tX4_offerListed 7 3
def wX4_offerListed : List Cond := .code yX4_offerListed cX4_offerListed 7 none :: lw_g
def rX4_offerListed : Room := { frames := 4, cells := 0, slots := 0, locals := 90 }
set_option maxHeartbeats 4000000 in
set_option maxRecDepth 100000 in
theorem kX4_offerListed (l : Launch) (X : XC) : zM l X yX4_offerListed wX4_offerListed rX4_offerListed mX4_offerListed := by
  refine zMet tX4_offerListed 3 (by decide) rfl (by decide) ?_
  intro p e s m args below meth c res hC
  obtain ⟨hx, hb, hr, hts0, hown, hml, hlk, hK⟩ := hC
  have hts : ∀ w ∈ lw_g, w.before args s = true := fun w h => hts0 w (List.mem_cons_of_mem _ h)
  have hro : 0 ≤ (headSpec wX4_offerListed rX4_offerListed).room.cells ∧ 0 ≤ (headSpec wX4_offerListed rX4_offerListed).room.slots := ⟨Nat.zero_le _, Nat.zero_le _⟩
  refine zcons (s_iload_n hx hb 2 dX4_offerListed_0 rfl) ?_
  refine zcons (s_callS (hZ := fun _ h => h) hx hb hts hml hown hK hro (kX4_leadAtFirst l X) (va_cwS 1 hts (zgoodS w451 w452 w48 w453) rfl rfl rfl (by decide +kernel) ⟨Nat.le_of_ble_eq_true rfl, Nat.le_of_ble_eq_true rfl⟩) dX4_offerListed_1) ?_
  refine zcons (s_istore_n hx hb 3 dX4_offerListed_4 rfl) ?_
  refine zcons (s_iconst hx hb 0 dX4_offerListed_5 (by decide)) ?_
  refine zcons (s_istore hx hb dX4_offerListed_6) ?_
  refine zcons (s_iload hx hb dX4_offerListed_8) ?_
  refine zcons (s_aload_n hx hb 0 dX4_offerListed_10 rfl) ?_
  refine zcons (s_getR hx hb hts hown hK zcX4 hinX4 1 (by decide) w215 rfl (fun _ => 2) (zptf (by decide) (by decide +kernel)) dX4_offerListed_11) ?_
  refine zcons (s_getI hx hb hts hown hK zcX2 hinX2 3 (by decide) w159 rfl (zptk (by decide) (by decide +kernel)) dX4_offerListed_14) ?_
  refine zcons (s_c_ge hx hb 117 dX4_offerListed_17 (by decide)) ?_
  refine zcons (s_iconst hx hb 0 dX4_offerListed_20 (by decide)) ?_
  refine zcons (s_istore hx hb dX4_offerListed_21) ?_
  refine zcons (s_iload hx hb dX4_offerListed_23) ?_
  refine zcons (s_aload_n hx hb 0 dX4_offerListed_25 rfl) ?_
  refine zcons (s_getR hx hb hts hown hK zcX4 hinX4 1 (by decide) w215 rfl (fun _ => 2) (zptf (by decide) (by decide +kernel)) dX4_offerListed_26) ?_
  refine zcons (s_iload hx hb dX4_offerListed_29) ?_
  refine zcons (s_callV (hZ := fun _ h => h) hx hb hts hml hown hK hro zcX2 (kX2_wordsIn l X) (zgoodV w518 w414 w415 w47 w416) rfl rfl rfl (by decide +kernel) ⟨Nat.le_of_ble_eq_true rfl, Nat.le_of_ble_eq_true rfl⟩ dX4_offerListed_31) ?_
  refine zcons (s_c_ge hx hb 99 dX4_offerListed_34 (by decide)) ?_
  refine zcons (s_iload_n hx hb 3 dX4_offerListed_37 rfl) ?_
  refine zcons (s_ldc hx hb 1000000 hown (hts _ w454) dX4_offerListed_38) ?_
  refine zcons (s_c_ge hx hb 99 dX4_offerListed_40 (by decide)) ?_
  refine zcons (s_aload_n hx hb 1 dX4_offerListed_43 rfl) ?_
  refine zcons (s_aload_n hx hb 0 dX4_offerListed_44 rfl) ?_
  refine zcons (s_getR hx hb hts hown hK zcX4 hinX4 1 (by decide) w215 rfl (fun _ => 2) (zptf (by decide) (by decide +kernel)) dX4_offerListed_45) ?_
  refine zcons (s_iload hx hb dX4_offerListed_48) ?_
  refine zcons (s_iload hx hb dX4_offerListed_50) ?_
  refine zcons (s_callV (hZ := fun _ h => h) hx hb hts hml hown hK hro zcX2 (kX2_wordAt l X) (zgoodV w519 w418 w419 w47 w420) rfl rfl rfl (by decide +kernel) ⟨Nat.le_of_ble_eq_true rfl, Nat.le_of_ble_eq_true rfl⟩ dX4_offerListed_52) ?_
  refine zcons (s_callF (hZ := fun _ h => h) hx hb hts hml hown hK hro (kX1_numberOf l X) (kX5_numberOf l X) (zgoodF w521 w525 w341 w45 w343) (zgoodF w521 w529 w531 w46 w533) rfl rfl rfl rfl rfl rfl (by decide +kernel) ⟨Nat.le_of_ble_eq_true rfl, Nat.le_of_ble_eq_true rfl⟩ ⟨Nat.le_of_ble_eq_true rfl, Nat.le_of_ble_eq_true rfl⟩ dX4_offerListed_55) ?_
  refine zcons (s_istore hx hb dX4_offerListed_60) ?_
  refine zcons (s_iload hx hb dX4_offerListed_62) ?_
  refine zcons (s_iconst hx hb (-1) dX4_offerListed_64 (by decide)) ?_
  refine zcons (s_c_eq hx hb 93 dX4_offerListed_65 (by decide)) ?_
  refine zcons (s_aload_n hx hb 0 dX4_offerListed_68 rfl) ?_
  refine zcons (s_iload_n hx hb 2 dX4_offerListed_69 rfl) ?_
  refine zcons (s_iload hx hb dX4_offerListed_70) ?_
  refine zcons (s_iload_n hx hb 3 dX4_offerListed_72 rfl) ?_
  refine zcons (s_aload_n hx hb 0 dX4_offerListed_73 rfl) ?_
  refine zcons (s_getR hx hb hts hown hK zcX4 hinX4 1 (by decide) w215 rfl (fun _ => 2) (zptf (by decide) (by decide +kernel)) dX4_offerListed_74) ?_
  refine zcons (s_iload hx hb dX4_offerListed_77) ?_
  refine zcons (s_iload hx hb dX4_offerListed_79) ?_
  refine zcons (s_callV (hZ := fun _ h => h) hx hb hts hml hown hK hro zcX2 (kX2_costAt l X) (zgoodV w534 w422 w423 w47 w424) rfl rfl rfl (by decide +kernel) ⟨Nat.le_of_ble_eq_true rfl, Nat.le_of_ble_eq_true rfl⟩ dX4_offerListed_81) ?_
  refine zcons (s_iadd hx hb dX4_offerListed_84) ?_
  refine zcons (s_aload_n hx hb 0 dX4_offerListed_85 rfl) ?_
  refine zcons (s_getI hx hb hts hown hK zcX4 hinX4 4 (by decide) w218 rfl (zptk (by decide) (by decide +kernel)) dX4_offerListed_86) ?_
  refine zcons (s_isub hx hb dX4_offerListed_89) ?_
  refine zcons (s_callV (hZ := fun _ h => h) hx hb hts hml hown hK hro zcX4 (kX4_offer l X) (zgoodV w508 w510 w9 w48 w511) rfl rfl rfl (by decide +kernel) ⟨Nat.le_of_ble_eq_true rfl, Nat.le_of_ble_eq_true rfl⟩ dX4_offerListed_90) ?_
  refine zcons (s_iinc hx hb 1 dX4_offerListed_93 (by decide)) ?_
  refine zcons (s_goto hx hb 23 dX4_offerListed_96 (by decide)) ?_
  refine zcons (s_iload_n hx hb 3 dX4_offerListed_99 rfl) ?_
  refine zcons (s_aload_n hx hb 0 dX4_offerListed_100 rfl) ?_
  refine zcons (s_iload hx hb dX4_offerListed_101) ?_
  refine zcons (s_iload_n hx hb 2 dX4_offerListed_103 rfl) ?_
  refine zcons (s_callV (hZ := fun _ h => h) hx hb hts hml hown hK hro zcX4 (kX4_leadIn l X) (zgoodV w495 w497 w8 w48 w498) rfl rfl rfl (by decide +kernel) ⟨Nat.le_of_ble_eq_true rfl, Nat.le_of_ble_eq_true rfl⟩ dX4_offerListed_104) ?_
  refine zcons (s_min hx hb hts hml hown hro w535 w464 w55 w465 ⟨Nat.le_of_ble_eq_true rfl, Nat.le_of_ble_eq_true rfl⟩ dX4_offerListed_107) ?_
  refine zcons (s_istore_n hx hb 3 dX4_offerListed_110 rfl) ?_
  refine zcons (s_iinc hx hb 1 dX4_offerListed_111 (by decide)) ?_
  refine zcons (s_goto hx hb 8 dX4_offerListed_114 (by decide)) ?_
  refine zcons (s_vret hx hb hr hK hlk dX4_offerListed_117) ?_
  exact znil
noncomputable def tX4_offerAnswers : List (Nat × AI) := [(0, a_aload 1 1), (1, a_nonnull 4 5), (4, a_vret), (5, a_aload 6 1), (6, a_getI 9 5 1), (9, a_if_le 12 21), (12, a_aload 13 0), (13, a_aload 14 1), (14, a_iload 15 2), (15, a_callV 18 2 4 mX4_offerDigits), (18, a_goto 27), (21, a_aload 22 0), (22, a_aload 23 1), (23, a_iload 24 2), (24, a_callV 27 2 4 mX4_offerListed), (27, a_vret)]
noncomputable def mX4_offerAnswers : List AV → MM → Option AR := zsem tX4_offerAnswers 3 3
def wX4_offerAnswers : List Cond := .code yX4_offerAnswers cX4_offerAnswers 3 none :: lw_g
def rX4_offerAnswers : Room := { frames := 5, cells := 0, slots := 0, locals := 129 }
set_option maxHeartbeats 4000000 in
set_option maxRecDepth 100000 in
theorem kX4_offerAnswers (l : Launch) (X : XC) : zM l X yX4_offerAnswers wX4_offerAnswers rX4_offerAnswers mX4_offerAnswers := by
  refine zMet tX4_offerAnswers 3 (by decide) rfl (by decide) ?_
  intro p e s m args below meth c res hC
  obtain ⟨hx, hb, hr, hts0, hown, hml, hlk, hK⟩ := hC
  have hts : ∀ w ∈ lw_g, w.before args s = true := fun w h => hts0 w (List.mem_cons_of_mem _ h)
  have hro : 0 ≤ (headSpec wX4_offerAnswers rX4_offerAnswers).room.cells ∧ 0 ≤ (headSpec wX4_offerAnswers rX4_offerAnswers).room.slots := ⟨Nat.zero_le _, Nat.zero_le _⟩
  refine zcons (s_aload_n hx hb 1 dX4_offerAnswers_0 rfl) ?_
  refine zcons (s_nonnull hx hb 5 dX4_offerAnswers_1 (by decide)) ?_
  refine zcons (s_vret hx hb hr hK hlk dX4_offerAnswers_4) ?_
  refine zcons (s_aload_n hx hb 1 dX4_offerAnswers_5 rfl) ?_
  refine zcons (s_getI hx hb hts hown hK zcX5 hinX5 1 (by decide) w80 rfl (zptk (by decide) (by decide +kernel)) dX4_offerAnswers_6) ?_
  refine zcons (s_if_le hx hb 21 dX4_offerAnswers_9 (by decide)) ?_
  refine zcons (s_aload_n hx hb 0 dX4_offerAnswers_12 rfl) ?_
  refine zcons (s_aload_n hx hb 1 dX4_offerAnswers_13 rfl) ?_
  refine zcons (s_iload_n hx hb 2 dX4_offerAnswers_14 rfl) ?_
  refine zcons (s_callV (hZ := fun _ h => h) hx hb hts hml hown hK hro zcX4 (kX4_offerDigits l X) (zgoodV w442 w444 w4 w48 w445) rfl rfl rfl (by decide +kernel) ⟨Nat.le_of_ble_eq_true rfl, Nat.le_of_ble_eq_true rfl⟩ dX4_offerAnswers_15) ?_
  refine zcons (s_goto hx hb 27 dX4_offerAnswers_18 (by decide)) ?_
  refine zcons (s_aload_n hx hb 0 dX4_offerAnswers_21 rfl) ?_
  refine zcons (s_aload_n hx hb 1 dX4_offerAnswers_22 rfl) ?_
  refine zcons (s_iload_n hx hb 2 dX4_offerAnswers_23 rfl) ?_
  refine zcons (s_callV (hZ := fun _ h => h) hx hb hts hml hown hK hro zcX4 (kX4_offerListed l X) (zgoodV w514 w516 w10 w48 w517) rfl rfl rfl (by decide +kernel) ⟨Nat.le_of_ble_eq_true rfl, Nat.le_of_ble_eq_true rfl⟩ dX4_offerAnswers_24) ?_
  refine zcons (s_vret hx hb hr hK hlk dX4_offerAnswers_27) ?_
  exact znil
noncomputable def tX4_offerOrders : List (Nat × AI) := [(0, a_push 1 (.inl 0)), (1, a_istore 2 1), (2, a_iload 3 1), (3, a_aload 4 0), (4, a_getR 7 4 (fun _ => 2)), (7, a_getI 10 2 3), (10, a_c_ge 13 86), (13, a_push 14 (.inl 0)), (14, a_istore 15 2), (15, a_iload 16 2), (16, a_aload 17 0), (17, a_getR 20 4 (fun _ => 2)), (20, a_iload 21 1), (21, a_callV 24 1 2 mX2_wordsIn), (24, a_c_ge 27 80), (27, a_aload 28 0), (28, a_getR 31 4 (fun _ => 2)), (31, a_iload 32 1), (32, a_iload 33 2), (33, a_callV 36 2 2 mX2_wordAt), (36, a_istore 37 3), (37, a_iload 38 3), (38, a_push 40 (.inl 11)), (40, a_c_lt 43 74), (43, a_iload 44 3), (44, a_push 46 (.inl 16)), (46, a_c_gt 49 74), (49, a_aload 50 0), (50, a_push 51 (.inl 1)), (51, a_iload 52 3), (52, a_bin 53 (fun x y => x + y)), (53, a_push 55 (.inl 11)), (55, a_bin 56 (fun x y => x - y)), (56, a_push 57 (.inl 0)), (57, a_aload 58 0), (58, a_getR 61 4 (fun _ => 2)), (61, a_iload 62 1), (62, a_iload 63 2), (63, a_callV 66 2 2 mX2_costAt), (66, a_aload 67 0), (67, a_getI 70 4 4), (70, a_bin 71 (fun x y => x - y)), (71, a_callV 74 3 4 mX4_offer), (74, a_iinc 77 2 1), (77, a_goto 15), (80, a_iinc 83 1 1), (83, a_goto 2), (86, a_vret)]
noncomputable def mX4_offerOrders : List AV → MM → Option AR := zsem tX4_offerOrders 4 1
def wX4_offerOrders : List Cond := .code yX4_offerOrders cX4_offerOrders 4 none :: lw_g
def rX4_offerOrders : Room := { frames := 3, cells := 0, slots := 0, locals := 70 }
set_option maxHeartbeats 4000000 in
set_option maxRecDepth 100000 in
theorem kX4_offerOrders (l : Launch) (X : XC) : zM l X yX4_offerOrders wX4_offerOrders rX4_offerOrders mX4_offerOrders := by
  refine zMet tX4_offerOrders 1 (by decide) rfl (by decide) ?_
  intro p e s m args below meth c res hC
  obtain ⟨hx, hb, hr, hts0, hown, hml, hlk, hK⟩ := hC
  have hts : ∀ w ∈ lw_g, w.before args s = true := fun w h => hts0 w (List.mem_cons_of_mem _ h)
  have hro : 0 ≤ (headSpec wX4_offerOrders rX4_offerOrders).room.cells ∧ 0 ≤ (headSpec wX4_offerOrders rX4_offerOrders).room.slots := ⟨Nat.zero_le _, Nat.zero_le _⟩
  refine zcons (s_iconst hx hb 0 dX4_offerOrders_0 (by decide)) ?_
  refine zcons (s_istore_n hx hb 1 dX4_offerOrders_1 rfl) ?_
  refine zcons (s_iload_n hx hb 1 dX4_offerOrders_2 rfl) ?_
  refine zcons (s_aload_n hx hb 0 dX4_offerOrders_3 rfl) ?_
  refine zcons (s_getR hx hb hts hown hK zcX4 hinX4 1 (by decide) w215 rfl (fun _ => 2) (zptf (by decide) (by decide +kernel)) dX4_offerOrders_4) ?_
  refine zcons (s_getI hx hb hts hown hK zcX2 hinX2 3 (by decide) w159 rfl (zptk (by decide) (by decide +kernel)) dX4_offerOrders_7) ?_
  refine zcons (s_c_ge hx hb 86 dX4_offerOrders_10 (by decide)) ?_
  refine zcons (s_iconst hx hb 0 dX4_offerOrders_13 (by decide)) ?_
  refine zcons (s_istore_n hx hb 2 dX4_offerOrders_14 rfl) ?_
  refine zcons (s_iload_n hx hb 2 dX4_offerOrders_15 rfl) ?_
  refine zcons (s_aload_n hx hb 0 dX4_offerOrders_16 rfl) ?_
  refine zcons (s_getR hx hb hts hown hK zcX4 hinX4 1 (by decide) w215 rfl (fun _ => 2) (zptf (by decide) (by decide +kernel)) dX4_offerOrders_17) ?_
  refine zcons (s_iload_n hx hb 1 dX4_offerOrders_20 rfl) ?_
  refine zcons (s_callV (hZ := fun _ h => h) hx hb hts hml hown hK hro zcX2 (kX2_wordsIn l X) (zgoodV w518 w414 w415 w47 w416) rfl rfl rfl (by decide +kernel) ⟨Nat.le_of_ble_eq_true rfl, Nat.le_of_ble_eq_true rfl⟩ dX4_offerOrders_21) ?_
  refine zcons (s_c_ge hx hb 80 dX4_offerOrders_24 (by decide)) ?_
  refine zcons (s_aload_n hx hb 0 dX4_offerOrders_27 rfl) ?_
  refine zcons (s_getR hx hb hts hown hK zcX4 hinX4 1 (by decide) w215 rfl (fun _ => 2) (zptf (by decide) (by decide +kernel)) dX4_offerOrders_28) ?_
  refine zcons (s_iload_n hx hb 1 dX4_offerOrders_31 rfl) ?_
  refine zcons (s_iload_n hx hb 2 dX4_offerOrders_32 rfl) ?_
  refine zcons (s_callV (hZ := fun _ h => h) hx hb hts hml hown hK hro zcX2 (kX2_wordAt l X) (zgoodV w519 w418 w419 w47 w420) rfl rfl rfl (by decide +kernel) ⟨Nat.le_of_ble_eq_true rfl, Nat.le_of_ble_eq_true rfl⟩ dX4_offerOrders_33) ?_
  refine zcons (s_istore_n hx hb 3 dX4_offerOrders_36 rfl) ?_
  refine zcons (s_iload_n hx hb 3 dX4_offerOrders_37 rfl) ?_
  refine zcons (s_bipush hx hb 11 dX4_offerOrders_38 (by decide)) ?_
  refine zcons (s_c_lt hx hb 74 dX4_offerOrders_40 (by decide)) ?_
  refine zcons (s_iload_n hx hb 3 dX4_offerOrders_43 rfl) ?_
  refine zcons (s_bipush hx hb 16 dX4_offerOrders_44 (by decide)) ?_
  refine zcons (s_c_gt hx hb 74 dX4_offerOrders_46 (by decide)) ?_
  refine zcons (s_aload_n hx hb 0 dX4_offerOrders_49 rfl) ?_
  refine zcons (s_iconst hx hb 1 dX4_offerOrders_50 (by decide)) ?_
  refine zcons (s_iload_n hx hb 3 dX4_offerOrders_51 rfl) ?_
  refine zcons (s_iadd hx hb dX4_offerOrders_52) ?_
  refine zcons (s_bipush hx hb 11 dX4_offerOrders_53 (by decide)) ?_
  refine zcons (s_isub hx hb dX4_offerOrders_55) ?_
  refine zcons (s_iconst hx hb 0 dX4_offerOrders_56 (by decide)) ?_
  refine zcons (s_aload_n hx hb 0 dX4_offerOrders_57 rfl) ?_
  refine zcons (s_getR hx hb hts hown hK zcX4 hinX4 1 (by decide) w215 rfl (fun _ => 2) (zptf (by decide) (by decide +kernel)) dX4_offerOrders_58) ?_
  refine zcons (s_iload_n hx hb 1 dX4_offerOrders_61 rfl) ?_
  refine zcons (s_iload_n hx hb 2 dX4_offerOrders_62 rfl) ?_
  refine zcons (s_callV (hZ := fun _ h => h) hx hb hts hml hown hK hro zcX2 (kX2_costAt l X) (zgoodV w534 w422 w423 w47 w424) rfl rfl rfl (by decide +kernel) ⟨Nat.le_of_ble_eq_true rfl, Nat.le_of_ble_eq_true rfl⟩ dX4_offerOrders_63) ?_
  refine zcons (s_aload_n hx hb 0 dX4_offerOrders_66 rfl) ?_
  refine zcons (s_getI hx hb hts hown hK zcX4 hinX4 4 (by decide) w218 rfl (zptk (by decide) (by decide +kernel)) dX4_offerOrders_67) ?_
  refine zcons (s_isub hx hb dX4_offerOrders_70) ?_
  refine zcons (s_callV (hZ := fun _ h => h) hx hb hts hml hown hK hro zcX4 (kX4_offer l X) (zgoodV w508 w510 w9 w48 w511) rfl rfl rfl (by decide +kernel) ⟨Nat.le_of_ble_eq_true rfl, Nat.le_of_ble_eq_true rfl⟩ dX4_offerOrders_71) ?_
  refine zcons (s_iinc hx hb 1 dX4_offerOrders_74 (by decide)) ?_
  refine zcons (s_goto hx hb 15 dX4_offerOrders_77 (by decide)) ?_
  refine zcons (s_iinc hx hb 1 dX4_offerOrders_80 (by decide)) ?_
  refine zcons (s_goto hx hb 2 dX4_offerOrders_83 (by decide)) ?_
  refine zcons (s_vret hx hb hr hK hlk dX4_offerOrders_86) ?_
  exact znil
noncomputable def tX4_read : List (Nat × AI) := [(0, a_aload 1 0), (1, a_aload 2 0), (2, a_getR 5 4 (fun _ => 1)), (5, a_iload 6 1), (6, a_callV 9 1 1 mX1_slotAt), (9, a_push 10 (.inl 0)), (10, a_callV 13 2 4 mX4_offerAnswers), (13, a_aload 14 0), (14, a_callV 17 0 4 mX4_offerOrders), (17, a_aload 18 0), (18, a_aload 19 0), (19, a_getR 22 4 (fun _ => 1)), (22, a_push 24 (.inl 7)), (24, a_callV 27 2 4 mX4_offerListed), (27, a_aload 28 0), (28, a_aload 29 0), (29, a_getR 32 4 (fun _ => 1)), (32, a_iload 33 2), (33, a_callV 36 1 1 mX1_slotAt), (36, a_push 38 (.inl 8)), (38, a_callV 41 2 4 mX4_offerAnswers), (41, a_vret)]
noncomputable def mX4_read : List AV → MM → Option AR := zsem tX4_read 3 3
def wX4_read : List Cond := .code yX4_read cX4_read 3 none :: lw_g
def rX4_read : Room := { frames := 6, cells := 0, slots := 0, locals := 151 }
set_option maxHeartbeats 4000000 in
set_option maxRecDepth 100000 in
theorem kX4_read (l : Launch) (X : XC) : zM l X yX4_read wX4_read rX4_read mX4_read := by
  refine zMet tX4_read 3 (by decide) rfl (by decide) ?_
  intro p e s m args below meth c res hC
  obtain ⟨hx, hb, hr, hts0, hown, hml, hlk, hK⟩ := hC
  have hts : ∀ w ∈ lw_g, w.before args s = true := fun w h => hts0 w (List.mem_cons_of_mem _ h)
  have hro : 0 ≤ (headSpec wX4_read rX4_read).room.cells ∧ 0 ≤ (headSpec wX4_read rX4_read).room.slots := ⟨Nat.zero_le _, Nat.zero_le _⟩
  refine zcons (s_aload_n hx hb 0 dX4_read_0 rfl) ?_
  refine zcons (s_aload_n hx hb 0 dX4_read_1 rfl) ?_
  refine zcons (s_getR hx hb hts hown hK zcX4 hinX4 0 (by decide) w214 rfl (fun _ => 1) (zptf (by decide) (by decide +kernel)) dX4_read_2) ?_
  refine zcons (s_iload_n hx hb 1 dX4_read_5 rfl) ?_
  refine zcons (s_callV (hZ := fun _ h => h) hx hb hts hml hown hK hro zcX1 (kX1_slotAt l X) (zgoodV w437 w354 w355 w45 w356) rfl rfl rfl (by decide +kernel) ⟨Nat.le_of_ble_eq_true rfl, Nat.le_of_ble_eq_true rfl⟩ dX4_read_6) ?_
  refine zcons (s_iconst hx hb 0 dX4_read_9 (by decide)) ?_
  refine zcons (s_callV (hZ := fun _ h => h) hx hb hts hml hown hK hro zcX4 (kX4_offerAnswers l X) (zgoodV w438 w440 w3 w48 w441) rfl rfl rfl (by decide +kernel) ⟨Nat.le_of_ble_eq_true rfl, Nat.le_of_ble_eq_true rfl⟩ dX4_read_10) ?_
  refine zcons (s_aload_n hx hb 0 dX4_read_13 rfl) ?_
  refine zcons (s_callV (hZ := fun _ h => h) hx hb hts hml hown hK hro zcX4 (kX4_offerOrders l X) (zgoodV w536 w538 w11 w48 w539) rfl rfl rfl (by decide +kernel) ⟨Nat.le_of_ble_eq_true rfl, Nat.le_of_ble_eq_true rfl⟩ dX4_read_14) ?_
  refine zcons (s_aload_n hx hb 0 dX4_read_17 rfl) ?_
  refine zcons (s_aload_n hx hb 0 dX4_read_18 rfl) ?_
  refine zcons (s_getR hx hb hts hown hK zcX4 hinX4 0 (by decide) w214 rfl (fun _ => 1) (zptf (by decide) (by decide +kernel)) dX4_read_19) ?_
  refine zcons (s_bipush hx hb 7 dX4_read_22 (by decide)) ?_
  refine zcons (s_callV (hZ := fun _ h => h) hx hb hts hml hown hK hro zcX4 (kX4_offerListed l X) (zgoodV w514 w516 w10 w48 w517) rfl rfl rfl (by decide +kernel) ⟨Nat.le_of_ble_eq_true rfl, Nat.le_of_ble_eq_true rfl⟩ dX4_read_24) ?_
  refine zcons (s_aload_n hx hb 0 dX4_read_27 rfl) ?_
  refine zcons (s_aload_n hx hb 0 dX4_read_28 rfl) ?_
  refine zcons (s_getR hx hb hts hown hK zcX4 hinX4 0 (by decide) w214 rfl (fun _ => 1) (zptf (by decide) (by decide +kernel)) dX4_read_29) ?_
  refine zcons (s_iload_n hx hb 2 dX4_read_32 rfl) ?_
  refine zcons (s_callV (hZ := fun _ h => h) hx hb hts hml hown hK hro zcX1 (kX1_slotAt l X) (zgoodV w437 w354 w355 w45 w356) rfl rfl rfl (by decide +kernel) ⟨Nat.le_of_ble_eq_true rfl, Nat.le_of_ble_eq_true rfl⟩ dX4_read_33) ?_
  refine zcons (s_bipush hx hb 8 dX4_read_36 (by decide)) ?_
  refine zcons (s_callV (hZ := fun _ h => h) hx hb hts hml hown hK hro zcX4 (kX4_offerAnswers l X) (zgoodV w438 w440 w3 w48 w441) rfl rfl rfl (by decide +kernel) ⟨Nat.le_of_ble_eq_true rfl, Nat.le_of_ble_eq_true rfl⟩ dX4_read_38) ?_
  refine zcons (s_vret hx hb hr hK hlk dX4_read_41) ?_
  exact znil
noncomputable def tX4_key : List (Nat × AI) := [(0, a_aload 1 0), (1, a_getR 4 4 (fun _ => 10)), (4, a_push 5 (.inl 0)), (5, a_iload 6 1), (6, a_callV 9 2 7 mX7_key), (9, a_iret)]
noncomputable def mX4_key : List AV → MM → Option AR := zsem tX4_key 2 2
def wX4_key : List Cond := .code yX4_key cX4_key 2 (some .int) :: lw_g
def rX4_key : Room := { frames := 1, cells := 0, slots := 0, locals := 23 }
set_option maxHeartbeats 4000000 in
set_option maxRecDepth 100000 in
theorem kX4_key (l : Launch) (X : XC) : zM l X yX4_key wX4_key rX4_key mX4_key := by
  refine zMet tX4_key 2 (by decide) rfl (by decide) ?_
  intro p e s m args below meth c res hC
  obtain ⟨hx, hb, hr, hts0, hown, hml, hlk, hK⟩ := hC
  have hts : ∀ w ∈ lw_g, w.before args s = true := fun w h => hts0 w (List.mem_cons_of_mem _ h)
  have hro : 0 ≤ (headSpec wX4_key rX4_key).room.cells ∧ 0 ≤ (headSpec wX4_key rX4_key).room.slots := ⟨Nat.zero_le _, Nat.zero_le _⟩
  refine zcons (s_aload_n hx hb 0 dX4_key_0 rfl) ?_
  refine zcons (s_getR hx hb hts hown hK zcX4 hinX4 2 (by decide) w216 rfl (fun _ => 10) (zptf (by decide) (by decide +kernel)) dX4_key_1) ?_
  refine zcons (s_iconst hx hb 0 dX4_key_4 (by decide)) ?_
  refine zcons (s_iload_n hx hb 1 dX4_key_5 rfl) ?_
  refine zcons (s_callV (hZ := fun _ h => h) hx hb hts hml hown hK hro zcX7 (kX7_key l X) (zgoodV w548 w492 w493 w49 w494) rfl rfl rfl (by decide +kernel) ⟨Nat.le_of_ble_eq_true rfl, Nat.le_of_ble_eq_true rfl⟩ dX4_key_6) ?_
  refine zcons (s_iret hx hb hr hK hlk dX4_key_9) ?_
  exact znil
noncomputable def tX4_found : List (Nat × AI) := [(0, a_aload 1 0), (1, a_iload 2 1), (2, a_callV 5 1 4 mX4_key), (5, a_push 6 (.inl (-1))), (6, a_c_eq 9 13), (9, a_push 10 (.inl 1)), (10, a_goto 14), (13, a_push 14 (.inl 0)), (14, a_zret)]
noncomputable def mX4_found : List AV → MM → Option AR := zsem tX4_found 2 2
def wX4_found : List Cond := .code yX4_found cX4_found 2 (some .boolean) :: lw_g
def rX4_found : Room := { frames := 2, cells := 0, slots := 0, locals := 44 }
set_option maxHeartbeats 4000000 in
set_option maxRecDepth 100000 in
theorem kX4_found (l : Launch) (X : XC) : zM l X yX4_found wX4_found rX4_found mX4_found := by
  refine zMet tX4_found 2 (by decide) rfl (by decide) ?_
  intro p e s m args below meth c res hC
  obtain ⟨hx, hb, hr, hts0, hown, hml, hlk, hK⟩ := hC
  have hts : ∀ w ∈ lw_g, w.before args s = true := fun w h => hts0 w (List.mem_cons_of_mem _ h)
  have hro : 0 ≤ (headSpec wX4_found rX4_found).room.cells ∧ 0 ≤ (headSpec wX4_found rX4_found).room.slots := ⟨Nat.zero_le _, Nat.zero_le _⟩
  refine zcons (s_aload_n hx hb 0 dX4_found_0 rfl) ?_
  refine zcons (s_iload_n hx hb 1 dX4_found_1 rfl) ?_
  refine zcons (s_callV (hZ := fun _ h => h) hx hb hts hml hown hK hro zcX4 (kX4_key l X) (zgoodV w544 w545 w546 w48 w547) rfl rfl rfl (by decide +kernel) ⟨Nat.le_of_ble_eq_true rfl, Nat.le_of_ble_eq_true rfl⟩ dX4_found_2) ?_
  refine zcons (s_iconst hx hb (-1) dX4_found_5 (by decide)) ?_
  refine zcons (s_c_eq hx hb 13 dX4_found_6 (by decide)) ?_
  refine zcons (s_iconst hx hb 1 dX4_found_9 (by decide)) ?_
  refine zcons (s_goto hx hb 14 dX4_found_10 (by decide)) ?_
  refine zcons (s_iconst hx hb 0 dX4_found_13 (by decide)) ?_
  refine zcons (s_zret hx hb hr hK hlk dX4_found_14) ?_
  exact znil
noncomputable def tX4_sortOf : List (Nat × AI) := [(0, a_iload 1 0), (1, a_push 3 (.inl 100000000)), (3, a_div 4), (4, a_iret)]
noncomputable def mX4_sortOf : List AV → MM → Option AR := zsem tX4_sortOf 1 1
def wX4_sortOf : List Cond := .code yX4_sortOf cX4_sortOf 1 (some .int) :: lw_g
def rX4_sortOf : Room := { frames := 0, cells := 0, slots := 0, locals := 0 }
set_option maxHeartbeats 4000000 in
set_option maxRecDepth 100000 in
theorem kX4_sortOf (l : Launch) (X : XC) : zM l X yX4_sortOf wX4_sortOf rX4_sortOf mX4_sortOf := by
  refine zMet tX4_sortOf 1 (by decide) rfl (by decide) ?_
  intro p e s m args below meth c res hC
  obtain ⟨hx, hb, hr, hts0, hown, hml, hlk, hK⟩ := hC
  have hts : ∀ w ∈ lw_g, w.before args s = true := fun w h => hts0 w (List.mem_cons_of_mem _ h)
  have hro : 0 ≤ (headSpec wX4_sortOf rX4_sortOf).room.cells ∧ 0 ≤ (headSpec wX4_sortOf rX4_sortOf).room.slots := ⟨Nat.zero_le _, Nat.zero_le _⟩
  refine zcons (s_iload_n hx hb 0 dX4_sortOf_0 rfl) ?_
  refine zcons (s_ldc hx hb 100000000 hown (hts _ w512) dX4_sortOf_1) ?_
  refine zcons (s_idiv hx hb dX4_sortOf_3) ?_
  refine zcons (s_iret hx hb hr hK hlk dX4_sortOf_4) ?_
  exact znil
noncomputable def tX4_sort : List (Nat × AI) := [(0, a_aload 1 0), (1, a_iload 2 1), (2, a_callV 5 1 4 mX4_found), (5, a_if_eq 8 19), (8, a_aload 9 0), (9, a_iload 10 1), (10, a_callV 13 1 4 mX4_key), (13, a_callS 16 1 mX4_sortOf), (16, a_goto 20), (19, a_push 20 (.inl (-1))), (20, a_iret)]
noncomputable def mX4_sort : List AV → MM → Option AR := zsem tX4_sort 2 2
def wX4_sort : List Cond := .code yX4_sort cX4_sort 2 (some .int) :: lw_g
def rX4_sort : Room := { frames := 3, cells := 0, slots := 0, locals := 65 }
set_option maxHeartbeats 4000000 in
set_option maxRecDepth 100000 in
theorem kX4_sort (l : Launch) (X : XC) : zM l X yX4_sort wX4_sort rX4_sort mX4_sort := by
  refine zMet tX4_sort 2 (by decide) rfl (by decide) ?_
  intro p e s m args below meth c res hC
  obtain ⟨hx, hb, hr, hts0, hown, hml, hlk, hK⟩ := hC
  have hts : ∀ w ∈ lw_g, w.before args s = true := fun w h => hts0 w (List.mem_cons_of_mem _ h)
  have hro : 0 ≤ (headSpec wX4_sort rX4_sort).room.cells ∧ 0 ≤ (headSpec wX4_sort rX4_sort).room.slots := ⟨Nat.zero_le _, Nat.zero_le _⟩
  refine zcons (s_aload_n hx hb 0 dX4_sort_0 rfl) ?_
  refine zcons (s_iload_n hx hb 1 dX4_sort_1 rfl) ?_
  refine zcons (s_callV (hZ := fun _ h => h) hx hb hts hml hown hK hro zcX4 (kX4_found l X) (zgoodV w557 w541 w542 w48 w543) rfl rfl rfl (by decide +kernel) ⟨Nat.le_of_ble_eq_true rfl, Nat.le_of_ble_eq_true rfl⟩ dX4_sort_2) ?_
  refine zcons (s_if_eq hx hb 19 dX4_sort_5 (by decide)) ?_
  refine zcons (s_aload_n hx hb 0 dX4_sort_8 rfl) ?_
  refine zcons (s_iload_n hx hb 1 dX4_sort_9 rfl) ?_
  refine zcons (s_callV (hZ := fun _ h => h) hx hb hts hml hown hK hro zcX4 (kX4_key l X) (zgoodV w544 w545 w546 w48 w547) rfl rfl rfl (by decide +kernel) ⟨Nat.le_of_ble_eq_true rfl, Nat.le_of_ble_eq_true rfl⟩ dX4_sort_10) ?_
  refine zcons (s_callS (hZ := fun _ h => h) hx hb hts hml hown hK hro (kX4_sortOf l X) (va_cwS 1 hts (zgoodS w568 w569 w48 w570) rfl rfl rfl (by decide +kernel) ⟨Nat.le_of_ble_eq_true rfl, Nat.le_of_ble_eq_true rfl⟩) dX4_sort_13) ?_
  refine zcons (s_goto hx hb 20 dX4_sort_16 (by decide)) ?_
  refine zcons (s_iconst hx hb (-1) dX4_sort_19 (by decide)) ?_
  refine zcons (s_iret hx hb hr hK hlk dX4_sort_20) ?_
  exact znil
noncomputable def tX4_valueOf : List (Nat × AI) := [(0, a_iload 1 0), (1, a_push 3 (.inl 100000000)), (3, a_rem 4), (4, a_iret)]
noncomputable def mX4_valueOf : List AV → MM → Option AR := zsem tX4_valueOf 1 1
def wX4_valueOf : List Cond := .code yX4_valueOf cX4_valueOf 1 (some .int) :: lw_g
def rX4_valueOf : Room := { frames := 0, cells := 0, slots := 0, locals := 0 }
set_option maxHeartbeats 4000000 in
set_option maxRecDepth 100000 in
theorem kX4_valueOf (l : Launch) (X : XC) : zM l X yX4_valueOf wX4_valueOf rX4_valueOf mX4_valueOf := by
  refine zMet tX4_valueOf 1 (by decide) rfl (by decide) ?_
  intro p e s m args below meth c res hC
  obtain ⟨hx, hb, hr, hts0, hown, hml, hlk, hK⟩ := hC
  have hts : ∀ w ∈ lw_g, w.before args s = true := fun w h => hts0 w (List.mem_cons_of_mem _ h)
  have hro : 0 ≤ (headSpec wX4_valueOf rX4_valueOf).room.cells ∧ 0 ≤ (headSpec wX4_valueOf rX4_valueOf).room.slots := ⟨Nat.zero_le _, Nat.zero_le _⟩
  refine zcons (s_iload_n hx hb 0 dX4_valueOf_0 rfl) ?_
  refine zcons (s_ldc hx hb 100000000 hown (hts _ w512) dX4_valueOf_1) ?_
  refine zcons (s_irem hx hb dX4_valueOf_3) ?_
  refine zcons (s_iret hx hb hr hK hlk dX4_valueOf_4) ?_
  exact znil
noncomputable def tX4_value : List (Nat × AI) := [(0, a_aload 1 0), (1, a_iload 2 1), (2, a_callV 5 1 4 mX4_found), (5, a_if_eq 8 19), (8, a_aload 9 0), (9, a_iload 10 1), (10, a_callV 13 1 4 mX4_key), (13, a_callS 16 1 mX4_valueOf), (16, a_goto 20), (19, a_push 20 (.inl (-1))), (20, a_iret)]
noncomputable def mX4_value : List AV → MM → Option AR := zsem tX4_value 2 2
def wX4_value : List Cond := .code yX4_value cX4_value 2 (some .int) :: lw_g
def rX4_value : Room := { frames := 3, cells := 0, slots := 0, locals := 65 }
set_option maxHeartbeats 4000000 in
set_option maxRecDepth 100000 in
theorem kX4_value (l : Launch) (X : XC) : zM l X yX4_value wX4_value rX4_value mX4_value := by
  refine zMet tX4_value 2 (by decide) rfl (by decide) ?_
  intro p e s m args below meth c res hC
  obtain ⟨hx, hb, hr, hts0, hown, hml, hlk, hK⟩ := hC
  have hts : ∀ w ∈ lw_g, w.before args s = true := fun w h => hts0 w (List.mem_cons_of_mem _ h)
  have hro : 0 ≤ (headSpec wX4_value rX4_value).room.cells ∧ 0 ≤ (headSpec wX4_value rX4_value).room.slots := ⟨Nat.zero_le _, Nat.zero_le _⟩
  refine zcons (s_aload_n hx hb 0 dX4_value_0 rfl) ?_
  refine zcons (s_iload_n hx hb 1 dX4_value_1 rfl) ?_
  refine zcons (s_callV (hZ := fun _ h => h) hx hb hts hml hown hK hro zcX4 (kX4_found l X) (zgoodV w557 w541 w542 w48 w543) rfl rfl rfl (by decide +kernel) ⟨Nat.le_of_ble_eq_true rfl, Nat.le_of_ble_eq_true rfl⟩ dX4_value_2) ?_
  refine zcons (s_if_eq hx hb 19 dX4_value_5 (by decide)) ?_
  refine zcons (s_aload_n hx hb 0 dX4_value_8 rfl) ?_
  refine zcons (s_iload_n hx hb 1 dX4_value_9 rfl) ?_
  refine zcons (s_callV (hZ := fun _ h => h) hx hb hts hml hown hK hro zcX4 (kX4_key l X) (zgoodV w544 w545 w546 w48 w547) rfl rfl rfl (by decide +kernel) ⟨Nat.le_of_ble_eq_true rfl, Nat.le_of_ble_eq_true rfl⟩ dX4_value_10) ?_
  refine zcons (s_callS (hZ := fun _ h => h) hx hb hts hml hown hK hro (kX4_valueOf l X) (va_cwS 1 hts (zgoodS w650 w576 w48 w577) rfl rfl rfl (by decide +kernel) ⟨Nat.le_of_ble_eq_true rfl, Nat.le_of_ble_eq_true rfl⟩) dX4_value_13) ?_
  refine zcons (s_goto hx hb 20 dX4_value_16 (by decide)) ?_
  refine zcons (s_iconst hx hb (-1) dX4_value_19 (by decide)) ?_
  refine zcons (s_iret hx hb hr hK hlk dX4_value_20) ?_
  exact znil
noncomputable def tX4_cost : List (Nat × AI) := [(0, a_aload 1 0), (1, a_iload 2 1), (2, a_callV 5 1 4 mX4_found), (5, a_if_eq 8 20), (8, a_aload 9 0), (9, a_getR 12 4 (fun _ => 10)), (12, a_push 13 (.inl 0)), (13, a_iload 14 1), (14, a_callV 17 2 7 mX7_cost), (17, a_goto 21), (20, a_push 21 (.inl (-1))), (21, a_iret)]
noncomputable def mX4_cost : List AV → MM → Option AR := zsem tX4_cost 2 2
def wX4_cost : List Cond := .code yX4_cost cX4_cost 2 (some .int) :: lw_g
def rX4_cost : Room := { frames := 3, cells := 0, slots := 0, locals := 65 }
set_option maxHeartbeats 4000000 in
set_option maxRecDepth 100000 in
theorem kX4_cost (l : Launch) (X : XC) : zM l X yX4_cost wX4_cost rX4_cost mX4_cost := by
  refine zMet tX4_cost 2 (by decide) rfl (by decide) ?_
  intro p e s m args below meth c res hC
  obtain ⟨hx, hb, hr, hts0, hown, hml, hlk, hK⟩ := hC
  have hts : ∀ w ∈ lw_g, w.before args s = true := fun w h => hts0 w (List.mem_cons_of_mem _ h)
  have hro : 0 ≤ (headSpec wX4_cost rX4_cost).room.cells ∧ 0 ≤ (headSpec wX4_cost rX4_cost).room.slots := ⟨Nat.zero_le _, Nat.zero_le _⟩
  refine zcons (s_aload_n hx hb 0 dX4_cost_0 rfl) ?_
  refine zcons (s_iload_n hx hb 1 dX4_cost_1 rfl) ?_
  refine zcons (s_callV (hZ := fun _ h => h) hx hb hts hml hown hK hro zcX4 (kX4_found l X) (zgoodV w557 w541 w542 w48 w543) rfl rfl rfl (by decide +kernel) ⟨Nat.le_of_ble_eq_true rfl, Nat.le_of_ble_eq_true rfl⟩ dX4_cost_2) ?_
  refine zcons (s_if_eq hx hb 20 dX4_cost_5 (by decide)) ?_
  refine zcons (s_aload_n hx hb 0 dX4_cost_8 rfl) ?_
  refine zcons (s_getR hx hb hts hown hK zcX4 hinX4 2 (by decide) w216 rfl (fun _ => 10) (zptf (by decide) (by decide +kernel)) dX4_cost_9) ?_
  refine zcons (s_iconst hx hb 0 dX4_cost_12 (by decide)) ?_
  refine zcons (s_iload_n hx hb 1 dX4_cost_13 rfl) ?_
  refine zcons (s_callV (hZ := fun _ h => h) hx hb hts hml hown hK hro zcX7 (kX7_cost l X) (zgoodV w562 w487 w488 w49 w489) rfl rfl rfl (by decide +kernel) ⟨Nat.le_of_ble_eq_true rfl, Nat.le_of_ble_eq_true rfl⟩ dX4_cost_14) ?_
  refine zcons (s_goto hx hb 21 dX4_cost_17 (by decide)) ?_
  refine zcons (s_iconst hx hb (-1) dX4_cost_20 (by decide)) ?_
  refine zcons (s_iret hx hb hr hK hlk dX4_cost_21) ?_
  exact znil
noncomputable def tX4_isOtherNear : List (Nat × AI) := [(0, a_aload 1 0), (1, a_push 2 (.inl 0)), (2, a_callV 5 1 4 mX4_found), (5, a_if_eq 8 38), (8, a_aload 9 0), (9, a_push 10 (.inl 1)), (10, a_callV 13 1 4 mX4_found), (13, a_if_eq 16 38), (16, a_aload 17 0), (17, a_push 18 (.inl 1)), (18, a_callV 21 1 4 mX4_cost), (21, a_aload 22 0), (22, a_push 23 (.inl 0)), (23, a_callV 26 1 4 mX4_cost), (26, a_aload 27 0), (27, a_getI 30 4 6), (30, a_bin 31 (fun x y => x + y)), (31, a_c_ge 34 38), (34, a_push 35 (.inl 1)), (35, a_goto 39), (38, a_push 39 (.inl 0)), (39, a_zret)]
noncomputable def mX4_isOtherNear : List AV → MM → Option AR := zsem tX4_isOtherNear 1 1
def wX4_isOtherNear : List Cond := .code yX4_isOtherNear cX4_isOtherNear 1 (some .boolean) :: lw_g
def rX4_isOtherNear : Room := { frames := 4, cells := 0, slots := 0, locals := 86 }
set_option maxHeartbeats 4000000 in
set_option maxRecDepth 100000 in
theorem kX4_isOtherNear (l : Launch) (X : XC) : zM l X yX4_isOtherNear wX4_isOtherNear rX4_isOtherNear mX4_isOtherNear := by
  refine zMet tX4_isOtherNear 1 (by decide) rfl (by decide) ?_
  intro p e s m args below meth c res hC
  obtain ⟨hx, hb, hr, hts0, hown, hml, hlk, hK⟩ := hC
  have hts : ∀ w ∈ lw_g, w.before args s = true := fun w h => hts0 w (List.mem_cons_of_mem _ h)
  have hro : 0 ≤ (headSpec wX4_isOtherNear rX4_isOtherNear).room.cells ∧ 0 ≤ (headSpec wX4_isOtherNear rX4_isOtherNear).room.slots := ⟨Nat.zero_le _, Nat.zero_le _⟩
  refine zcons (s_aload_n hx hb 0 dX4_isOtherNear_0 rfl) ?_
  refine zcons (s_iconst hx hb 0 dX4_isOtherNear_1 (by decide)) ?_
  refine zcons (s_callV (hZ := fun _ h => h) hx hb hts hml hown hK hro zcX4 (kX4_found l X) (zgoodV w557 w541 w542 w48 w543) rfl rfl rfl (by decide +kernel) ⟨Nat.le_of_ble_eq_true rfl, Nat.le_of_ble_eq_true rfl⟩ dX4_isOtherNear_2) ?_
  refine zcons (s_if_eq hx hb 38 dX4_isOtherNear_5 (by decide)) ?_
  refine zcons (s_aload_n hx hb 0 dX4_isOtherNear_8 rfl) ?_
  refine zcons (s_iconst hx hb 1 dX4_isOtherNear_9 (by decide)) ?_
  refine zcons (s_callV (hZ := fun _ h => h) hx hb hts hml hown hK hro zcX4 (kX4_found l X) (zgoodV w557 w541 w542 w48 w543) rfl rfl rfl (by decide +kernel) ⟨Nat.le_of_ble_eq_true rfl, Nat.le_of_ble_eq_true rfl⟩ dX4_isOtherNear_10) ?_
  refine zcons (s_if_eq hx hb 38 dX4_isOtherNear_13 (by decide)) ?_
  refine zcons (s_aload_n hx hb 0 dX4_isOtherNear_16 rfl) ?_
  refine zcons (s_iconst hx hb 1 dX4_isOtherNear_17 (by decide)) ?_
  refine zcons (s_callV (hZ := fun _ h => h) hx hb hts hml hown hK hro zcX4 (kX4_cost l X) (zgoodV w558 w559 w560 w48 w561) rfl rfl rfl (by decide +kernel) ⟨Nat.le_of_ble_eq_true rfl, Nat.le_of_ble_eq_true rfl⟩ dX4_isOtherNear_18) ?_
  refine zcons (s_aload_n hx hb 0 dX4_isOtherNear_21 rfl) ?_
  refine zcons (s_iconst hx hb 0 dX4_isOtherNear_22 (by decide)) ?_
  refine zcons (s_callV (hZ := fun _ h => h) hx hb hts hml hown hK hro zcX4 (kX4_cost l X) (zgoodV w558 w559 w560 w48 w561) rfl rfl rfl (by decide +kernel) ⟨Nat.le_of_ble_eq_true rfl, Nat.le_of_ble_eq_true rfl⟩ dX4_isOtherNear_23) ?_
  refine zcons (s_aload_n hx hb 0 dX4_isOtherNear_26 rfl) ?_
  refine zcons (s_getI hx hb hts hown hK zcX4 hinX4 6 (by decide) w222 rfl (zptk (by decide) (by decide +kernel)) dX4_isOtherNear_27) ?_
  refine zcons (s_iadd hx hb dX4_isOtherNear_30) ?_
  refine zcons (s_c_ge hx hb 38 dX4_isOtherNear_31 (by decide)) ?_
  refine zcons (s_iconst hx hb 1 dX4_isOtherNear_34 (by decide)) ?_
  refine zcons (s_goto hx hb 39 dX4_isOtherNear_35 (by decide)) ?_
  refine zcons (s_iconst hx hb 0 dX4_isOtherNear_38 (by decide)) ?_
  refine zcons (s_zret hx hb hr hK hlk dX4_isOtherNear_39) ?_
  exact znil
noncomputable def tX5_isReadBack : List (Nat × AI) := [(0, a_aload 1 0), (1, a_getI 4 5 3), (4, a_if_eq 7 18), (7, a_aload 8 0), (8, a_getI 11 5 2), (11, a_if_ne 14 18), (14, a_push 15 (.inl 1)), (15, a_goto 19), (18, a_push 19 (.inl 0)), (19, a_zret)]
noncomputable def mX5_isReadBack : List AV → MM → Option AR := zsem tX5_isReadBack 1 1
def wX5_isReadBack : List Cond := .code yX5_isReadBack cX5_isReadBack 1 (some .boolean) :: lw_g
def rX5_isReadBack : Room := { frames := 0, cells := 0, slots := 0, locals := 0 }
set_option maxHeartbeats 4000000 in
set_option maxRecDepth 100000 in
theorem kX5_isReadBack (l : Launch) (X : XC) : zM l X yX5_isReadBack wX5_isReadBack rX5_isReadBack mX5_isReadBack := by
  refine zMet tX5_isReadBack 1 (by decide) rfl (by decide) ?_
  intro p e s m args below meth c res hC
  obtain ⟨hx, hb, hr, hts0, hown, hml, hlk, hK⟩ := hC
  have hts : ∀ w ∈ lw_g, w.before args s = true := fun w h => hts0 w (List.mem_cons_of_mem _ h)
  have hro : 0 ≤ (headSpec wX5_isReadBack rX5_isReadBack).room.cells ∧ 0 ≤ (headSpec wX5_isReadBack rX5_isReadBack).room.slots := ⟨Nat.zero_le _, Nat.zero_le _⟩
  refine zcons (s_aload_n hx hb 0 dX5_isReadBack_0 rfl) ?_
  refine zcons (s_getI hx hb hts hown hK zcX5 hinX5 3 (by decide) w85 rfl (zptk (by decide) (by decide +kernel)) dX5_isReadBack_1) ?_
  refine zcons (s_if_eq hx hb 18 dX5_isReadBack_4 (by decide)) ?_
  refine zcons (s_aload_n hx hb 0 dX5_isReadBack_7 rfl) ?_
  refine zcons (s_getI hx hb hts hown hK zcX5 hinX5 2 (by decide) w82 rfl (zptk (by decide) (by decide +kernel)) dX5_isReadBack_8) ?_
  refine zcons (s_if_ne hx hb 18 dX5_isReadBack_11 (by decide)) ?_
  refine zcons (s_iconst hx hb 1 dX5_isReadBack_14 (by decide)) ?_
  refine zcons (s_goto hx hb 19 dX5_isReadBack_15 (by decide)) ?_
  refine zcons (s_iconst hx hb 0 dX5_isReadBack_18 (by decide)) ?_
  refine zcons (s_zret hx hb hr hK hlk dX5_isReadBack_19) ?_
  exact znil
noncomputable def tX6_come : List (Nat × AI) := [(0, a_iload 1 1), (1, a_aload 2 0), (2, a_getI 5 6 3), (5, a_c_ne 8 9), (8, a_vret), (9, a_aload 10 0), (10, a_getI 13 6 3), (13, a_push 14 (.inl (-1))), (14, a_c_eq 17 28), (17, a_aload 18 0), (18, a_getR 21 6 (fun _ => 14)), (21, a_aload 22 0), (22, a_getI 25 6 3), (25, a_callV 28 1 3 mX3_push), (28, a_aload 29 0), (29, a_iload 30 1), (30, a_put 33 6 3), (33, a_vret)]
noncomputable def mX6_come : List AV → MM → Option AR := zsem tX6_come 2 2
def wX6_come : List Cond := .code yX6_come cX6_come 2 none :: lw_g
def rX6_come : Room := { frames := 1, cells := 0, slots := 0, locals := 22 }
set_option maxHeartbeats 4000000 in
set_option maxRecDepth 100000 in
theorem kX6_come (l : Launch) (X : XC) : zM l X yX6_come wX6_come rX6_come mX6_come := by
  refine zMet tX6_come 2 (by decide) rfl (by decide) ?_
  intro p e s m args below meth c res hC
  obtain ⟨hx, hb, hr, hts0, hown, hml, hlk, hK⟩ := hC
  have hts : ∀ w ∈ lw_g, w.before args s = true := fun w h => hts0 w (List.mem_cons_of_mem _ h)
  have hro : 0 ≤ (headSpec wX6_come rX6_come).room.cells ∧ 0 ≤ (headSpec wX6_come rX6_come).room.slots := ⟨Nat.zero_le _, Nat.zero_le _⟩
  refine zcons (s_iload_n hx hb 1 dX6_come_0 rfl) ?_
  refine zcons (s_aload_n hx hb 0 dX6_come_1 rfl) ?_
  refine zcons (s_getI hx hb hts hown hK zcX6 hinX6 3 (by decide) w261 rfl (zptk (by decide) (by decide +kernel)) dX6_come_2) ?_
  refine zcons (s_c_ne hx hb 9 dX6_come_5 (by decide)) ?_
  refine zcons (s_vret hx hb hr hK hlk dX6_come_8) ?_
  refine zcons (s_aload_n hx hb 0 dX6_come_9 rfl) ?_
  refine zcons (s_getI hx hb hts hown hK zcX6 hinX6 3 (by decide) w261 rfl (zptk (by decide) (by decide +kernel)) dX6_come_10) ?_
  refine zcons (s_iconst hx hb (-1) dX6_come_13 (by decide)) ?_
  refine zcons (s_c_eq hx hb 28 dX6_come_14 (by decide)) ?_
  refine zcons (s_aload_n hx hb 0 dX6_come_17 rfl) ?_
  refine zcons (s_getR hx hb hts hown hK zcX6 hinX6 2 (by decide) w260 rfl (fun _ => 14) (zptf (by decide) (by decide +kernel)) dX6_come_18) ?_
  refine zcons (s_aload_n hx hb 0 dX6_come_21 rfl) ?_
  refine zcons (s_getI hx hb hts hown hK zcX6 hinX6 3 (by decide) w261 rfl (zptk (by decide) (by decide +kernel)) dX6_come_22) ?_
  refine zcons (s_callV (hZ := fun _ h => h) hx hb hts hml hown hK hro zcX3 (kX3_push l X) (zgoodV w615 w616 w617 w53 w618) rfl rfl rfl (by decide +kernel) ⟨Nat.le_of_ble_eq_true rfl, Nat.le_of_ble_eq_true rfl⟩ dX6_come_25) ?_
  refine zcons (s_aload_n hx hb 0 dX6_come_28 rfl) ?_
  refine zcons (s_iload_n hx hb 1 dX6_come_29 rfl) ?_
  refine zcons (s_put (hZ := fun _ h => h) hx hb hts hown hK zcX6 hinX6 tyX6 tyX6_ok nmX6 3 (by decide) w261 rfl rfl (zptk (by decide) (by decide +kernel)) (by decide +kernel) dX6_come_30) ?_
  refine zcons (s_vret hx hb hr hK hlk dX6_come_33) ?_
  exact znil
noncomputable def tX6_keep : List (Nat × AI) := [(0, a_aload 1 0), (1, a_aload 2 0), (2, a_getR 5 6 (fun _ => 1)), (5, a_iload 6 1), (6, a_iload 7 2), (7, a_iload 8 3), (8, a_callV 11 3 1 mX1_keepValue), (11, a_put 14 6 7), (14, a_aload 15 0), (15, a_iload 16 1), (16, a_put 19 6 4), (19, a_aload 20 0), (20, a_push 21 (.inl 0)), (21, a_putZ 24 6 6), (24, a_aload 25 0), (25, a_getR 28 6 (fun _ => 1)), (28, a_aload 29 0), (29, a_getI 32 6 3), (32, a_callV 35 1 1 mX1_slotAt), (35, a_astore 37 4), (37, a_aload 39 4), (39, a_null 42 73), (42, a_iload 43 1), (43, a_aload 44 0), (44, a_getI 47 6 3), (47, a_c_eq 50 58), (50, a_aload 52 4), (52, a_getI 55 5 8), (55, a_if_ne 58 73), (58, a_aload 59 0), (59, a_aload 60 0), (60, a_getR 63 6 (fun _ => 1)), (63, a_aload 64 0), (64, a_getI 67 6 3), (67, a_callV 70 1 1 mX1_nextBehind), (70, a_callV 73 1 6 mX6_come), (73, a_push 74 (.inl 4)), (74, a_iret)]
noncomputable def mX6_keep : List AV → MM → Option AR := zsem tX6_keep 5 4
def wX6_keep : List Cond := .code yX6_keep cX6_keep 5 (some .int) :: lw_g
def rX6_keep : Room := { frames := 3, cells := 0, slots := 0, locals := 68 }
set_option maxHeartbeats 4000000 in
set_option maxRecDepth 100000 in
theorem kX6_keep (l : Launch) (X : XC) : zM l X yX6_keep wX6_keep rX6_keep mX6_keep := by
  refine zMet tX6_keep 4 (by decide) rfl (by decide) ?_
  intro p e s m args below meth c res hC
  obtain ⟨hx, hb, hr, hts0, hown, hml, hlk, hK⟩ := hC
  have hts : ∀ w ∈ lw_g, w.before args s = true := fun w h => hts0 w (List.mem_cons_of_mem _ h)
  have hro : 0 ≤ (headSpec wX6_keep rX6_keep).room.cells ∧ 0 ≤ (headSpec wX6_keep rX6_keep).room.slots := ⟨Nat.zero_le _, Nat.zero_le _⟩
  refine zcons (s_aload_n hx hb 0 dX6_keep_0 rfl) ?_
  refine zcons (s_aload_n hx hb 0 dX6_keep_1 rfl) ?_
  refine zcons (s_getR hx hb hts hown hK zcX6 hinX6 0 (by decide) w258 rfl (fun _ => 1) (zptf (by decide) (by decide +kernel)) dX6_keep_2) ?_
  refine zcons (s_iload_n hx hb 1 dX6_keep_5 rfl) ?_
  refine zcons (s_iload_n hx hb 2 dX6_keep_6 rfl) ?_
  refine zcons (s_iload_n hx hb 3 dX6_keep_7 rfl) ?_
  refine zcons (s_callV (hZ := fun _ h => h) hx hb hts hml hown hK hro zcX1 (kX1_keepValue l X) (zgoodV w592 w593 w594 w45 w595) rfl rfl rfl (by decide +kernel) ⟨Nat.le_of_ble_eq_true rfl, Nat.le_of_ble_eq_true rfl⟩ dX6_keep_8) ?_
  refine zcons (s_put (hZ := fun _ h => h) hx hb hts hown hK zcX6 hinX6 tyX6 tyX6_ok nmX6 7 (by decide) w269 rfl rfl (zptk (by decide) (by decide +kernel)) (by decide +kernel) dX6_keep_11) ?_
  refine zcons (s_aload_n hx hb 0 dX6_keep_14 rfl) ?_
  refine zcons (s_iload_n hx hb 1 dX6_keep_15 rfl) ?_
  refine zcons (s_put (hZ := fun _ h => h) hx hb hts hown hK zcX6 hinX6 tyX6 tyX6_ok nmX6 4 (by decide) w263 rfl rfl (zptk (by decide) (by decide +kernel)) (by decide +kernel) dX6_keep_16) ?_
  refine zcons (s_aload_n hx hb 0 dX6_keep_19 rfl) ?_
  refine zcons (s_iconst hx hb 0 dX6_keep_20 (by decide)) ?_
  refine zcons (s_putZ (hZ := fun _ h => h) hx hb hts hown hK zcX6 hinX6 tyX6 tyX6_ok nmX6 6 (by decide) w267 rfl rfl (zptk (by decide) (by decide +kernel)) (by decide +kernel) dX6_keep_21) ?_
  refine zcons (s_aload_n hx hb 0 dX6_keep_24 rfl) ?_
  refine zcons (s_getR hx hb hts hown hK zcX6 hinX6 0 (by decide) w258 rfl (fun _ => 1) (zptf (by decide) (by decide +kernel)) dX6_keep_25) ?_
  refine zcons (s_aload_n hx hb 0 dX6_keep_28 rfl) ?_
  refine zcons (s_getI hx hb hts hown hK zcX6 hinX6 3 (by decide) w261 rfl (zptk (by decide) (by decide +kernel)) dX6_keep_29) ?_
  refine zcons (s_callV (hZ := fun _ h => h) hx hb hts hml hown hK hro zcX1 (kX1_slotAt l X) (zgoodV w583 w354 w355 w45 w356) rfl rfl rfl (by decide +kernel) ⟨Nat.le_of_ble_eq_true rfl, Nat.le_of_ble_eq_true rfl⟩ dX6_keep_32) ?_
  refine zcons (s_astore hx hb dX6_keep_35) ?_
  refine zcons (s_aload hx hb dX6_keep_37) ?_
  refine zcons (s_null hx hb 73 dX6_keep_39 (by decide)) ?_
  refine zcons (s_iload_n hx hb 1 dX6_keep_42 rfl) ?_
  refine zcons (s_aload_n hx hb 0 dX6_keep_43 rfl) ?_
  refine zcons (s_getI hx hb hts hown hK zcX6 hinX6 3 (by decide) w261 rfl (zptk (by decide) (by decide +kernel)) dX6_keep_44) ?_
  refine zcons (s_c_eq hx hb 58 dX6_keep_47 (by decide)) ?_
  refine zcons (s_aload hx hb dX6_keep_50) ?_
  refine zcons (s_getI hx hb hts hown hK zcX5 hinX5 8 (by decide) w97 rfl (zptk (by decide) (by decide +kernel)) dX6_keep_52) ?_
  refine zcons (s_if_ne hx hb 73 dX6_keep_55 (by decide)) ?_
  refine zcons (s_aload_n hx hb 0 dX6_keep_58 rfl) ?_
  refine zcons (s_aload_n hx hb 0 dX6_keep_59 rfl) ?_
  refine zcons (s_getR hx hb hts hown hK zcX6 hinX6 0 (by decide) w258 rfl (fun _ => 1) (zptf (by decide) (by decide +kernel)) dX6_keep_60) ?_
  refine zcons (s_aload_n hx hb 0 dX6_keep_63 rfl) ?_
  refine zcons (s_getI hx hb hts hown hK zcX6 hinX6 3 (by decide) w261 rfl (zptk (by decide) (by decide +kernel)) dX6_keep_64) ?_
  refine zcons (s_callV (hZ := fun _ h => h) hx hb hts hml hown hK hro zcX1 (kX1_nextBehind l X) (zgoodV w596 w597 w598 w45 w599) rfl rfl rfl (by decide +kernel) ⟨Nat.le_of_ble_eq_true rfl, Nat.le_of_ble_eq_true rfl⟩ dX6_keep_67) ?_
  refine zcons (s_callV (hZ := fun _ h => h) hx hb hts hml hown hK hro zcX6 (kX6_come l X) (zgoodV w611 w613 w16 w52 w614) rfl rfl rfl (by decide +kernel) ⟨Nat.le_of_ble_eq_true rfl, Nat.le_of_ble_eq_true rfl⟩ dX6_keep_70) ?_
  refine zcons (s_iconst hx hb 4 dX6_keep_73 (by decide)) ?_
  refine zcons (s_iret hx hb hr hK hlk dX6_keep_74) ?_
  exact znil
noncomputable def tX6_takeAnswer : List (Nat × AI) := [(0, a_aload 1 0), (1, a_getR 4 6 (fun _ => 1)), (4, a_iload 5 1), (5, a_callV 8 1 1 mX1_slotAt), (8, a_astore 9 3), (9, a_aload 10 3), (10, a_null 13 20), (13, a_aload 14 3), (14, a_callV 17 0 5 mX5_isReadBack), (17, a_if_ne 20 28), (20, a_aload 21 0), (21, a_iload 22 1), (22, a_iload 23 2), (23, a_push 24 (.inl 0)), (24, a_callV 27 3 6 mX6_keep), (27, a_iret), (28, a_aload 29 0), (29, a_push 30 (.inl 1)), (30, a_put 33 6 8), (33, a_aload 34 0), (34, a_iload 35 1), (35, a_put 38 6 9), (38, a_aload 39 0), (39, a_iload 40 2), (40, a_put 43 6 10), (43, a_push 44 (.inl 3)), (44, a_iret)]
noncomputable def mX6_takeAnswer : List AV → MM → Option AR := zsem tX6_takeAnswer 4 3
def wX6_takeAnswer : List Cond := .code yX6_takeAnswer cX6_takeAnswer 4 (some .int) :: lw_g
def rX6_takeAnswer : Room := { frames := 4, cells := 0, slots := 0, locals := 92 }
set_option maxHeartbeats 4000000 in
set_option maxRecDepth 100000 in
theorem kX6_takeAnswer (l : Launch) (X : XC) : zM l X yX6_takeAnswer wX6_takeAnswer rX6_takeAnswer mX6_takeAnswer := by
  refine zMet tX6_takeAnswer 3 (by decide) rfl (by decide) ?_
  intro p e s m args below meth c res hC
  obtain ⟨hx, hb, hr, hts0, hown, hml, hlk, hK⟩ := hC
  have hts : ∀ w ∈ lw_g, w.before args s = true := fun w h => hts0 w (List.mem_cons_of_mem _ h)
  have hro : 0 ≤ (headSpec wX6_takeAnswer rX6_takeAnswer).room.cells ∧ 0 ≤ (headSpec wX6_takeAnswer rX6_takeAnswer).room.slots := ⟨Nat.zero_le _, Nat.zero_le _⟩
  refine zcons (s_aload_n hx hb 0 dX6_takeAnswer_0 rfl) ?_
  refine zcons (s_getR hx hb hts hown hK zcX6 hinX6 0 (by decide) w258 rfl (fun _ => 1) (zptf (by decide) (by decide +kernel)) dX6_takeAnswer_1) ?_
  refine zcons (s_iload_n hx hb 1 dX6_takeAnswer_4 rfl) ?_
  refine zcons (s_callV (hZ := fun _ h => h) hx hb hts hml hown hK hro zcX1 (kX1_slotAt l X) (zgoodV w583 w354 w355 w45 w356) rfl rfl rfl (by decide +kernel) ⟨Nat.le_of_ble_eq_true rfl, Nat.le_of_ble_eq_true rfl⟩ dX6_takeAnswer_5) ?_
  refine zcons (s_astore_n hx hb 3 dX6_takeAnswer_8 rfl) ?_
  refine zcons (s_aload_n hx hb 3 dX6_takeAnswer_9 rfl) ?_
  refine zcons (s_null hx hb 20 dX6_takeAnswer_10 (by decide)) ?_
  refine zcons (s_aload_n hx hb 3 dX6_takeAnswer_13 rfl) ?_
  refine zcons (s_callV (hZ := fun _ h => h) hx hb hts hml hown hK hro zcX5 (kX5_isReadBack l X) (zgoodV w584 w585 w586 w46 w587) rfl rfl rfl (by decide +kernel) ⟨Nat.le_of_ble_eq_true rfl, Nat.le_of_ble_eq_true rfl⟩ dX6_takeAnswer_14) ?_
  refine zcons (s_if_ne hx hb 28 dX6_takeAnswer_17 (by decide)) ?_
  refine zcons (s_aload_n hx hb 0 dX6_takeAnswer_20 rfl) ?_
  refine zcons (s_iload_n hx hb 1 dX6_takeAnswer_21 rfl) ?_
  refine zcons (s_iload_n hx hb 2 dX6_takeAnswer_22 rfl) ?_
  refine zcons (s_iconst hx hb 0 dX6_takeAnswer_23 (by decide)) ?_
  refine zcons (s_callV (hZ := fun _ h => h) hx hb hts hml hown hK hro zcX6 (kX6_keep l X) (zgoodV w588 w590 w14 w52 w591) rfl rfl rfl (by decide +kernel) ⟨Nat.le_of_ble_eq_true rfl, Nat.le_of_ble_eq_true rfl⟩ dX6_takeAnswer_24) ?_
  refine zcons (s_iret hx hb hr hK hlk dX6_takeAnswer_27) ?_
  refine zcons (s_aload_n hx hb 0 dX6_takeAnswer_28 rfl) ?_
  refine zcons (s_iconst hx hb 1 dX6_takeAnswer_29 (by decide)) ?_
  refine zcons (s_put (hZ := fun _ h => h) hx hb hts hown hK zcX6 hinX6 tyX6 tyX6_ok nmX6 8 (by decide) w271 rfl rfl (zptk (by decide) (by decide +kernel)) (by decide +kernel) dX6_takeAnswer_30) ?_
  refine zcons (s_aload_n hx hb 0 dX6_takeAnswer_33 rfl) ?_
  refine zcons (s_iload_n hx hb 1 dX6_takeAnswer_34 rfl) ?_
  refine zcons (s_put (hZ := fun _ h => h) hx hb hts hown hK zcX6 hinX6 tyX6 tyX6_ok nmX6 9 (by decide) w273 rfl rfl (zptk (by decide) (by decide +kernel)) (by decide +kernel) dX6_takeAnswer_35) ?_
  refine zcons (s_aload_n hx hb 0 dX6_takeAnswer_38 rfl) ?_
  refine zcons (s_iload_n hx hb 2 dX6_takeAnswer_39 rfl) ?_
  refine zcons (s_put (hZ := fun _ h => h) hx hb hts hown hK zcX6 hinX6 tyX6 tyX6_ok nmX6 10 (by decide) w274 rfl rfl (zptk (by decide) (by decide +kernel)) (by decide +kernel) dX6_takeAnswer_40) ?_
  refine zcons (s_iconst hx hb 3 dX6_takeAnswer_43 (by decide)) ?_
  refine zcons (s_iret hx hb hr hK hlk dX6_takeAnswer_44) ?_
  exact znil
noncomputable def tX6_goBack : List (Nat × AI) := [(0, a_push 1 (.inl 0)), (1, a_istore 2 1), (2, a_iload 3 1), (3, a_push 5 (.inl 20)), (5, a_c_ge 8 49), (8, a_aload 9 0), (9, a_getR 12 6 (fun _ => 14)), (12, a_callV 15 0 3 mX3_pop), (15, a_istore 16 2), (16, a_aload 17 0), (17, a_getR 20 6 (fun _ => 1)), (20, a_iload 21 2), (21, a_callV 24 1 1 mX1_slotAt), (24, a_astore 25 3), (25, a_aload 26 3), (26, a_null 29 43), (29, a_aload 30 3), (30, a_getI 33 5 8), (33, a_if_eq 36 43), (36, a_aload 37 0), (37, a_iload 38 2), (38, a_put 41 6 3), (41, a_push 42 (.inl 5)), (42, a_iret), (43, a_iinc 46 1 1), (46, a_goto 2), (49, a_push 51 (.inl 6)), (51, a_iret)]
noncomputable def mX6_goBack : List AV → MM → Option AR := zsem tX6_goBack 4 1
def wX6_goBack : List Cond := .code yX6_goBack cX6_goBack 4 (some .int) :: lw_g
def rX6_goBack : Room := { frames := 1, cells := 0, slots := 0, locals := 21 }
set_option maxHeartbeats 4000000 in
set_option maxRecDepth 100000 in
theorem kX6_goBack (l : Launch) (X : XC) : zM l X yX6_goBack wX6_goBack rX6_goBack mX6_goBack := by
  refine zMet tX6_goBack 1 (by decide) rfl (by decide) ?_
  intro p e s m args below meth c res hC
  obtain ⟨hx, hb, hr, hts0, hown, hml, hlk, hK⟩ := hC
  have hts : ∀ w ∈ lw_g, w.before args s = true := fun w h => hts0 w (List.mem_cons_of_mem _ h)
  have hro : 0 ≤ (headSpec wX6_goBack rX6_goBack).room.cells ∧ 0 ≤ (headSpec wX6_goBack rX6_goBack).room.slots := ⟨Nat.zero_le _, Nat.zero_le _⟩
  refine zcons (s_iconst hx hb 0 dX6_goBack_0 (by decide)) ?_
  refine zcons (s_istore_n hx hb 1 dX6_goBack_1 rfl) ?_
  refine zcons (s_iload_n hx hb 1 dX6_goBack_2 rfl) ?_
  refine zcons (s_bipush hx hb 20 dX6_goBack_3 (by decide)) ?_
  refine zcons (s_c_ge hx hb 49 dX6_goBack_5 (by decide)) ?_
  refine zcons (s_aload_n hx hb 0 dX6_goBack_8 rfl) ?_
  refine zcons (s_getR hx hb hts hown hK zcX6 hinX6 2 (by decide) w260 rfl (fun _ => 14) (zptf (by decide) (by decide +kernel)) dX6_goBack_9) ?_
  refine zcons (s_callV (hZ := fun _ h => h) hx hb hts hml hown hK hro zcX3 (kX3_pop l X) (zgoodV w623 w624 w625 w53 w626) rfl rfl rfl (by decide +kernel) ⟨Nat.le_of_ble_eq_true rfl, Nat.le_of_ble_eq_true rfl⟩ dX6_goBack_12) ?_
  refine zcons (s_istore_n hx hb 2 dX6_goBack_15 rfl) ?_
  refine zcons (s_aload_n hx hb 0 dX6_goBack_16 rfl) ?_
  refine zcons (s_getR hx hb hts hown hK zcX6 hinX6 0 (by decide) w258 rfl (fun _ => 1) (zptf (by decide) (by decide +kernel)) dX6_goBack_17) ?_
  refine zcons (s_iload_n hx hb 2 dX6_goBack_20 rfl) ?_
  refine zcons (s_callV (hZ := fun _ h => h) hx hb hts hml hown hK hro zcX1 (kX1_slotAt l X) (zgoodV w583 w354 w355 w45 w356) rfl rfl rfl (by decide +kernel) ⟨Nat.le_of_ble_eq_true rfl, Nat.le_of_ble_eq_true rfl⟩ dX6_goBack_21) ?_
  refine zcons (s_astore_n hx hb 3 dX6_goBack_24 rfl) ?_
  refine zcons (s_aload_n hx hb 3 dX6_goBack_25 rfl) ?_
  refine zcons (s_null hx hb 43 dX6_goBack_26 (by decide)) ?_
  refine zcons (s_aload_n hx hb 3 dX6_goBack_29 rfl) ?_
  refine zcons (s_getI hx hb hts hown hK zcX5 hinX5 8 (by decide) w97 rfl (zptk (by decide) (by decide +kernel)) dX6_goBack_30) ?_
  refine zcons (s_if_eq hx hb 43 dX6_goBack_33 (by decide)) ?_
  refine zcons (s_aload_n hx hb 0 dX6_goBack_36 rfl) ?_
  refine zcons (s_iload_n hx hb 2 dX6_goBack_37 rfl) ?_
  refine zcons (s_put (hZ := fun _ h => h) hx hb hts hown hK zcX6 hinX6 tyX6 tyX6_ok nmX6 3 (by decide) w261 rfl rfl (zptk (by decide) (by decide +kernel)) (by decide +kernel) dX6_goBack_38) ?_
  refine zcons (s_iconst hx hb 5 dX6_goBack_41 (by decide)) ?_
  refine zcons (s_iret hx hb hr hK hlk dX6_goBack_42) ?_
  refine zcons (s_iinc hx hb 1 dX6_goBack_43 (by decide)) ?_
  refine zcons (s_goto hx hb 2 dX6_goBack_46 (by decide)) ?_
  refine zcons (s_bipush hx hb 6 dX6_goBack_49 (by decide)) ?_
  refine zcons (s_iret hx hb hr hK hlk dX6_goBack_51) ?_
  exact znil
noncomputable def tX6_skip : List (Nat × AI) := [(0, a_aload 1 0), (1, a_getR 4 6 (fun _ => 1)), (4, a_aload 5 0), (5, a_getI 8 6 3), (8, a_callV 11 1 1 mX1_slotAt), (11, a_astore 12 1), (12, a_aload 13 1), (13, a_nonnull 16 19), (16, a_push 18 (.inl 6)), (18, a_iret), (19, a_aload 20 1), (20, a_push 21 (.inl 1)), (21, a_putZ 24 5 12), (24, a_aload 25 0), (25, a_aload 26 0), (26, a_getR 29 6 (fun _ => 1)), (29, a_aload 30 0), (30, a_getI 33 6 3), (33, a_callV 36 1 1 mX1_nextBehind), (36, a_callV 39 1 6 mX6_come), (39, a_push 40 (.inl 5)), (40, a_iret)]
noncomputable def mX6_skip : List AV → MM → Option AR := zsem tX6_skip 2 1
def wX6_skip : List Cond := .code yX6_skip cX6_skip 2 (some .int) :: lw_g
def rX6_skip : Room := { frames := 3, cells := 0, slots := 0, locals := 65 }
set_option maxHeartbeats 4000000 in
set_option maxRecDepth 100000 in
theorem kX6_skip (l : Launch) (X : XC) : zM l X yX6_skip wX6_skip rX6_skip mX6_skip := by
  refine zMet tX6_skip 1 (by decide) rfl (by decide) ?_
  intro p e s m args below meth c res hC
  obtain ⟨hx, hb, hr, hts0, hown, hml, hlk, hK⟩ := hC
  have hts : ∀ w ∈ lw_g, w.before args s = true := fun w h => hts0 w (List.mem_cons_of_mem _ h)
  have hro : 0 ≤ (headSpec wX6_skip rX6_skip).room.cells ∧ 0 ≤ (headSpec wX6_skip rX6_skip).room.slots := ⟨Nat.zero_le _, Nat.zero_le _⟩
  refine zcons (s_aload_n hx hb 0 dX6_skip_0 rfl) ?_
  refine zcons (s_getR hx hb hts hown hK zcX6 hinX6 0 (by decide) w258 rfl (fun _ => 1) (zptf (by decide) (by decide +kernel)) dX6_skip_1) ?_
  refine zcons (s_aload_n hx hb 0 dX6_skip_4 rfl) ?_
  refine zcons (s_getI hx hb hts hown hK zcX6 hinX6 3 (by decide) w261 rfl (zptk (by decide) (by decide +kernel)) dX6_skip_5) ?_
  refine zcons (s_callV (hZ := fun _ h => h) hx hb hts hml hown hK hro zcX1 (kX1_slotAt l X) (zgoodV w583 w354 w355 w45 w356) rfl rfl rfl (by decide +kernel) ⟨Nat.le_of_ble_eq_true rfl, Nat.le_of_ble_eq_true rfl⟩ dX6_skip_8) ?_
  refine zcons (s_astore_n hx hb 1 dX6_skip_11 rfl) ?_
  refine zcons (s_aload_n hx hb 1 dX6_skip_12 rfl) ?_
  refine zcons (s_nonnull hx hb 19 dX6_skip_13 (by decide)) ?_
  refine zcons (s_bipush hx hb 6 dX6_skip_16 (by decide)) ?_
  refine zcons (s_iret hx hb hr hK hlk dX6_skip_18) ?_
  refine zcons (s_aload_n hx hb 1 dX6_skip_19 rfl) ?_
  refine zcons (s_iconst hx hb 1 dX6_skip_20 (by decide)) ?_
  refine zcons (s_putZ (hZ := fun _ h => h) hx hb hts hown hK zcX5 hinX5 tyX5 tyX5_ok nmX5 12 (by decide) w109 rfl rfl (zptk (by decide) (by decide +kernel)) (by decide +kernel) dX6_skip_21) ?_
  refine zcons (s_aload_n hx hb 0 dX6_skip_24 rfl) ?_
  refine zcons (s_aload_n hx hb 0 dX6_skip_25 rfl) ?_
  refine zcons (s_getR hx hb hts hown hK zcX6 hinX6 0 (by decide) w258 rfl (fun _ => 1) (zptf (by decide) (by decide +kernel)) dX6_skip_26) ?_
  refine zcons (s_aload_n hx hb 0 dX6_skip_29 rfl) ?_
  refine zcons (s_getI hx hb hts hown hK zcX6 hinX6 3 (by decide) w261 rfl (zptk (by decide) (by decide +kernel)) dX6_skip_30) ?_
  refine zcons (s_callV (hZ := fun _ h => h) hx hb hts hml hown hK hro zcX1 (kX1_nextBehind l X) (zgoodV w596 w597 w598 w45 w599) rfl rfl rfl (by decide +kernel) ⟨Nat.le_of_ble_eq_true rfl, Nat.le_of_ble_eq_true rfl⟩ dX6_skip_33) ?_
  refine zcons (s_callV (hZ := fun _ h => h) hx hb hts hml hown hK hro zcX6 (kX6_come l X) (zgoodV w611 w613 w16 w52 w614) rfl rfl rfl (by decide +kernel) ⟨Nat.le_of_ble_eq_true rfl, Nat.le_of_ble_eq_true rfl⟩ dX6_skip_36) ?_
  refine zcons (s_iconst hx hb 5 dX6_skip_39 (by decide)) ?_
  refine zcons (s_iret hx hb hr hK hlk dX6_skip_40) ?_
  exact znil
noncomputable def tX6_goTo : List (Nat × AI) := [(0, a_aload 1 0), (1, a_getR 4 6 (fun _ => 1)), (4, a_iload 5 1), (5, a_callV 8 1 1 mX1_slotAt), (8, a_astore 9 2), (9, a_aload 10 2), (10, a_null 13 20), (13, a_aload 14 2), (14, a_getI 17 5 8), (17, a_if_ne 20 23), (20, a_push 22 (.inl 6)), (22, a_iret), (23, a_aload 24 2), (24, a_push 25 (.inl 0)), (25, a_putZ 28 5 12), (28, a_aload 29 0), (29, a_iload 30 1), (30, a_callV 33 1 6 mX6_come), (33, a_push 34 (.inl 5)), (34, a_iret)]
noncomputable def mX6_goTo : List AV → MM → Option AR := zsem tX6_goTo 3 2
def wX6_goTo : List Cond := .code yX6_goTo cX6_goTo 3 (some .int) :: lw_g
def rX6_goTo : Room := { frames := 2, cells := 0, slots := 0, locals := 43 }
set_option maxHeartbeats 4000000 in
set_option maxRecDepth 100000 in
theorem kX6_goTo (l : Launch) (X : XC) : zM l X yX6_goTo wX6_goTo rX6_goTo mX6_goTo := by
  refine zMet tX6_goTo 2 (by decide) rfl (by decide) ?_
  intro p e s m args below meth c res hC
  obtain ⟨hx, hb, hr, hts0, hown, hml, hlk, hK⟩ := hC
  have hts : ∀ w ∈ lw_g, w.before args s = true := fun w h => hts0 w (List.mem_cons_of_mem _ h)
  have hro : 0 ≤ (headSpec wX6_goTo rX6_goTo).room.cells ∧ 0 ≤ (headSpec wX6_goTo rX6_goTo).room.slots := ⟨Nat.zero_le _, Nat.zero_le _⟩
  refine zcons (s_aload_n hx hb 0 dX6_goTo_0 rfl) ?_
  refine zcons (s_getR hx hb hts hown hK zcX6 hinX6 0 (by decide) w258 rfl (fun _ => 1) (zptf (by decide) (by decide +kernel)) dX6_goTo_1) ?_
  refine zcons (s_iload_n hx hb 1 dX6_goTo_4 rfl) ?_
  refine zcons (s_callV (hZ := fun _ h => h) hx hb hts hml hown hK hro zcX1 (kX1_slotAt l X) (zgoodV w583 w354 w355 w45 w356) rfl rfl rfl (by decide +kernel) ⟨Nat.le_of_ble_eq_true rfl, Nat.le_of_ble_eq_true rfl⟩ dX6_goTo_5) ?_
  refine zcons (s_astore_n hx hb 2 dX6_goTo_8 rfl) ?_
  refine zcons (s_aload_n hx hb 2 dX6_goTo_9 rfl) ?_
  refine zcons (s_null hx hb 20 dX6_goTo_10 (by decide)) ?_
  refine zcons (s_aload_n hx hb 2 dX6_goTo_13 rfl) ?_
  refine zcons (s_getI hx hb hts hown hK zcX5 hinX5 8 (by decide) w97 rfl (zptk (by decide) (by decide +kernel)) dX6_goTo_14) ?_
  refine zcons (s_if_ne hx hb 23 dX6_goTo_17 (by decide)) ?_
  refine zcons (s_bipush hx hb 6 dX6_goTo_20 (by decide)) ?_
  refine zcons (s_iret hx hb hr hK hlk dX6_goTo_22) ?_
  refine zcons (s_aload_n hx hb 2 dX6_goTo_23 rfl) ?_
  refine zcons (s_iconst hx hb 0 dX6_goTo_24 (by decide)) ?_
  refine zcons (s_putZ (hZ := fun _ h => h) hx hb hts hown hK zcX5 hinX5 tyX5 tyX5_ok nmX5 12 (by decide) w109 rfl rfl (zptk (by decide) (by decide +kernel)) (by decide +kernel) dX6_goTo_25) ?_
  refine zcons (s_aload_n hx hb 0 dX6_goTo_28 rfl) ?_
  refine zcons (s_iload_n hx hb 1 dX6_goTo_29 rfl) ?_
  refine zcons (s_callV (hZ := fun _ h => h) hx hb hts hml hown hK hro zcX6 (kX6_come l X) (zgoodV w611 w613 w16 w52 w614) rfl rfl rfl (by decide +kernel) ⟨Nat.le_of_ble_eq_true rfl, Nat.le_of_ble_eq_true rfl⟩ dX6_goTo_30) ?_
  refine zcons (s_iconst hx hb 5 dX6_goTo_33 (by decide)) ?_
  refine zcons (s_iret hx hb hr hK hlk dX6_goTo_34) ?_
  exact znil
noncomputable def tX6_take : List (Nat × AI) := [(0, a_iload 1 1), (1, a_callS 4 1 mX4_valueOf), (4, a_istore 5 2), (5, a_iload 6 1), (6, a_callS 9 1 mX4_sortOf), (9, a_switch [(0, 60), (1, 70), (2, 75), (3, 80), (4, 82), (5, 105), (6, 105), (7, 89), (8, 95)] 105), (60, a_aload 61 0), (61, a_aload 62 0), (62, a_getI 65 6 3), (65, a_iload 66 2), (66, a_callV 69 2 6 mX6_takeAnswer), (69, a_iret), (70, a_aload 71 0), (71, a_callV 74 0 6 mX6_goBack), (74, a_iret), (75, a_aload 76 0), (76, a_callV 79 0 6 mX6_skip), (79, a_iret), (80, a_push 81 (.inl 5)), (81, a_iret), (82, a_aload 83 0), (83, a_push 84 (.inl 1)), (84, a_putZ 87 6 5), (87, a_push 88 (.inl 5)), (88, a_iret), (89, a_aload 90 0), (90, a_iload 91 2), (91, a_callV 94 1 6 mX6_goTo), (94, a_iret), (95, a_aload 96 0), (96, a_aload 97 0), (97, a_getI 100 6 4), (100, a_iload 101 2), (101, a_callV 104 2 6 mX6_takeAnswer), (104, a_iret), (105, a_push 107 (.inl 6)), (107, a_iret)]
noncomputable def mX6_take : List AV → MM → Option AR := zsem tX6_take 3 2
def wX6_take : List Cond := .code yX6_take cX6_take 3 (some .int) :: lw_g
def rX6_take : Room := { frames := 5, cells := 0, slots := 0, locals := 115 }
set_option maxHeartbeats 4000000 in
set_option maxRecDepth 100000 in
theorem kX6_take (l : Launch) (X : XC) : zM l X yX6_take wX6_take rX6_take mX6_take := by
  refine zMet tX6_take 2 (by decide) rfl (by decide) ?_
  intro p e s m args below meth c res hC
  obtain ⟨hx, hb, hr, hts0, hown, hml, hlk, hK⟩ := hC
  have hts : ∀ w ∈ lw_g, w.before args s = true := fun w h => hts0 w (List.mem_cons_of_mem _ h)
  have hro : 0 ≤ (headSpec wX6_take rX6_take).room.cells ∧ 0 ≤ (headSpec wX6_take rX6_take).room.slots := ⟨Nat.zero_le _, Nat.zero_le _⟩
  refine zcons (s_iload_n hx hb 1 dX6_take_0 rfl) ?_
  refine zcons (s_callS (hZ := fun _ h => h) hx hb hts hml hown hK hro (kX4_valueOf l X) (va_cwS 1 hts (zgoodS w575 w576 w48 w577) rfl rfl rfl (by decide +kernel) ⟨Nat.le_of_ble_eq_true rfl, Nat.le_of_ble_eq_true rfl⟩) dX6_take_1) ?_
  refine zcons (s_istore_n hx hb 2 dX6_take_4 rfl) ?_
  refine zcons (s_iload_n hx hb 1 dX6_take_5 rfl) ?_
  refine zcons (s_callS (hZ := fun _ h => h) hx hb hts hml hown hK hro (kX4_sortOf l X) (va_cwS 1 hts (zgoodS w578 w569 w48 w570) rfl rfl rfl (by decide +kernel) ⟨Nat.le_of_ble_eq_true rfl, Nat.le_of_ble_eq_true rfl⟩) dX6_take_6) ?_
  refine zcons (s_switchD hx hb [(0, 60), (1, 70), (2, 75), (3, 80), (4, 82), (5, 105), (6, 105), (7, 89), (8, 95)] 105 dX6_take_9 (by decide +kernel) (by decide)) ?_
  refine zcons (s_aload_n hx hb 0 dX6_take_60 rfl) ?_
  refine zcons (s_aload_n hx hb 0 dX6_take_61 rfl) ?_
  refine zcons (s_getI hx hb hts hown hK zcX6 hinX6 3 (by decide) w261 rfl (zptk (by decide) (by decide +kernel)) dX6_take_62) ?_
  refine zcons (s_iload_n hx hb 2 dX6_take_65 rfl) ?_
  refine zcons (s_callV (hZ := fun _ h => h) hx hb hts hml hown hK hro zcX6 (kX6_takeAnswer l X) (zgoodV w579 w581 w13 w52 w582) rfl rfl rfl (by decide +kernel) ⟨Nat.le_of_ble_eq_true rfl, Nat.le_of_ble_eq_true rfl⟩ dX6_take_66) ?_
  refine zcons (s_iret hx hb hr hK hlk dX6_take_69) ?_
  refine zcons (s_aload_n hx hb 0 dX6_take_70 rfl) ?_
  refine zcons (s_callV (hZ := fun _ h => h) hx hb hts hml hown hK hro zcX6 (kX6_goBack l X) (zgoodV w619 w621 w17 w52 w622) rfl rfl rfl (by decide +kernel) ⟨Nat.le_of_ble_eq_true rfl, Nat.le_of_ble_eq_true rfl⟩ dX6_take_71) ?_
  refine zcons (s_iret hx hb hr hK hlk dX6_take_74) ?_
  refine zcons (s_aload_n hx hb 0 dX6_take_75 rfl) ?_
  refine zcons (s_callV (hZ := fun _ h => h) hx hb hts hml hown hK hro zcX6 (kX6_skip l X) (zgoodV w627 w629 w18 w52 w630) rfl rfl rfl (by decide +kernel) ⟨Nat.le_of_ble_eq_true rfl, Nat.le_of_ble_eq_true rfl⟩ dX6_take_76) ?_
  refine zcons (s_iret hx hb hr hK hlk dX6_take_79) ?_
  refine zcons (s_iconst hx hb 5 dX6_take_80 (by decide)) ?_
  refine zcons (s_iret hx hb hr hK hlk dX6_take_81) ?_
  refine zcons (s_aload_n hx hb 0 dX6_take_82 rfl) ?_
  refine zcons (s_iconst hx hb 1 dX6_take_83 (by decide)) ?_
  refine zcons (s_putZ (hZ := fun _ h => h) hx hb hts hown hK zcX6 hinX6 tyX6 tyX6_ok nmX6 5 (by decide) w265 rfl rfl (zptk (by decide) (by decide +kernel)) (by decide +kernel) dX6_take_84) ?_
  refine zcons (s_iconst hx hb 5 dX6_take_87 (by decide)) ?_
  refine zcons (s_iret hx hb hr hK hlk dX6_take_88) ?_
  refine zcons (s_aload_n hx hb 0 dX6_take_89 rfl) ?_
  refine zcons (s_iload_n hx hb 2 dX6_take_90 rfl) ?_
  refine zcons (s_callV (hZ := fun _ h => h) hx hb hts hml hown hK hro zcX6 (kX6_goTo l X) (zgoodV w631 w633 w19 w52 w634) rfl rfl rfl (by decide +kernel) ⟨Nat.le_of_ble_eq_true rfl, Nat.le_of_ble_eq_true rfl⟩ dX6_take_91) ?_
  refine zcons (s_iret hx hb hr hK hlk dX6_take_94) ?_
  refine zcons (s_aload_n hx hb 0 dX6_take_95 rfl) ?_
  refine zcons (s_aload_n hx hb 0 dX6_take_96 rfl) ?_
  refine zcons (s_getI hx hb hts hown hK zcX6 hinX6 4 (by decide) w263 rfl (zptk (by decide) (by decide +kernel)) dX6_take_97) ?_
  refine zcons (s_iload_n hx hb 2 dX6_take_100 rfl) ?_
  refine zcons (s_callV (hZ := fun _ h => h) hx hb hts hml hown hK hro zcX6 (kX6_takeAnswer l X) (zgoodV w579 w581 w13 w52 w582) rfl rfl rfl (by decide +kernel) ⟨Nat.le_of_ble_eq_true rfl, Nat.le_of_ble_eq_true rfl⟩ dX6_take_101) ?_
  refine zcons (s_iret hx hb hr hK hlk dX6_take_104) ?_
  refine zcons (s_bipush hx hb 6 dX6_take_105 (by decide)) ?_
  refine zcons (s_iret hx hb hr hK hlk dX6_take_107) ?_
  exact znil
