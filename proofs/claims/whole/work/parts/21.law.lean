/-! The law: its table from the loop on (written by wip/whole/gen.py). -/
noncomputable def tL_law (L : Nat) (xs : Nat → Int32) : List (Nat × AI) := [(18, a_iload 19 3), (19, a_aload 20 0), (20, a_slen 21 L), (21, a_push 23 (.inl 9)), (23, a_bin 24 (fun x y => x - y)), (24, a_c_gt 27 569), (27, a_aload 28 0), (28, a_iload 29 3), (29, a_sald 30 L xs), (30, a_push 32 (.inl 15)), (32, a_bin 33 (fun x y => x &&& y)), (33, a_switch [(0, 100), (1, 185), (2, 300), (3, 343), (4, 386), (5, 399), (6, 432), (7, 445), (8, 458), (9, 481), (10, 504), (11, 537), (12, 550)] 563), (100, a_aload 101 1), (101, a_aload 102 0), (102, a_iload 103 3), (103, a_push 104 (.inl 1)), (104, a_bin 105 (fun x y => x + y)), (105, a_sald 106 L xs), (106, a_aload 107 0), (107, a_iload 108 3), (108, a_push 109 (.inl 2)), (109, a_bin 110 (fun x y => x + y)), (110, a_sald 111 L xs), (111, a_aload 112 0), (112, a_iload 113 3), (113, a_push 114 (.inl 3)), (114, a_bin 115 (fun x y => x + y)), (115, a_sald 116 L xs), (116, a_if_eq 119 123), (119, a_push 120 (.inl 1)), (120, a_goto 124), (123, a_push 124 (.inl 0)), (124, a_aload 125 0), (125, a_iload 126 3), (126, a_push 127 (.inl 4)), (127, a_bin 128 (fun x y => x + y)), (128, a_sald 129 L xs), (129, a_if_eq 132 136), (132, a_push 133 (.inl 1)), (133, a_goto 137), (136, a_push 137 (.inl 0)), (137, a_callV 140 4 8 mX9_digits), (140, a_aload 141 2), (141, a_aload 142 0), (142, a_iload 143 3), (143, a_push 144 (.inl 1)), (144, a_bin 145 (fun x y => x + y)), (145, a_sald 146 L xs), (146, a_aload 147 0), (147, a_iload 148 3), (148, a_push 149 (.inl 2)), (149, a_bin 150 (fun x y => x + y)), (150, a_sald 151 L xs), (151, a_aload 152 0), (152, a_iload 153 3), (153, a_push 154 (.inl 3)), (154, a_bin 155 (fun x y => x + y)), (155, a_sald 156 L xs), (156, a_if_eq 159 163), (159, a_push 160 (.inl 1)), (160, a_goto 164), (163, a_push 164 (.inl 0)), (164, a_aload 165 0), (165, a_iload 166 3), (166, a_push 167 (.inl 4)), (167, a_bin 168 (fun x y => x + y)), (168, a_sald 169 L xs), (169, a_if_eq 172 176), (172, a_push 173 (.inl 1)), (173, a_goto 177), (176, a_push 177 (.inl 0)), (177, a_callV 180 4 9 mX10_digits), (180, a_c_eq 183 563), (183, a_push 184 (.inl 0)), (184, a_lret), (185, a_aload 186 1), (186, a_aload 187 0), (187, a_iload 188 3), (188, a_push 189 (.inl 1)), (189, a_bin 190 (fun x y => x + y)), (190, a_sald 191 L xs), (191, a_aload 192 0), (192, a_iload 193 3), (193, a_push 194 (.inl 2)), (194, a_bin 195 (fun x y => x + y)), (195, a_sald 196 L xs), (196, a_if_eq 199 203), (199, a_push 200 (.inl 1)), (200, a_goto 204), (203, a_push 204 (.inl 0)), (204, a_aload 205 0), (205, a_iload 206 3), (206, a_push 207 (.inl 3)), (207, a_bin 208 (fun x y => x + y)), (208, a_sald 209 L xs), (209, a_aload 210 0), (210, a_iload 211 3), (211, a_push 212 (.inl 4)), (212, a_bin 213 (fun x y => x + y)), (213, a_sald 214 L xs), (214, a_aload 215 0), (215, a_iload 216 3), (216, a_push 217 (.inl 5)), (217, a_bin 218 (fun x y => x + y)), (218, a_sald 219 L xs), (219, a_aload 220 0), (220, a_iload 221 3), (221, a_push 223 (.inl 6)), (223, a_bin 224 (fun x y => x + y)), (224, a_sald 225 L xs), (225, a_aload 226 0), (226, a_iload 227 3), (227, a_push 229 (.inl 7)), (229, a_bin 230 (fun x y => x + y)), (230, a_sald 231 L xs), (231, a_aload 232 0), (232, a_iload 233 3), (233, a_push 235 (.inl 8)), (235, a_bin 236 (fun x y => x + y)), (236, a_sald 237 L xs), (237, a_callV 240 8 8 mX9_choice), (240, a_aload 241 2), (241, a_aload 242 0), (242, a_iload 243 3), (243, a_push 244 (.inl 1)), (244, a_bin 245 (fun x y => x + y)), (245, a_sald 246 L xs), (246, a_aload 247 0), (247, a_iload 248 3), (248, a_push 249 (.inl 2)), (249, a_bin 250 (fun x y => x + y)), (250, a_sald 251 L xs), (251, a_if_eq 254 258), (254, a_push 255 (.inl 1)), (255, a_goto 259), (258, a_push 259 (.inl 0)), (259, a_aload 260 0), (260, a_iload 261 3), (261, a_push 262 (.inl 3)), (262, a_bin 263 (fun x y => x + y)), (263, a_sald 264 L xs), (264, a_aload 265 0), (265, a_iload 266 3), (266, a_push 267 (.inl 4)), (267, a_bin 268 (fun x y => x + y)), (268, a_sald 269 L xs), (269, a_aload 270 0), (270, a_iload 271 3), (271, a_push 272 (.inl 5)), (272, a_bin 273 (fun x y => x + y)), (273, a_sald 274 L xs), (274, a_aload 275 0), (275, a_iload 276 3), (276, a_push 278 (.inl 6)), (278, a_bin 279 (fun x y => x + y)), (279, a_sald 280 L xs), (280, a_aload 281 0), (281, a_iload 282 3), (282, a_push 284 (.inl 7)), (284, a_bin 285 (fun x y => x + y)), (285, a_sald 286 L xs), (286, a_aload 287 0), (287, a_iload 288 3), (288, a_push 290 (.inl 8)), (290, a_bin 291 (fun x y => x + y)), (291, a_sald 292 L xs), (292, a_callV 295 8 9 mX10_choice), (295, a_c_eq 298 563), (298, a_push 299 (.inl 0)), (299, a_lret), (300, a_aload 301 1), (301, a_aload 302 0), (302, a_iload 303 3), (303, a_push 304 (.inl 1)), (304, a_bin 305 (fun x y => x + y)), (305, a_sald 306 L xs), (306, a_aload 307 0), (307, a_iload 308 3), (308, a_push 309 (.inl 2)), (309, a_bin 310 (fun x y => x + y)), (310, a_sald 311 L xs), (311, a_aload 312 0), (312, a_iload 313 3), (313, a_push 314 (.inl 3)), (314, a_bin 315 (fun x y => x + y)), (315, a_sald 316 L xs), (316, a_callV 319 3 8 mX9_needs), (319, a_aload 320 2), (320, a_aload 321 0), (321, a_iload 322 3), (322, a_push 323 (.inl 1)), (323, a_bin 324 (fun x y => x + y)), (324, a_sald 325 L xs), (325, a_aload 326 0), (326, a_iload 327 3), (327, a_push 328 (.inl 2)), (328, a_bin 329 (fun x y => x + y)), (329, a_sald 330 L xs), (330, a_aload 331 0), (331, a_iload 332 3), (332, a_push 333 (.inl 3)), (333, a_bin 334 (fun x y => x + y)), (334, a_sald 335 L xs), (335, a_callV 338 3 9 mX10_needs), (338, a_c_eq 341 563), (341, a_push 342 (.inl 0)), (342, a_lret), (343, a_aload 344 1), (344, a_aload 345 0), (345, a_iload 346 3), (346, a_push 347 (.inl 1)), (347, a_bin 348 (fun x y => x + y)), (348, a_sald 349 L xs), (349, a_aload 350 0), (350, a_iload 351 3), (351, a_push 352 (.inl 2)), (352, a_bin 353 (fun x y => x + y)), (353, a_sald 354 L xs), (354, a_aload 355 0), (355, a_iload 356 3), (356, a_push 357 (.inl 3)), (357, a_bin 358 (fun x y => x + y)), (358, a_sald 359 L xs), (359, a_callV 362 3 8 mX9_costs), (362, a_aload 363 2), (363, a_aload 364 0), (364, a_iload 365 3), (365, a_push 366 (.inl 1)), (366, a_bin 367 (fun x y => x + y)), (367, a_sald 368 L xs), (368, a_aload 369 0), (369, a_iload 370 3), (370, a_push 371 (.inl 2)), (371, a_bin 372 (fun x y => x + y)), (372, a_sald 373 L xs), (373, a_aload 374 0), (374, a_iload 375 3), (375, a_push 376 (.inl 3)), (376, a_bin 377 (fun x y => x + y)), (377, a_sald 378 L xs), (378, a_callV 381 3 9 mX10_costs), (381, a_c_eq 384 563), (384, a_push 385 (.inl 0)), (385, a_lret), (386, a_aload 387 1), (387, a_callV 390 0 8 mX9_place), (390, a_aload 391 2), (391, a_callV 394 0 9 mX10_place), (394, a_c_eq 397 563), (397, a_push 398 (.inl 0)), (398, a_lret), (399, a_aload 400 1), (400, a_aload 401 0), (401, a_iload 402 3), (402, a_push 403 (.inl 1)), (403, a_bin 404 (fun x y => x + y)), (404, a_sald 405 L xs), (405, a_aload 406 0), (406, a_iload 407 3), (407, a_push 408 (.inl 2)), (408, a_bin 409 (fun x y => x + y)), (409, a_sald 410 L xs), (410, a_callV 413 2 8 mX9_word), (413, a_aload 414 2), (414, a_aload 415 0), (415, a_iload 416 3), (416, a_push 417 (.inl 1)), (417, a_bin 418 (fun x y => x + y)), (418, a_sald 419 L xs), (419, a_aload 420 0), (420, a_iload 421 3), (421, a_push 422 (.inl 2)), (422, a_bin 423 (fun x y => x + y)), (423, a_sald 424 L xs), (424, a_callV 427 2 9 mX10_word), (427, a_c_eq 430 563), (430, a_push 431 (.inl 0)), (431, a_lret), (432, a_aload 433 1), (433, a_callV 436 0 8 mX9_say), (436, a_aload 437 2), (437, a_callV 440 0 9 mX10_say), (440, a_c_eq 443 563), (443, a_push 444 (.inl 0)), (444, a_lret), (445, a_aload 446 1), (446, a_callV 449 0 8 mX9_goOn), (449, a_aload 450 2), (450, a_callV 453 0 9 mX10_goOn), (453, a_c_eq 456 563), (456, a_push 457 (.inl 0)), (457, a_lret), (458, a_aload 459 1), (459, a_aload 460 0), (460, a_iload 461 3), (461, a_push 462 (.inl 1)), (462, a_bin 463 (fun x y => x + y)), (463, a_sald 464 L xs), (464, a_callV 467 1 8 mX9_told), (467, a_aload 468 2), (468, a_aload 469 0), (469, a_iload 470 3), (470, a_push 471 (.inl 1)), (471, a_bin 472 (fun x y => x + y)), (472, a_sald 473 L xs), (473, a_callV 476 1 9 mX10_told), (476, a_c_eq 479 563), (479, a_push 480 (.inl 0)), (480, a_lret), (481, a_aload 482 1), (482, a_aload 483 0), (483, a_iload 484 3), (484, a_push 485 (.inl 1)), (485, a_bin 486 (fun x y => x + y)), (486, a_sald 487 L xs), (487, a_callV 490 1 8 mX9_about), (490, a_aload 491 2), (491, a_aload 492 0), (492, a_iload 493 3), (493, a_push 494 (.inl 1)), (494, a_bin 495 (fun x y => x + y)), (495, a_sald 496 L xs), (496, a_callV 499 1 9 mX10_about), (499, a_c_eq 502 563), (502, a_push 503 (.inl 0)), (503, a_lret), (504, a_aload 505 1), (505, a_aload 506 0), (506, a_iload 507 3), (507, a_push 508 (.inl 1)), (508, a_bin 509 (fun x y => x + y)), (509, a_sald 510 L xs), (510, a_aload 511 0), (511, a_iload 512 3), (512, a_push 513 (.inl 2)), (513, a_bin 514 (fun x y => x + y)), (514, a_sald 515 L xs), (515, a_callV 518 2 8 mX9_field), (518, a_aload 519 2), (519, a_aload 520 0), (520, a_iload 521 3), (521, a_push 522 (.inl 1)), (522, a_bin 523 (fun x y => x + y)), (523, a_sald 524 L xs), (524, a_aload 525 0), (525, a_iload 526 3), (526, a_push 527 (.inl 2)), (527, a_bin 528 (fun x y => x + y)), (528, a_sald 529 L xs), (529, a_callV 532 2 9 mX10_field), (532, a_c_eq 535 563), (535, a_push 536 (.inl 0)), (536, a_lret), (537, a_aload 538 1), (538, a_callV 541 0 8 mX9_hearBack), (541, a_aload 542 2), (542, a_callV 545 0 9 mX10_hearBack), (545, a_c_eq 548 563), (548, a_push 549 (.inl 0)), (549, a_lret), (550, a_aload 551 1), (551, a_callV 554 0 8 mX9_send), (554, a_aload 555 2), (555, a_callV 558 0 9 mX10_send), (558, a_c_eq 561 563), (561, a_push 562 (.inl 0)), (562, a_lret), (563, a_iinc 566 3 9), (566, a_goto 18), (569, a_push 570 (.inl 1)), (570, a_lret)]
set_option maxHeartbeats 8000000 in
set_option maxRecDepth 100000 in
theorem kL_law {p : Program} {l : Launch} {e : Env} {s : State} {m : MethodId} {below : List Frame} {meth : Method} {c : Code} {b L : Nat} {xs : Nat → Int32} {X : XC} {res : AR} (hx : p.tables.exec = Jvm.exec) (hb : c.code = code) (hr : meth.sig.returnType = ret) (hlk : meth.locks = false) (hts : ∀ w ∈ lw_g, w.before #[Value.ref b] s = true) (hml : c.maxLocals = 4) (hown : s.vm.findClass RL = some m.cls) (hK : zK X s) (hX : va_X b L xs s s.heap) (hbl : b < s.heap.size) (hbA : X.2.1 100 = b) (hZ : ∀ q, zA X q → (fun q : Nat => s.heap.size ≤ q) q) : ∀ q ∈ tL_law L xs, zS p l e room_1 s m #[Value.ref b] below meth c 600000 7302250 (lw_Z below #[Value.ref b] s) X 4 (fun q : Nat => s.heap.size ≤ q) s.heap res q.1 q.2 := by
  have hro : 600000 ≤ room_1.cells ∧ 7302250 ≤ room_1.slots := ⟨Nat.le_of_ble_eq_true rfl, Nat.le_of_ble_eq_true rfl⟩
  refine zcons (s_iload_n hx hb 3 dL_law_18 rfl) ?_
  refine zcons (s_aload_n hx hb 0 dL_law_19 rfl) ?_
  refine zcons (s_slen hx hb hX hbl hbA dL_law_20) ?_
  refine zcons (s_bipush hx hb 9 dL_law_21 (by decide)) ?_
  refine zcons (s_isub hx hb dL_law_23) ?_
  refine zcons (s_c_gt hx hb 569 dL_law_24 (by decide)) ?_
  refine zcons (s_aload_n hx hb 0 dL_law_27 rfl) ?_
  refine zcons (s_iload_n hx hb 3 dL_law_28 rfl) ?_
  refine zcons (s_sald hx hb hX hbl hbA dL_law_29) ?_
  refine zcons (s_bipush hx hb 15 dL_law_30 (by decide)) ?_
  refine zcons (s_iand hx hb dL_law_32) ?_
  refine zcons (s_switchD hx hb [(0, 100), (1, 185), (2, 300), (3, 343), (4, 386), (5, 399), (6, 432), (7, 445), (8, 458), (9, 481), (10, 504), (11, 537), (12, 550)] 563 dL_law_33 (by decide +kernel) (by decide)) ?_
  refine zcons (s_aload_n hx hb 1 dL_law_100 rfl) ?_
  refine zcons (s_aload_n hx hb 0 dL_law_101 rfl) ?_
  refine zcons (s_iload_n hx hb 3 dL_law_102 rfl) ?_
  refine zcons (s_iconst hx hb 1 dL_law_103 (by decide)) ?_
  refine zcons (s_iadd hx hb dL_law_104) ?_
  refine zcons (s_sald hx hb hX hbl hbA dL_law_105) ?_
  refine zcons (s_aload_n hx hb 0 dL_law_106 rfl) ?_
  refine zcons (s_iload_n hx hb 3 dL_law_107 rfl) ?_
  refine zcons (s_iconst hx hb 2 dL_law_108 (by decide)) ?_
  refine zcons (s_iadd hx hb dL_law_109) ?_
  refine zcons (s_sald hx hb hX hbl hbA dL_law_110) ?_
  refine zcons (s_aload_n hx hb 0 dL_law_111 rfl) ?_
  refine zcons (s_iload_n hx hb 3 dL_law_112 rfl) ?_
  refine zcons (s_iconst hx hb 3 dL_law_113 (by decide)) ?_
  refine zcons (s_iadd hx hb dL_law_114) ?_
  refine zcons (s_sald hx hb hX hbl hbA dL_law_115) ?_
  refine zcons (s_if_eq hx hb 123 dL_law_116 (by decide)) ?_
  refine zcons (s_iconst hx hb 1 dL_law_119 (by decide)) ?_
  refine zcons (s_goto hx hb 124 dL_law_120 (by decide)) ?_
  refine zcons (s_iconst hx hb 0 dL_law_123 (by decide)) ?_
  refine zcons (s_aload_n hx hb 0 dL_law_124 rfl) ?_
  refine zcons (s_iload_n hx hb 3 dL_law_125 rfl) ?_
  refine zcons (s_iconst hx hb 4 dL_law_126 (by decide)) ?_
  refine zcons (s_iadd hx hb dL_law_127) ?_
  refine zcons (s_sald hx hb hX hbl hbA dL_law_128) ?_
  refine zcons (s_if_eq hx hb 136 dL_law_129 (by decide)) ?_
  refine zcons (s_iconst hx hb 1 dL_law_132 (by decide)) ?_
  refine zcons (s_goto hx hb 137 dL_law_133 (by decide)) ?_
  refine zcons (s_iconst hx hb 0 dL_law_136 (by decide)) ?_
  refine zcons (s_callV (hZ := hZ) hx hb hts hml hown hK hro zcX9 (kX9_digits l X) (zgoodV w329 w330 w331 w44 w332) rfl rfl rfl (by decide +kernel) ⟨Nat.le_of_ble_eq_true rfl, Nat.le_of_ble_eq_true rfl⟩ dL_law_137) ?_
  refine zcons (s_aload_n hx hb 2 dL_law_140 rfl) ?_
  refine zcons (s_aload_n hx hb 0 dL_law_141 rfl) ?_
  refine zcons (s_iload_n hx hb 3 dL_law_142 rfl) ?_
  refine zcons (s_iconst hx hb 1 dL_law_143 (by decide)) ?_
  refine zcons (s_iadd hx hb dL_law_144) ?_
  refine zcons (s_sald hx hb hX hbl hbA dL_law_145) ?_
  refine zcons (s_aload_n hx hb 0 dL_law_146 rfl) ?_
  refine zcons (s_iload_n hx hb 3 dL_law_147 rfl) ?_
  refine zcons (s_iconst hx hb 2 dL_law_148 (by decide)) ?_
  refine zcons (s_iadd hx hb dL_law_149) ?_
  refine zcons (s_sald hx hb hX hbl hbA dL_law_150) ?_
  refine zcons (s_aload_n hx hb 0 dL_law_151 rfl) ?_
  refine zcons (s_iload_n hx hb 3 dL_law_152 rfl) ?_
  refine zcons (s_iconst hx hb 3 dL_law_153 (by decide)) ?_
  refine zcons (s_iadd hx hb dL_law_154) ?_
  refine zcons (s_sald hx hb hX hbl hbA dL_law_155) ?_
  refine zcons (s_if_eq hx hb 163 dL_law_156 (by decide)) ?_
  refine zcons (s_iconst hx hb 1 dL_law_159 (by decide)) ?_
  refine zcons (s_goto hx hb 164 dL_law_160 (by decide)) ?_
  refine zcons (s_iconst hx hb 0 dL_law_163 (by decide)) ?_
  refine zcons (s_aload_n hx hb 0 dL_law_164 rfl) ?_
  refine zcons (s_iload_n hx hb 3 dL_law_165 rfl) ?_
  refine zcons (s_iconst hx hb 4 dL_law_166 (by decide)) ?_
  refine zcons (s_iadd hx hb dL_law_167) ?_
  refine zcons (s_sald hx hb hX hbl hbA dL_law_168) ?_
  refine zcons (s_if_eq hx hb 176 dL_law_169 (by decide)) ?_
  refine zcons (s_iconst hx hb 1 dL_law_172 (by decide)) ?_
  refine zcons (s_goto hx hb 177 dL_law_173 (by decide)) ?_
  refine zcons (s_iconst hx hb 0 dL_law_176 (by decide)) ?_
  refine zcons (s_callV (hZ := hZ) hx hb hts hml hown hK hro zcX10 (kX10_digits l X) (zgoodV w828 w829 w830 w54 w831) rfl rfl rfl (by decide +kernel) ⟨Nat.le_of_ble_eq_true rfl, Nat.le_of_ble_eq_true rfl⟩ dL_law_177) ?_
  refine zcons (s_c_eq hx hb 563 dL_law_180 (by decide)) ?_
  refine zcons (s_iconst hx hb 0 dL_law_183 (by decide)) ?_
  refine zcons (s_lret hx hb hr hlk dL_law_184) ?_
  refine zcons (s_aload_n hx hb 1 dL_law_185 rfl) ?_
  refine zcons (s_aload_n hx hb 0 dL_law_186 rfl) ?_
  refine zcons (s_iload_n hx hb 3 dL_law_187 rfl) ?_
  refine zcons (s_iconst hx hb 1 dL_law_188 (by decide)) ?_
  refine zcons (s_iadd hx hb dL_law_189) ?_
  refine zcons (s_sald hx hb hX hbl hbA dL_law_190) ?_
  refine zcons (s_aload_n hx hb 0 dL_law_191 rfl) ?_
  refine zcons (s_iload_n hx hb 3 dL_law_192 rfl) ?_
  refine zcons (s_iconst hx hb 2 dL_law_193 (by decide)) ?_
  refine zcons (s_iadd hx hb dL_law_194) ?_
  refine zcons (s_sald hx hb hX hbl hbA dL_law_195) ?_
  refine zcons (s_if_eq hx hb 203 dL_law_196 (by decide)) ?_
  refine zcons (s_iconst hx hb 1 dL_law_199 (by decide)) ?_
  refine zcons (s_goto hx hb 204 dL_law_200 (by decide)) ?_
  refine zcons (s_iconst hx hb 0 dL_law_203 (by decide)) ?_
  refine zcons (s_aload_n hx hb 0 dL_law_204 rfl) ?_
  refine zcons (s_iload_n hx hb 3 dL_law_205 rfl) ?_
  refine zcons (s_iconst hx hb 3 dL_law_206 (by decide)) ?_
  refine zcons (s_iadd hx hb dL_law_207) ?_
  refine zcons (s_sald hx hb hX hbl hbA dL_law_208) ?_
  refine zcons (s_aload_n hx hb 0 dL_law_209 rfl) ?_
  refine zcons (s_iload_n hx hb 3 dL_law_210 rfl) ?_
  refine zcons (s_iconst hx hb 4 dL_law_211 (by decide)) ?_
  refine zcons (s_iadd hx hb dL_law_212) ?_
  refine zcons (s_sald hx hb hX hbl hbA dL_law_213) ?_
  refine zcons (s_aload_n hx hb 0 dL_law_214 rfl) ?_
  refine zcons (s_iload_n hx hb 3 dL_law_215 rfl) ?_
  refine zcons (s_iconst hx hb 5 dL_law_216 (by decide)) ?_
  refine zcons (s_iadd hx hb dL_law_217) ?_
  refine zcons (s_sald hx hb hX hbl hbA dL_law_218) ?_
  refine zcons (s_aload_n hx hb 0 dL_law_219 rfl) ?_
  refine zcons (s_iload_n hx hb 3 dL_law_220 rfl) ?_
  refine zcons (s_bipush hx hb 6 dL_law_221 (by decide)) ?_
  refine zcons (s_iadd hx hb dL_law_223) ?_
  refine zcons (s_sald hx hb hX hbl hbA dL_law_224) ?_
  refine zcons (s_aload_n hx hb 0 dL_law_225 rfl) ?_
  refine zcons (s_iload_n hx hb 3 dL_law_226 rfl) ?_
  refine zcons (s_bipush hx hb 7 dL_law_227 (by decide)) ?_
  refine zcons (s_iadd hx hb dL_law_229) ?_
  refine zcons (s_sald hx hb hX hbl hbA dL_law_230) ?_
  refine zcons (s_aload_n hx hb 0 dL_law_231 rfl) ?_
  refine zcons (s_iload_n hx hb 3 dL_law_232 rfl) ?_
  refine zcons (s_bipush hx hb 8 dL_law_233 (by decide)) ?_
  refine zcons (s_iadd hx hb dL_law_235) ?_
  refine zcons (s_sald hx hb hX hbl hbA dL_law_236) ?_
  refine zcons (s_callV (hZ := hZ) hx hb hts hml hown hK hro zcX9 (kX9_choice l X) (zgoodV w365 w366 w367 w44 w368) rfl rfl rfl (by decide +kernel) ⟨Nat.le_of_ble_eq_true rfl, Nat.le_of_ble_eq_true rfl⟩ dL_law_237) ?_
  refine zcons (s_aload_n hx hb 2 dL_law_240 rfl) ?_
  refine zcons (s_aload_n hx hb 0 dL_law_241 rfl) ?_
  refine zcons (s_iload_n hx hb 3 dL_law_242 rfl) ?_
  refine zcons (s_iconst hx hb 1 dL_law_243 (by decide)) ?_
  refine zcons (s_iadd hx hb dL_law_244) ?_
  refine zcons (s_sald hx hb hX hbl hbA dL_law_245) ?_
  refine zcons (s_aload_n hx hb 0 dL_law_246 rfl) ?_
  refine zcons (s_iload_n hx hb 3 dL_law_247 rfl) ?_
  refine zcons (s_iconst hx hb 2 dL_law_248 (by decide)) ?_
  refine zcons (s_iadd hx hb dL_law_249) ?_
  refine zcons (s_sald hx hb hX hbl hbA dL_law_250) ?_
  refine zcons (s_if_eq hx hb 258 dL_law_251 (by decide)) ?_
  refine zcons (s_iconst hx hb 1 dL_law_254 (by decide)) ?_
  refine zcons (s_goto hx hb 259 dL_law_255 (by decide)) ?_
  refine zcons (s_iconst hx hb 0 dL_law_258 (by decide)) ?_
  refine zcons (s_aload_n hx hb 0 dL_law_259 rfl) ?_
  refine zcons (s_iload_n hx hb 3 dL_law_260 rfl) ?_
  refine zcons (s_iconst hx hb 3 dL_law_261 (by decide)) ?_
  refine zcons (s_iadd hx hb dL_law_262) ?_
  refine zcons (s_sald hx hb hX hbl hbA dL_law_263) ?_
  refine zcons (s_aload_n hx hb 0 dL_law_264 rfl) ?_
  refine zcons (s_iload_n hx hb 3 dL_law_265 rfl) ?_
  refine zcons (s_iconst hx hb 4 dL_law_266 (by decide)) ?_
  refine zcons (s_iadd hx hb dL_law_267) ?_
  refine zcons (s_sald hx hb hX hbl hbA dL_law_268) ?_
  refine zcons (s_aload_n hx hb 0 dL_law_269 rfl) ?_
  refine zcons (s_iload_n hx hb 3 dL_law_270 rfl) ?_
  refine zcons (s_iconst hx hb 5 dL_law_271 (by decide)) ?_
  refine zcons (s_iadd hx hb dL_law_272) ?_
  refine zcons (s_sald hx hb hX hbl hbA dL_law_273) ?_
  refine zcons (s_aload_n hx hb 0 dL_law_274 rfl) ?_
  refine zcons (s_iload_n hx hb 3 dL_law_275 rfl) ?_
  refine zcons (s_bipush hx hb 6 dL_law_276 (by decide)) ?_
  refine zcons (s_iadd hx hb dL_law_278) ?_
  refine zcons (s_sald hx hb hX hbl hbA dL_law_279) ?_
  refine zcons (s_aload_n hx hb 0 dL_law_280 rfl) ?_
  refine zcons (s_iload_n hx hb 3 dL_law_281 rfl) ?_
  refine zcons (s_bipush hx hb 7 dL_law_282 (by decide)) ?_
  refine zcons (s_iadd hx hb dL_law_284) ?_
  refine zcons (s_sald hx hb hX hbl hbA dL_law_285) ?_
  refine zcons (s_aload_n hx hb 0 dL_law_286 rfl) ?_
  refine zcons (s_iload_n hx hb 3 dL_law_287 rfl) ?_
  refine zcons (s_bipush hx hb 8 dL_law_288 (by decide)) ?_
  refine zcons (s_iadd hx hb dL_law_290) ?_
  refine zcons (s_sald hx hb hX hbl hbA dL_law_291) ?_
  refine zcons (s_callV (hZ := hZ) hx hb hts hml hown hK hro zcX10 (kX10_choice l X) (zgoodV w843 w844 w845 w54 w846) rfl rfl rfl (by decide +kernel) ⟨Nat.le_of_ble_eq_true rfl, Nat.le_of_ble_eq_true rfl⟩ dL_law_292) ?_
  refine zcons (s_c_eq hx hb 563 dL_law_295 (by decide)) ?_
  refine zcons (s_iconst hx hb 0 dL_law_298 (by decide)) ?_
  refine zcons (s_lret hx hb hr hlk dL_law_299) ?_
  refine zcons (s_aload_n hx hb 1 dL_law_300 rfl) ?_
  refine zcons (s_aload_n hx hb 0 dL_law_301 rfl) ?_
  refine zcons (s_iload_n hx hb 3 dL_law_302 rfl) ?_
  refine zcons (s_iconst hx hb 1 dL_law_303 (by decide)) ?_
  refine zcons (s_iadd hx hb dL_law_304) ?_
  refine zcons (s_sald hx hb hX hbl hbA dL_law_305) ?_
  refine zcons (s_aload_n hx hb 0 dL_law_306 rfl) ?_
  refine zcons (s_iload_n hx hb 3 dL_law_307 rfl) ?_
  refine zcons (s_iconst hx hb 2 dL_law_308 (by decide)) ?_
  refine zcons (s_iadd hx hb dL_law_309) ?_
  refine zcons (s_sald hx hb hX hbl hbA dL_law_310) ?_
  refine zcons (s_aload_n hx hb 0 dL_law_311 rfl) ?_
  refine zcons (s_iload_n hx hb 3 dL_law_312 rfl) ?_
  refine zcons (s_iconst hx hb 3 dL_law_313 (by decide)) ?_
  refine zcons (s_iadd hx hb dL_law_314) ?_
  refine zcons (s_sald hx hb hX hbl hbA dL_law_315) ?_
  refine zcons (s_callV (hZ := hZ) hx hb hts hml hown hK hro zcX9 (kX9_needs l X) (zgoodV w378 w379 w380 w44 w381) rfl rfl rfl (by decide +kernel) ⟨Nat.le_of_ble_eq_true rfl, Nat.le_of_ble_eq_true rfl⟩ dL_law_316) ?_
  refine zcons (s_aload_n hx hb 2 dL_law_319 rfl) ?_
  refine zcons (s_aload_n hx hb 0 dL_law_320 rfl) ?_
  refine zcons (s_iload_n hx hb 3 dL_law_321 rfl) ?_
  refine zcons (s_iconst hx hb 1 dL_law_322 (by decide)) ?_
  refine zcons (s_iadd hx hb dL_law_323) ?_
  refine zcons (s_sald hx hb hX hbl hbA dL_law_324) ?_
  refine zcons (s_aload_n hx hb 0 dL_law_325 rfl) ?_
  refine zcons (s_iload_n hx hb 3 dL_law_326 rfl) ?_
  refine zcons (s_iconst hx hb 2 dL_law_327 (by decide)) ?_
  refine zcons (s_iadd hx hb dL_law_328) ?_
  refine zcons (s_sald hx hb hX hbl hbA dL_law_329) ?_
  refine zcons (s_aload_n hx hb 0 dL_law_330 rfl) ?_
  refine zcons (s_iload_n hx hb 3 dL_law_331 rfl) ?_
  refine zcons (s_iconst hx hb 3 dL_law_332 (by decide)) ?_
  refine zcons (s_iadd hx hb dL_law_333) ?_
  refine zcons (s_sald hx hb hX hbl hbA dL_law_334) ?_
  refine zcons (s_callV (hZ := hZ) hx hb hts hml hown hK hro zcX10 (kX10_needs l X) (zgoodV w847 w848 w849 w54 w850) rfl rfl rfl (by decide +kernel) ⟨Nat.le_of_ble_eq_true rfl, Nat.le_of_ble_eq_true rfl⟩ dL_law_335) ?_
  refine zcons (s_c_eq hx hb 563 dL_law_338 (by decide)) ?_
  refine zcons (s_iconst hx hb 0 dL_law_341 (by decide)) ?_
  refine zcons (s_lret hx hb hr hlk dL_law_342) ?_
  refine zcons (s_aload_n hx hb 1 dL_law_343 rfl) ?_
  refine zcons (s_aload_n hx hb 0 dL_law_344 rfl) ?_
  refine zcons (s_iload_n hx hb 3 dL_law_345 rfl) ?_
  refine zcons (s_iconst hx hb 1 dL_law_346 (by decide)) ?_
  refine zcons (s_iadd hx hb dL_law_347) ?_
  refine zcons (s_sald hx hb hX hbl hbA dL_law_348) ?_
  refine zcons (s_aload_n hx hb 0 dL_law_349 rfl) ?_
  refine zcons (s_iload_n hx hb 3 dL_law_350 rfl) ?_
  refine zcons (s_iconst hx hb 2 dL_law_351 (by decide)) ?_
  refine zcons (s_iadd hx hb dL_law_352) ?_
  refine zcons (s_sald hx hb hX hbl hbA dL_law_353) ?_
  refine zcons (s_aload_n hx hb 0 dL_law_354 rfl) ?_
  refine zcons (s_iload_n hx hb 3 dL_law_355 rfl) ?_
  refine zcons (s_iconst hx hb 3 dL_law_356 (by decide)) ?_
  refine zcons (s_iadd hx hb dL_law_357) ?_
  refine zcons (s_sald hx hb hX hbl hbA dL_law_358) ?_
  refine zcons (s_callV (hZ := hZ) hx hb hts hml hown hK hro zcX9 (kX9_costs l X) (zgoodV w386 w387 w388 w44 w389) rfl rfl rfl (by decide +kernel) ⟨Nat.le_of_ble_eq_true rfl, Nat.le_of_ble_eq_true rfl⟩ dL_law_359) ?_
  refine zcons (s_aload_n hx hb 2 dL_law_362 rfl) ?_
  refine zcons (s_aload_n hx hb 0 dL_law_363 rfl) ?_
  refine zcons (s_iload_n hx hb 3 dL_law_364 rfl) ?_
  refine zcons (s_iconst hx hb 1 dL_law_365 (by decide)) ?_
  refine zcons (s_iadd hx hb dL_law_366) ?_
  refine zcons (s_sald hx hb hX hbl hbA dL_law_367) ?_
  refine zcons (s_aload_n hx hb 0 dL_law_368 rfl) ?_
  refine zcons (s_iload_n hx hb 3 dL_law_369 rfl) ?_
  refine zcons (s_iconst hx hb 2 dL_law_370 (by decide)) ?_
  refine zcons (s_iadd hx hb dL_law_371) ?_
  refine zcons (s_sald hx hb hX hbl hbA dL_law_372) ?_
  refine zcons (s_aload_n hx hb 0 dL_law_373 rfl) ?_
  refine zcons (s_iload_n hx hb 3 dL_law_374 rfl) ?_
  refine zcons (s_iconst hx hb 3 dL_law_375 (by decide)) ?_
  refine zcons (s_iadd hx hb dL_law_376) ?_
  refine zcons (s_sald hx hb hX hbl hbA dL_law_377) ?_
  refine zcons (s_callV (hZ := hZ) hx hb hts hml hown hK hro zcX10 (kX10_costs l X) (zgoodV w855 w856 w857 w54 w858) rfl rfl rfl (by decide +kernel) ⟨Nat.le_of_ble_eq_true rfl, Nat.le_of_ble_eq_true rfl⟩ dL_law_378) ?_
  refine zcons (s_c_eq hx hb 563 dL_law_381 (by decide)) ?_
  refine zcons (s_iconst hx hb 0 dL_law_384 (by decide)) ?_
  refine zcons (s_lret hx hb hr hlk dL_law_385) ?_
  refine zcons (s_aload_n hx hb 1 dL_law_386 rfl) ?_
  refine zcons (s_callV (hZ := hZ) hx hb hts hml hown hK hro zcX9 (kX9_place l X) (zgoodV w393 w394 w395 w44 w396) rfl rfl rfl (by decide +kernel) ⟨Nat.le_of_ble_eq_true rfl, Nat.le_of_ble_eq_true rfl⟩ dL_law_387) ?_
  refine zcons (s_aload_n hx hb 2 dL_law_390 rfl) ?_
  refine zcons (s_callV (hZ := hZ) hx hb hts hml hown hK hro zcX10 (kX10_place l X) (zgoodV w859 w860 w861 w54 w862) rfl rfl rfl (by decide +kernel) ⟨Nat.le_of_ble_eq_true rfl, Nat.le_of_ble_eq_true rfl⟩ dL_law_391) ?_
  refine zcons (s_c_eq hx hb 563 dL_law_394 (by decide)) ?_
  refine zcons (s_iconst hx hb 0 dL_law_397 (by decide)) ?_
  refine zcons (s_lret hx hb hr hlk dL_law_398) ?_
  refine zcons (s_aload_n hx hb 1 dL_law_399 rfl) ?_
  refine zcons (s_aload_n hx hb 0 dL_law_400 rfl) ?_
  refine zcons (s_iload_n hx hb 3 dL_law_401 rfl) ?_
  refine zcons (s_iconst hx hb 1 dL_law_402 (by decide)) ?_
  refine zcons (s_iadd hx hb dL_law_403) ?_
  refine zcons (s_sald hx hb hX hbl hbA dL_law_404) ?_
  refine zcons (s_aload_n hx hb 0 dL_law_405 rfl) ?_
  refine zcons (s_iload_n hx hb 3 dL_law_406 rfl) ?_
  refine zcons (s_iconst hx hb 2 dL_law_407 (by decide)) ?_
  refine zcons (s_iadd hx hb dL_law_408) ?_
  refine zcons (s_sald hx hb hX hbl hbA dL_law_409) ?_
  refine zcons (s_callV (hZ := hZ) hx hb hts hml hown hK hro zcX9 (kX9_word l X) (zgoodV w401 w402 w403 w44 w404) rfl rfl rfl (by decide +kernel) ⟨Nat.le_of_ble_eq_true rfl, Nat.le_of_ble_eq_true rfl⟩ dL_law_410) ?_
  refine zcons (s_aload_n hx hb 2 dL_law_413 rfl) ?_
  refine zcons (s_aload_n hx hb 0 dL_law_414 rfl) ?_
  refine zcons (s_iload_n hx hb 3 dL_law_415 rfl) ?_
  refine zcons (s_iconst hx hb 1 dL_law_416 (by decide)) ?_
  refine zcons (s_iadd hx hb dL_law_417) ?_
  refine zcons (s_sald hx hb hX hbl hbA dL_law_418) ?_
  refine zcons (s_aload_n hx hb 0 dL_law_419 rfl) ?_
  refine zcons (s_iload_n hx hb 3 dL_law_420 rfl) ?_
  refine zcons (s_iconst hx hb 2 dL_law_421 (by decide)) ?_
  refine zcons (s_iadd hx hb dL_law_422) ?_
  refine zcons (s_sald hx hb hX hbl hbA dL_law_423) ?_
  refine zcons (s_callV (hZ := hZ) hx hb hts hml hown hK hro zcX10 (kX10_word l X) (zgoodV w863 w864 w865 w54 w866) rfl rfl rfl (by decide +kernel) ⟨Nat.le_of_ble_eq_true rfl, Nat.le_of_ble_eq_true rfl⟩ dL_law_424) ?_
  refine zcons (s_c_eq hx hb 563 dL_law_427 (by decide)) ?_
  refine zcons (s_iconst hx hb 0 dL_law_430 (by decide)) ?_
  refine zcons (s_lret hx hb hr hlk dL_law_431) ?_
  refine zcons (s_aload_n hx hb 1 dL_law_432 rfl) ?_
  refine zcons (s_callV (hZ := hZ) hx hb hts hml hown hK hro zcX9 (kX9_say l X) (zgoodV w425 w426 w427 w44 w428) rfl rfl rfl (by decide +kernel) ⟨Nat.le_of_ble_eq_true rfl, Nat.le_of_ble_eq_true rfl⟩ dL_law_433) ?_
  refine zcons (s_aload_n hx hb 2 dL_law_436 rfl) ?_
  refine zcons (s_callV (hZ := hZ) hx hb hts hml hown hK hro zcX10 (kX10_say l X) (zgoodV w867 w868 w869 w54 w870) rfl rfl rfl (by decide +kernel) ⟨Nat.le_of_ble_eq_true rfl, Nat.le_of_ble_eq_true rfl⟩ dL_law_437) ?_
  refine zcons (s_c_eq hx hb 563 dL_law_440 (by decide)) ?_
  refine zcons (s_iconst hx hb 0 dL_law_443 (by decide)) ?_
  refine zcons (s_lret hx hb hr hlk dL_law_444) ?_
  refine zcons (s_aload_n hx hb 1 dL_law_445 rfl) ?_
  refine zcons (s_callV (hZ := hZ) hx hb hts hml hown hK hro zcX9 (kX9_goOn l X) (zgoodV w651 w652 w653 w44 w654) rfl rfl rfl (by decide +kernel) ⟨Nat.le_of_ble_eq_true rfl, Nat.le_of_ble_eq_true rfl⟩ dL_law_446) ?_
  refine zcons (s_aload_n hx hb 2 dL_law_449 rfl) ?_
  refine zcons (s_callV (hZ := hZ) hx hb hts hml hown hK hro zcX10 (kX10_goOn l X) (zgoodV w951 w952 w953 w54 w954) rfl rfl rfl (by decide +kernel) ⟨Nat.le_of_ble_eq_true rfl, Nat.le_of_ble_eq_true rfl⟩ dL_law_450) ?_
  refine zcons (s_c_eq hx hb 563 dL_law_453 (by decide)) ?_
  refine zcons (s_iconst hx hb 0 dL_law_456 (by decide)) ?_
  refine zcons (s_lret hx hb hr hlk dL_law_457) ?_
  refine zcons (s_aload_n hx hb 1 dL_law_458 rfl) ?_
  refine zcons (s_aload_n hx hb 0 dL_law_459 rfl) ?_
  refine zcons (s_iload_n hx hb 3 dL_law_460 rfl) ?_
  refine zcons (s_iconst hx hb 1 dL_law_461 (by decide)) ?_
  refine zcons (s_iadd hx hb dL_law_462) ?_
  refine zcons (s_sald hx hb hX hbl hbA dL_law_463) ?_
  refine zcons (s_callV (hZ := hZ) hx hb hts hml hown hK hro zcX9 (kX9_told l X) (zgoodV w655 w656 w657 w44 w658) rfl rfl rfl (by decide +kernel) ⟨Nat.le_of_ble_eq_true rfl, Nat.le_of_ble_eq_true rfl⟩ dL_law_464) ?_
  refine zcons (s_aload_n hx hb 2 dL_law_467 rfl) ?_
  refine zcons (s_aload_n hx hb 0 dL_law_468 rfl) ?_
  refine zcons (s_iload_n hx hb 3 dL_law_469 rfl) ?_
  refine zcons (s_iconst hx hb 1 dL_law_470 (by decide)) ?_
  refine zcons (s_iadd hx hb dL_law_471) ?_
  refine zcons (s_sald hx hb hX hbl hbA dL_law_472) ?_
  refine zcons (s_callV (hZ := hZ) hx hb hts hml hown hK hro zcX10 (kX10_told l X) (zgoodV w955 w956 w957 w54 w958) rfl rfl rfl (by decide +kernel) ⟨Nat.le_of_ble_eq_true rfl, Nat.le_of_ble_eq_true rfl⟩ dL_law_473) ?_
  refine zcons (s_c_eq hx hb 563 dL_law_476 (by decide)) ?_
  refine zcons (s_iconst hx hb 0 dL_law_479 (by decide)) ?_
  refine zcons (s_lret hx hb hr hlk dL_law_480) ?_
  refine zcons (s_aload_n hx hb 1 dL_law_481 rfl) ?_
  refine zcons (s_aload_n hx hb 0 dL_law_482 rfl) ?_
  refine zcons (s_iload_n hx hb 3 dL_law_483 rfl) ?_
  refine zcons (s_iconst hx hb 1 dL_law_484 (by decide)) ?_
  refine zcons (s_iadd hx hb dL_law_485) ?_
  refine zcons (s_sald hx hb hX hbl hbA dL_law_486) ?_
  refine zcons (s_callV (hZ := hZ) hx hb hts hml hown hK hro zcX9 (kX9_about l X) (zgoodV w660 w661 w662 w44 w663) rfl rfl rfl (by decide +kernel) ⟨Nat.le_of_ble_eq_true rfl, Nat.le_of_ble_eq_true rfl⟩ dL_law_487) ?_
  refine zcons (s_aload_n hx hb 2 dL_law_490 rfl) ?_
  refine zcons (s_aload_n hx hb 0 dL_law_491 rfl) ?_
  refine zcons (s_iload_n hx hb 3 dL_law_492 rfl) ?_
  refine zcons (s_iconst hx hb 1 dL_law_493 (by decide)) ?_
  refine zcons (s_iadd hx hb dL_law_494) ?_
  refine zcons (s_sald hx hb hX hbl hbA dL_law_495) ?_
  refine zcons (s_callV (hZ := hZ) hx hb hts hml hown hK hro zcX10 (kX10_about l X) (zgoodV w959 w960 w961 w54 w962) rfl rfl rfl (by decide +kernel) ⟨Nat.le_of_ble_eq_true rfl, Nat.le_of_ble_eq_true rfl⟩ dL_law_496) ?_
  refine zcons (s_c_eq hx hb 563 dL_law_499 (by decide)) ?_
  refine zcons (s_iconst hx hb 0 dL_law_502 (by decide)) ?_
  refine zcons (s_lret hx hb hr hlk dL_law_503) ?_
  refine zcons (s_aload_n hx hb 1 dL_law_504 rfl) ?_
  refine zcons (s_aload_n hx hb 0 dL_law_505 rfl) ?_
  refine zcons (s_iload_n hx hb 3 dL_law_506 rfl) ?_
  refine zcons (s_iconst hx hb 1 dL_law_507 (by decide)) ?_
  refine zcons (s_iadd hx hb dL_law_508) ?_
  refine zcons (s_sald hx hb hX hbl hbA dL_law_509) ?_
  refine zcons (s_aload_n hx hb 0 dL_law_510 rfl) ?_
  refine zcons (s_iload_n hx hb 3 dL_law_511 rfl) ?_
  refine zcons (s_iconst hx hb 2 dL_law_512 (by decide)) ?_
  refine zcons (s_iadd hx hb dL_law_513) ?_
  refine zcons (s_sald hx hb hX hbl hbA dL_law_514) ?_
  refine zcons (s_callV (hZ := hZ) hx hb hts hml hown hK hro zcX9 (kX9_field l X) (zgoodV w680 w681 w682 w44 w683) rfl rfl rfl (by decide +kernel) ⟨Nat.le_of_ble_eq_true rfl, Nat.le_of_ble_eq_true rfl⟩ dL_law_515) ?_
  refine zcons (s_aload_n hx hb 2 dL_law_518 rfl) ?_
  refine zcons (s_aload_n hx hb 0 dL_law_519 rfl) ?_
  refine zcons (s_iload_n hx hb 3 dL_law_520 rfl) ?_
  refine zcons (s_iconst hx hb 1 dL_law_521 (by decide)) ?_
  refine zcons (s_iadd hx hb dL_law_522) ?_
  refine zcons (s_sald hx hb hX hbl hbA dL_law_523) ?_
  refine zcons (s_aload_n hx hb 0 dL_law_524 rfl) ?_
  refine zcons (s_iload_n hx hb 3 dL_law_525 rfl) ?_
  refine zcons (s_iconst hx hb 2 dL_law_526 (by decide)) ?_
  refine zcons (s_iadd hx hb dL_law_527) ?_
  refine zcons (s_sald hx hb hX hbl hbA dL_law_528) ?_
  refine zcons (s_callV (hZ := hZ) hx hb hts hml hown hK hro zcX10 (kX10_field l X) (zgoodV w963 w964 w965 w54 w966) rfl rfl rfl (by decide +kernel) ⟨Nat.le_of_ble_eq_true rfl, Nat.le_of_ble_eq_true rfl⟩ dL_law_529) ?_
  refine zcons (s_c_eq hx hb 563 dL_law_532 (by decide)) ?_
  refine zcons (s_iconst hx hb 0 dL_law_535 (by decide)) ?_
  refine zcons (s_lret hx hb hr hlk dL_law_536) ?_
  refine zcons (s_aload_n hx hb 1 dL_law_537 rfl) ?_
  refine zcons (s_callV (hZ := hZ) hx hb hts hml hown hK hro zcX9 (kX9_hearBack l X) (zgoodV w684 w685 w686 w44 w687) rfl rfl rfl (by decide +kernel) ⟨Nat.le_of_ble_eq_true rfl, Nat.le_of_ble_eq_true rfl⟩ dL_law_538) ?_
  refine zcons (s_aload_n hx hb 2 dL_law_541 rfl) ?_
  refine zcons (s_callV (hZ := hZ) hx hb hts hml hown hK hro zcX10 (kX10_hearBack l X) (zgoodV w967 w968 w969 w54 w970) rfl rfl rfl (by decide +kernel) ⟨Nat.le_of_ble_eq_true rfl, Nat.le_of_ble_eq_true rfl⟩ dL_law_542) ?_
  refine zcons (s_c_eq hx hb 563 dL_law_545 (by decide)) ?_
  refine zcons (s_iconst hx hb 0 dL_law_548 (by decide)) ?_
  refine zcons (s_lret hx hb hr hlk dL_law_549) ?_
  refine zcons (s_aload_n hx hb 1 dL_law_550 rfl) ?_
  refine zcons (s_callV (hZ := hZ) hx hb hts hml hown hK hro zcX9 (kX9_send l X) (zgoodV w693 w694 w695 w44 w696) rfl rfl rfl (by decide +kernel) ⟨Nat.le_of_ble_eq_true rfl, Nat.le_of_ble_eq_true rfl⟩ dL_law_551) ?_
  refine zcons (s_aload_n hx hb 2 dL_law_554 rfl) ?_
  refine zcons (s_callV (hZ := hZ) hx hb hts hml hown hK hro zcX10 (kX10_send l X) (zgoodV w971 w972 w973 w54 w974) rfl rfl rfl (by decide +kernel) ⟨Nat.le_of_ble_eq_true rfl, Nat.le_of_ble_eq_true rfl⟩ dL_law_555) ?_
  refine zcons (s_c_eq hx hb 563 dL_law_558 (by decide)) ?_
  refine zcons (s_iconst hx hb 0 dL_law_561 (by decide)) ?_
  refine zcons (s_lret hx hb hr hlk dL_law_562) ?_
  refine zcons (s_iinc hx hb 9 dL_law_563 (by decide)) ?_
  refine zcons (s_goto hx hb 18 dL_law_566 (by decide)) ?_
  refine zcons (s_iconst hx hb 1 dL_law_569 (by decide)) ?_
  refine zcons (s_lret hx hb hr hlk dL_law_570) ?_
  exact znil
