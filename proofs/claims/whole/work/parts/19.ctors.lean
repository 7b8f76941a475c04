/-! The constructors: tables and contracts (written by wip/whole/gen2.py). -/
theorem ycons {p : Program} {l : Launch} {e : Env} {R : Room} {s : State} {m : MethodId} {args : Array Value} {below : List Frame} {meth : Method} {c : Code} {Q : State → Prop} {X : XC} {nL b sb : Nat} {ad0 : Nat → Nat} {A : Nat → Prop} {H0 : Heap} {res : DH} {pc : Nat} {a : DA} {L : List (Nat × DA)} (h : yS p l e R s m args below meth c Q X nL b sb ad0 A H0 res pc a) (t : ∀ q ∈ L, yS p l e R s m args below meth c Q X nL b sb ad0 A H0 res q.1 q.2) : ∀ q ∈ (pc, a) :: L, yS p l e R s m args below meth c Q X nL b sb ad0 A H0 res q.1 q.2 := fun q hq => (List.mem_cons.mp hq).elim (fun e => e ▸ h) (t q)
theorem ynil {p : Program} {l : Launch} {e : Env} {R : Room} {s : State} {m : MethodId} {args : Array Value} {below : List Frame} {meth : Method} {c : Code} {Q : State → Prop} {X : XC} {nL b sb : Nat} {ad0 : Nat → Nat} {A : Nat → Prop} {H0 : Heap} {res : DH} : ∀ q ∈ ([] : List (Nat × DA)), yS p l e R s m args below meth c Q X nL b sb ad0 A H0 res q.1 q.2 := fun _ h => absurd h List.not_mem_nil
def dvX0 : List AV := [.inr none, .inl 0, .inl 0]
theorem dvX0_ok (ad : Nat → Nat) : ∀ j, j < 3 → defaultValue (tyX0 j) = vp_V (dvX0.map (zv ad)) j := fun j hj => by
  match j, hj with
  | 0, _ => rfl
  | 1, _ => rfl
  | 2, _ => rfl
  | k + 3, hk => omega
def dvX1 : List AV := [.inr none, .inl 0]
theorem dvX1_ok (ad : Nat → Nat) : ∀ j, j < 2 → defaultValue (tyX1 j) = vp_V (dvX1.map (zv ad)) j := fun j hj => by
  match j, hj with
  | 0, _ => rfl
  | 1, _ => rfl
  | k + 2, hk => omega
def dvX2 : List AV := [.inr none, .inr none, .inr none, .inl 0]
theorem dvX2_ok (ad : Nat → Nat) : ∀ j, j < 4 → defaultValue (tyX2 j) = vp_V (dvX2.map (zv ad)) j := fun j hj => by
  match j, hj with
  | 0, _ => rfl
  | 1, _ => rfl
  | 2, _ => rfl
  | 3, _ => rfl
  | k + 4, hk => omega
def dvX3 : List AV := [.inr none, .inl 0]
theorem dvX3_ok (ad : Nat → Nat) : ∀ j, j < 2 → defaultValue (tyX3 j) = vp_V (dvX3.map (zv ad)) j := fun j hj => by
  match j, hj with
  | 0, _ => rfl
  | 1, _ => rfl
  | k + 2, hk => omega
def dvX4 : List AV := [.inr none, .inr none, .inr none, .inr none, .inl 0, .inl 0, .inl 0]
theorem dvX4_ok (ad : Nat → Nat) : ∀ j, j < 7 → defaultValue (tyX4 j) = vp_V (dvX4.map (zv ad)) j := fun j hj => by
  match j, hj with
  | 0, _ => rfl
  | 1, _ => rfl
  | 2, _ => rfl
  | 3, _ => rfl
  | 4, _ => rfl
  | 5, _ => rfl
  | 6, _ => rfl
  | k + 7, hk => omega
def dvX5 : List AV := [.inl 0, .inl 0, .inl 0, .inl 0, .inr none, .inl 0, .inl 0, .inl 0, .inl 0, .inl 0, .inl 0, .inl 0, .inl 0]
theorem dvX5_ok (ad : Nat → Nat) : ∀ j, j < 13 → defaultValue (tyX5 j) = vp_V (dvX5.map (zv ad)) j := fun j hj => by
  match j, hj with
  | 0, _ => rfl
  | 1, _ => rfl
  | 2, _ => rfl
  | 3, _ => rfl
  | 4, _ => rfl
  | 5, _ => rfl
  | 6, _ => rfl
  | 7, _ => rfl
  | 8, _ => rfl
  | 9, _ => rfl
  | 10, _ => rfl
  | 11, _ => rfl
  | 12, _ => rfl
  | k + 13, hk => omega
def dvX6 : List AV := [.inr none, .inr none, .inr none, .inl 0, .inl 0, .inl 0, .inl 0, .inl 0, .inl 0, .inl 0, .inl 0, .inl 0, .inl 0]
theorem dvX6_ok (ad : Nat → Nat) : ∀ j, j < 13 → defaultValue (tyX6 j) = vp_V (dvX6.map (zv ad)) j := fun j hj => by
  match j, hj with
  | 0, _ => rfl
  | 1, _ => rfl
  | 2, _ => rfl
  | 3, _ => rfl
  | 4, _ => rfl
  | 5, _ => rfl
  | 6, _ => rfl
  | 7, _ => rfl
  | 8, _ => rfl
  | 9, _ => rfl
  | 10, _ => rfl
  | 11, _ => rfl
  | 12, _ => rfl
  | k + 13, hk => omega
def dvX7 : List AV := [.inr none, .inr none]
theorem dvX7_ok (ad : Nat → Nat) : ∀ j, j < 2 → defaultValue (tyX7 j) = vp_V (dvX7.map (zv ad)) j := fun j hj => by
  match j, hj with
  | 0, _ => rfl
  | 1, _ => rfl
  | k + 2, hk => omega
def dvX9 : List AV := [.inr none, .inr none, .inr none, .inr none, .inr none, .inl 0, .inl 0, .inl 0]
theorem dvX9_ok (ad : Nat → Nat) : ∀ j, j < 8 → defaultValue (tyX9 j) = vp_V (dvX9.map (zv ad)) j := fun j hj => by
  match j, hj with
  | 0, _ => rfl
  | 1, _ => rfl
  | 2, _ => rfl
  | 3, _ => rfl
  | 4, _ => rfl
  | 5, _ => rfl
  | 6, _ => rfl
  | 7, _ => rfl
  | k + 8, hk => omega
def dvX10 : List AV := [.inl 0, .inr none, .inr none, .inr none, .inr none, .inr none, .inr none, .inr none, .inr none, .inr none, .inr none, .inr none, .inl 0, .inl 0, .inl 0, .inr none, .inl 0, .inr none, .inr none, .inr none, .inr none, .inr none, .inr none, .inr none, .inl 0, .inr none, .inl 0, .inl 0, .inl 0, .inl 0, .inl 0, .inl 0, .inl 0, .inl 0, .inl 0, .inr none, .inl 0, .inl 0, .inr none, .inr none, .inr none]
theorem dvX10_ok (ad : Nat → Nat) : ∀ j, j < 41 → defaultValue (tyX10 j) = vp_V (dvX10.map (zv ad)) j := fun j hj => by
  match j, hj with
  | 0, _ => rfl
  | 1, _ => rfl
  | 2, _ => rfl
  | 3, _ => rfl
  | 4, _ => rfl
  | 5, _ => rfl
  | 6, _ => rfl
  | 7, _ => rfl
  | 8, _ => rfl
  | 9, _ => rfl
  | 10, _ => rfl
  | 11, _ => rfl
  | 12, _ => rfl
  | 13, _ => rfl
  | 14, _ => rfl
  | 15, _ => rfl
  | 16, _ => rfl
  | 17, _ => rfl
  | 18, _ => rfl
  | 19, _ => rfl
  | 20, _ => rfl
  | 21, _ => rfl
  | 22, _ => rfl
  | 23, _ => rfl
  | 24, _ => rfl
  | 25, _ => rfl
  | 26, _ => rfl
  | 27, _ => rfl
  | 28, _ => rfl
  | 29, _ => rfl
  | 30, _ => rfl
  | 31, _ => rfl
  | 32, _ => rfl
  | 33, _ => rfl
  | 34, _ => rfl
  | 35, _ => rfl
  | 36, _ => rfl
  | 37, _ => rfl
  | 38, _ => rfl
  | 39, _ => rfl
  | 40, _ => rfl
  | k + 41, hk => omega
def uJ7_fill_53178D (F lc lsl : Nat) : List (Nat × DA) := [(0, d_push 1 0), (1, d_istore 2 2), (2, d_aload 3 0), (3, d_len 4), (4, d_istore 5 3), (5, d_iload 6 2), (6, d_iload 7 3), (7, d_c_ge 10 20), (10, d_aload 11 0), (11, d_iload 12 2), (12, d_iload 13 1), (13, d_iast 14), (14, d_iinc 17 2 1), (17, d_goto 5), (20, d_vret)]
def vJ7_fill_53178D (F : Nat) : List AV → DH → Option DH := ysem (uJ7_fill_53178D F) 4 F 2 0 0
def qJ7_fill_53178D : Room := { frames := 0, cells := 0, slots := 0, locals := 0 }
set_option maxHeartbeats 4000000 in
set_option maxRecDepth 100000 in
theorem kJ7_fill_53178D (l : Launch) (X : XC) (F : Nat) : yM l X yJ7_fill_53178 wJ7_fill_53178 (qJ7_fill_53178D) 0 0 (vJ7_fill_53178D F) := by
  refine yMet (uJ7_fill_53178D F) F 2 0 0 (by decide) rfl (by decide) ?_
  intro p e s m args below meth c res hp0 ad0 hC hin9 hb1 hb2 hA
  obtain ⟨hx, hb, hr, hts0, hown, hml, hlk, hK⟩ := hC
  have hts : ∀ w ∈ lw_g, w.before args s = true := fun w h => hts0 w (List.mem_cons_of_mem _ h)
  refine ycons (y_iconst hx hb 0 dJ7_fill_53178_0 (by decide)) ?_
  refine ycons (y_istore_n hx hb 2 dJ7_fill_53178_1 rfl) ?_
  refine ycons (y_aload_n hx hb 0 dJ7_fill_53178_2 rfl) ?_
  refine ycons (y_len hx hb hK dJ7_fill_53178_3) ?_
  refine ycons (y_istore_n hx hb 3 dJ7_fill_53178_4 rfl) ?_
  refine ycons (y_iload_n hx hb 2 dJ7_fill_53178_5 rfl) ?_
  refine ycons (y_iload_n hx hb 3 dJ7_fill_53178_6 rfl) ?_
  refine ycons (y_c_ge hx hb 20 dJ7_fill_53178_7 (by decide)) ?_
  refine ycons (y_aload_n hx hb 0 dJ7_fill_53178_10 rfl) ?_
  refine ycons (y_iload_n hx hb 2 dJ7_fill_53178_11 rfl) ?_
  refine ycons (y_iload_n hx hb 1 dJ7_fill_53178_12 rfl) ?_
  refine ycons (y_iast hx hb hK dJ7_fill_53178_13) ?_
  refine ycons (y_iinc hx hb 1 dJ7_fill_53178_14 (by decide)) ?_
  refine ycons (y_goto hx hb 5 dJ7_fill_53178_17 (by decide)) ?_
  refine ycons (y_vret hx hb hr hK hlk hb1 hb2 dJ7_fill_53178_20) ?_
  exact ynil
def uX7_clearD (F lc lsl : Nat) : List (Nat × DA) := [(0, d_aload 1 0), (1, d_get 4 7 0), (4, d_push 6 1000000), (6, d_call 9 2 (vJ7_fill_53178D F) 0 0 lc lsl), (9, d_aload 10 0), (10, d_get 13 7 1), (13, d_push 14 (-1)), (14, d_call 17 2 (vJ7_fill_53178D F) 0 0 lc lsl), (17, d_vret)]
def vX7_clearD (F : Nat) : List AV → DH → Option DH := ysem (uX7_clearD F) 1 F 1 0 0
def qX7_clearD : Room := { frames := 1, cells := 0, slots := 0, locals := 23 }
set_option maxHeartbeats 4000000 in
set_option maxRecDepth 100000 in
theorem kX7_clearD (l : Launch) (X : XC) (F : Nat) : yM l X yX7_clear wX7_clear (qX7_clearD) 0 0 (vX7_clearD F) := by
  refine yMet (uX7_clearD F) F 1 0 0 (by decide) rfl (by decide) ?_
  intro p e s m args below meth c res hp0 ad0 hC hin9 hb1 hb2 hA
  obtain ⟨hx, hb, hr, hts0, hown, hml, hlk, hK⟩ := hC
  have hts : ∀ w ∈ lw_g, w.before args s = true := fun w h => hts0 w (List.mem_cons_of_mem _ h)
  refine ycons (y_aload_n hx hb 0 dX7_clear_0 rfl) ?_
  refine ycons (y_get hx hb hts hown hK zcX7 hinX7 0 (by decide) w181 rfl dX7_clear_1) ?_
  refine ycons (y_ldc hx hb 1000000 hown (hts _ w210) dX7_clear_4) ?_
  refine ycons (y_callS hx hb hts hml hown hK hA (Nat.le_refl _) (Nat.le_refl _) (kJ7_fill_53178D l X F) (va_cwS 2 hts (zgoodS w211 w212 w51 w213) rfl rfl rfl (by decide +kernel) ⟨Nat.le_of_ble_eq_true rfl, Nat.le_of_ble_eq_true rfl⟩) dX7_clear_6) ?_
  refine ycons (y_aload_n hx hb 0 dX7_clear_9 rfl) ?_
  refine ycons (y_get hx hb hts hown hK zcX7 hinX7 1 (by decide) w182 rfl dX7_clear_10) ?_
  refine ycons (y_iconst hx hb (-1) dX7_clear_13 (by decide)) ?_
  refine ycons (y_callS hx hb hts hml hown hK hA (Nat.le_refl _) (Nat.le_refl _) (kJ7_fill_53178D l X F) (va_cwS 2 hts (zgoodS w211 w212 w51 w213) rfl rfl rfl (by decide +kernel) ⟨Nat.le_of_ble_eq_true rfl, Nat.le_of_ble_eq_true rfl⟩) dX7_clear_14) ?_
  refine ycons (y_vret hx hb hr hK hlk hb1 hb2 dX7_clear_17) ?_
  exact ynil
def uX5_init (F lc lsl : Nat) : List (Nat × DA) := [(0, d_aload 1 0), (1, d_obj 4), (4, d_aload 5 0), (5, d_push 7 6), (7, d_newa 9 10 (.inl 0) lc lsl), (9, d_putR 12 5 4), (12, d_aload 13 0), (13, d_push 14 (-1)), (14, d_putI 17 5 6), (17, d_vret)]
def vX5_init (F : Nat) : List AV → DH → Option DH := ysem (uX5_init F) 1 F 1 1 6
def wX5_init : List Cond := .code yX5_init cX5_init 1 none :: lw_g
def qX5_init : Room := { frames := 1, cells := 1, slots := 6, locals := 20 }
set_option maxHeartbeats 4000000 in
set_option maxRecDepth 100000 in
theorem kX5_init (l : Launch) (X : XC) (F : Nat) : yM l X yX5_init wX5_init (qX5_init) 1 6 (vX5_init F) := by
  refine yMet (uX5_init F) F 1 1 6 (by decide) rfl (by decide) ?_
  intro p e s m args below meth c res hp0 ad0 hC hin9 hb1 hb2 hA
  obtain ⟨hx, hb, hr, hts0, hown, hml, hlk, hK⟩ := hC
  have hts : ∀ w ∈ lw_g, w.before args s = true := fun w h => hts0 w (List.mem_cons_of_mem _ h)
  refine ycons (y_aload_n hx hb 0 dX5_init_0 rfl) ?_
  refine ycons (y_obj hx hb hts hml hown w76 w62 w63 ⟨Nat.le_of_ble_eq_true rfl, Nat.le_of_ble_eq_true rfl⟩ dX5_init_1) ?_
  refine ycons (y_aload_n hx hb 0 dX5_init_4 rfl) ?_
  refine ycons (y_bipush hx hb 6 dX5_init_5 (by decide)) ?_
  refine ycons (y_newa hx hb hts hK .int .int 10 0 (Or.inl ⟨rfl, rfl, rfl⟩) rfl w139 (Nat.le_refl _) (Nat.le_refl _) hA dX5_init_7) ?_
  refine ycons (y_putR hx hb hts hown hK zcX5 hinX5 tyX5 tyX5_ok nmX5 4 (by decide) w87 rfl (Or.inr ⟨rfl, hin9 rfl, rfl⟩) (tyX5 4) (by decide +kernel) (Or.inr ⟨_, rfl⟩) dX5_init_9) ?_
  refine ycons (y_aload_n hx hb 0 dX5_init_12 rfl) ?_
  refine ycons (y_iconst hx hb (-1) dX5_init_13 (by decide)) ?_
  refine ycons (y_putI hx hb hts hown hK zcX5 hinX5 tyX5 tyX5_ok nmX5 6 (by decide) w92 rfl (Or.inl rfl) (by decide +kernel) dX5_init_14) ?_
  refine ycons (y_vret hx hb hr hK hlk hb1 hb2 dX5_init_17) ?_
  exact ynil
def uX1_init (F lc lsl : Nat) : List (Nat × DA) := [(0, d_aload 1 0), (1, d_obj 4), (4, d_aload 5 0), (5, d_push 7 12), (7, d_newa 10 12 (.inr none) lc lsl), (10, d_putR 13 1 0), (13, d_push 14 0), (14, d_istore 15 1), (15, d_iload 16 1), (16, d_push 18 12), (18, d_c_ge 21 40), (21, d_aload 22 0), (22, d_get 25 1 0), (25, d_iload 26 1), (26, d_new 29 5 dvX5 lc lsl), (29, d_dup 30), (30, d_call 33 1 (semI (vX5_init F)) 1 6 lc lsl), (33, d_aast 34), (34, d_iinc 37 1 1), (37, d_goto 15), (40, d_vret)]
def vX1_init (F : Nat) : List AV → DH → Option DH := ysem (uX1_init F) 2 F 1 25 240
def wX1_init : List Cond := .code yX1_init cX1_init 2 none :: lw_g
def qX1_init : Room := { frames := 2, cells := 25, slots := 240, locals := 40 }
set_option maxHeartbeats 4000000 in
set_option maxRecDepth 100000 in
theorem kX1_init (l : Launch) (X : XC) (F : Nat) : yM l X yX1_init wX1_init (qX1_init) 25 240 (vX1_init F) := by
  refine yMet (uX1_init F) F 1 25 240 (by decide) rfl (by decide) ?_
  intro p e s m args below meth c res hp0 ad0 hC hin9 hb1 hb2 hA
  obtain ⟨hx, hb, hr, hts0, hown, hml, hlk, hK⟩ := hC
  have hts : ∀ w ∈ lw_g, w.before args s = true := fun w h => hts0 w (List.mem_cons_of_mem _ h)
  refine ycons (y_aload_n hx hb 0 dX1_init_0 rfl) ?_
  refine ycons (y_obj hx hb hts hml hown w69 w62 w63 ⟨Nat.le_of_ble_eq_true rfl, Nat.le_of_ble_eq_true rfl⟩ dX1_init_1) ?_
  refine ycons (y_aload_n hx hb 0 dX1_init_4 rfl) ?_
  refine ycons (y_bipush hx hb 12 dX1_init_5 (by decide)) ?_
  refine ycons (y_newq hx hb hts hown hK w70 hK.2.2.2.2.2 (Nat.le_refl _) (Nat.le_refl _) hA dX1_init_7) ?_
  refine ycons (y_putR hx hb hts hown hK zcX1 hinX1 tyX1 tyX1_ok nmX1 0 (by decide) w140 rfl (Or.inr ⟨rfl, hin9 rfl, rfl⟩) (tyX1 0) (by decide +kernel) (Or.inr ⟨_, rfl⟩) dX1_init_10) ?_
  refine ycons (y_iconst hx hb 0 dX1_init_13 (by decide)) ?_
  refine ycons (y_istore_n hx hb 1 dX1_init_14 rfl) ?_
  refine ycons (y_iload_n hx hb 1 dX1_init_15 rfl) ?_
  refine ycons (y_bipush hx hb 12 dX1_init_16 (by decide)) ?_
  refine ycons (y_c_ge hx hb 40 dX1_init_18 (by decide)) ?_
  refine ycons (y_aload_n hx hb 0 dX1_init_21 rfl) ?_
  refine ycons (y_get hx hb hts hown hK zcX1 hinX1 0 (by decide) w140 rfl dX1_init_22) ?_
  refine ycons (y_iload_n hx hb 1 dX1_init_25 rfl) ?_
  refine ycons (y_new hx hb hts hown hK zcX5 hinX5 tyX5 tyX5_ok w70 w72 w46 dvX5 (fun _ => rfl) rfl dvX5_ok (Nat.le_refl _) (Nat.le_refl _) hA dX1_init_26) ?_
  refine ycons (y_dup hx hb dX1_init_29) ?_
  refine ycons (y_callI hx hb hts hml hown hK hA (Nat.le_refl _) (Nat.le_refl _) (kX5_init l X F) (cwI 0 hts (zgoodC w75) rfl rfl rfl (hts _ w46) (hts _ w73) (hts _ w74) rfl (by decide +kernel) ⟨Nat.le_of_ble_eq_true rfl, Nat.le_of_ble_eq_true rfl⟩) dX1_init_30) ?_
  refine ycons (y_aast hx hb hK dX1_init_33) ?_
  refine ycons (y_iinc hx hb 1 dX1_init_34 (by decide)) ?_
  refine ycons (y_goto hx hb 15 dX1_init_37 (by decide)) ?_
  refine ycons (y_vret hx hb hr hK hlk hb1 hb2 dX1_init_40) ?_
  exact ynil
def uX2_init (F lc lsl : Nat) : List (Nat × DA) := [(0, d_aload 1 0), (1, d_obj 4), (4, d_aload 5 0), (5, d_push 7 32), (7, d_newa 9 10 (.inl 0) lc lsl), (9, d_putR 12 2 0), (12, d_aload 13 0), (13, d_push 15 32), (15, d_newa 17 10 (.inl 0) lc lsl), (17, d_putR 20 2 1), (20, d_aload 21 0), (21, d_push 23 8), (23, d_newa 25 10 (.inl 0) lc lsl), (25, d_putR 28 2 2), (28, d_vret)]
def vX2_init (F : Nat) : List AV → DH → Option DH := ysem (uX2_init F) 1 F 1 3 72
def wX2_init : List Cond := .code yX2_init cX2_init 1 none :: lw_g
def qX2_init : Room := { frames := 1, cells := 3, slots := 72, locals := 20 }
set_option maxHeartbeats 4000000 in
set_option maxRecDepth 100000 in
theorem kX2_init (l : Launch) (X : XC) (F : Nat) : yM l X yX2_init wX2_init (qX2_init) 3 72 (vX2_init F) := by
  refine yMet (uX2_init F) F 1 3 72 (by decide) rfl (by decide) ?_
  intro p e s m args below meth c res hp0 ad0 hC hin9 hb1 hb2 hA
  obtain ⟨hx, hb, hr, hts0, hown, hml, hlk, hK⟩ := hC
  have hts : ∀ w ∈ lw_g, w.before args s = true := fun w h => hts0 w (List.mem_cons_of_mem _ h)
  refine ycons (y_aload_n hx hb 0 dX2_init_0 rfl) ?_
  refine ycons (y_obj hx hb hts hml hown w153 w62 w63 ⟨Nat.le_of_ble_eq_true rfl, Nat.le_of_ble_eq_true rfl⟩ dX2_init_1) ?_
  refine ycons (y_aload_n hx hb 0 dX2_init_4 rfl) ?_
  refine ycons (y_bipush hx hb 32 dX2_init_5 (by decide)) ?_
  refine ycons (y_newa hx hb hts hK .int .int 10 0 (Or.inl ⟨rfl, rfl, rfl⟩) rfl w139 (Nat.le_refl _) (Nat.le_refl _) hA dX2_init_7) ?_
  refine ycons (y_putR hx hb hts hown hK zcX2 hinX2 tyX2 tyX2_ok nmX2 0 (by decide) w154 rfl (Or.inr ⟨rfl, hin9 rfl, rfl⟩) (tyX2 0) (by decide +kernel) (Or.inr ⟨_, rfl⟩) dX2_init_9) ?_
  refine ycons (y_aload_n hx hb 0 dX2_init_12 rfl) ?_
  refine ycons (y_bipush hx hb 32 dX2_init_13 (by decide)) ?_
  refine ycons (y_newa hx hb hts hK .int .int 10 0 (Or.inl ⟨rfl, rfl, rfl⟩) rfl w139 (Nat.le_refl _) (Nat.le_refl _) hA dX2_init_15) ?_
  refine ycons (y_putR hx hb hts hown hK zcX2 hinX2 tyX2 tyX2_ok nmX2 1 (by decide) w155 rfl (Or.inr ⟨rfl, hin9 rfl, rfl⟩) (tyX2 1) (by decide +kernel) (Or.inr ⟨_, rfl⟩) dX2_init_17) ?_
  refine ycons (y_aload_n hx hb 0 dX2_init_20 rfl) ?_
  refine ycons (y_bipush hx hb 8 dX2_init_21 (by decide)) ?_
  refine ycons (y_newa hx hb hts hK .int .int 10 0 (Or.inl ⟨rfl, rfl, rfl⟩) rfl w139 (Nat.le_refl _) (Nat.le_refl _) hA dX2_init_23) ?_
  refine ycons (y_putR hx hb hts hown hK zcX2 hinX2 tyX2 tyX2_ok nmX2 2 (by decide) w156 rfl (Or.inr ⟨rfl, hin9 rfl, rfl⟩) (tyX2 2) (by decide +kernel) (Or.inr ⟨_, rfl⟩) dX2_init_25) ?_
  refine ycons (y_vret hx hb hr hK hlk hb1 hb2 dX2_init_28) ?_
  exact ynil
def uX3_init (F lc lsl : Nat) : List (Nat × DA) := [(0, d_aload 1 0), (1, d_obj 4), (4, d_aload 5 0), (5, d_push 7 20), (7, d_newa 9 10 (.inl 0) lc lsl), (9, d_putR 12 3 0), (12, d_vret)]
def vX3_init (F : Nat) : List AV → DH → Option DH := ysem (uX3_init F) 1 F 1 1 20
def wX3_init : List Cond := .code yX3_init cX3_init 1 none :: lw_g
def qX3_init : Room := { frames := 1, cells := 1, slots := 20, locals := 20 }
set_option maxHeartbeats 4000000 in
set_option maxRecDepth 100000 in
theorem kX3_init (l : Launch) (X : XC) (F : Nat) : yM l X yX3_init wX3_init (qX3_init) 1 20 (vX3_init F) := by
  refine yMet (uX3_init F) F 1 1 20 (by decide) rfl (by decide) ?_
  intro p e s m args below meth c res hp0 ad0 hC hin9 hb1 hb2 hA
  obtain ⟨hx, hb, hr, hts0, hown, hml, hlk, hK⟩ := hC
  have hts : ∀ w ∈ lw_g, w.before args s = true := fun w h => hts0 w (List.mem_cons_of_mem _ h)
  refine ycons (y_aload_n hx hb 0 dX3_init_0 rfl) ?_
  refine ycons (y_obj hx hb hts hml hown w250 w62 w63 ⟨Nat.le_of_ble_eq_true rfl, Nat.le_of_ble_eq_true rfl⟩ dX3_init_1) ?_
  refine ycons (y_aload_n hx hb 0 dX3_init_4 rfl) ?_
  refine ycons (y_bipush hx hb 20 dX3_init_5 (by decide)) ?_
  refine ycons (y_newa hx hb hts hK .int .int 10 0 (Or.inl ⟨rfl, rfl, rfl⟩) rfl w139 (Nat.le_refl _) (Nat.le_refl _) hA dX3_init_7) ?_
  refine ycons (y_putR hx hb hts hown hK zcX3 hinX3 tyX3 tyX3_ok nmX3 0 (by decide) w251 rfl (Or.inr ⟨rfl, hin9 rfl, rfl⟩) (tyX3 0) (by decide +kernel) (Or.inr ⟨_, rfl⟩) dX3_init_9) ?_
  refine ycons (y_vret hx hb hr hK hlk hb1 hb2 dX3_init_12) ?_
  exact ynil
def uX7_init (F lc lsl : Nat) : List (Nat × DA) := [(0, d_aload 1 0), (1, d_obj 4), (4, d_iload 5 1), (5, d_if_le 8 14), (8, d_push 9 2), (9, d_iload 10 1), (10, d_mul 11), (11, d_goto 15), (14, d_push 15 0), (15, d_istore 16 2), (16, d_aload 17 0), (17, d_iload 18 2), (18, d_newa 20 10 (.inl 0) lc lsl), (20, d_putR 23 7 0), (23, d_aload 24 0), (24, d_iload 25 2), (25, d_newa 27 10 (.inl 0) lc lsl), (27, d_putR 30 7 1), (30, d_vret)]
def vX7_init (F : Nat) (ms : Nat) : List AV → DH → Option DH := ysem (uX7_init F) 3 F 2 2 ms
def wX7_init : List Cond := .code yX7_init cX7_init 3 none :: lw_g
def qX7_init (ms : Nat) : Room := { frames := 1, cells := 2, slots := ms, locals := 20 }
set_option maxHeartbeats 4000000 in
set_option maxRecDepth 100000 in
theorem kX7_init (l : Launch) (X : XC) (F : Nat) (ms : Nat) : yM l X yX7_init wX7_init (qX7_init ms) 2 ms (vX7_init F ms) := by
  refine yMet (uX7_init F) F 2 2 ms (by decide) rfl (by decide) ?_
  intro p e s m args below meth c res hp0 ad0 hC hin9 hb1 hb2 hA
  obtain ⟨hx, hb, hr, hts0, hown, hml, hlk, hK⟩ := hC
  have hts : ∀ w ∈ lw_g, w.before args s = true := fun w h => hts0 w (List.mem_cons_of_mem _ h)
  refine ycons (y_aload_n hx hb 0 dX7_init_0 rfl) ?_
  refine ycons (y_obj hx hb hts hml hown w180 w62 w63 ⟨Nat.le_of_ble_eq_true rfl, Nat.le_of_ble_eq_true rfl⟩ dX7_init_1) ?_
  refine ycons (y_iload_n hx hb 1 dX7_init_4 rfl) ?_
  refine ycons (y_if_le hx hb 14 dX7_init_5 (by decide)) ?_
  refine ycons (y_iconst hx hb 2 dX7_init_8 (by decide)) ?_
  refine ycons (y_iload_n hx hb 1 dX7_init_9 rfl) ?_
  refine ycons (y_imul hx hb dX7_init_10) ?_
  refine ycons (y_goto hx hb 15 dX7_init_11 (by decide)) ?_
  refine ycons (y_iconst hx hb 0 dX7_init_14 (by decide)) ?_
  refine ycons (y_istore_n hx hb 2 dX7_init_15 rfl) ?_
  refine ycons (y_aload_n hx hb 0 dX7_init_16 rfl) ?_
  refine ycons (y_iload_n hx hb 2 dX7_init_17 rfl) ?_
  refine ycons (y_newa hx hb hts hK .int .int 10 0 (Or.inl ⟨rfl, rfl, rfl⟩) rfl w139 (Nat.le_refl _) (Nat.le_refl _) hA dX7_init_18) ?_
  refine ycons (y_putR hx hb hts hown hK zcX7 hinX7 tyX7 tyX7_ok nmX7 0 (by decide) w181 rfl (Or.inr ⟨rfl, hin9 rfl, rfl⟩) (tyX7 0) (by decide +kernel) (Or.inr ⟨_, rfl⟩) dX7_init_20) ?_
  refine ycons (y_aload_n hx hb 0 dX7_init_23 rfl) ?_
  refine ycons (y_iload_n hx hb 2 dX7_init_24 rfl) ?_
  refine ycons (y_newa hx hb hts hK .int .int 10 0 (Or.inl ⟨rfl, rfl, rfl⟩) rfl w139 (Nat.le_refl _) (Nat.le_refl _) hA dX7_init_25) ?_
  refine ycons (y_putR hx hb hts hown hK zcX7 hinX7 tyX7 tyX7_ok nmX7 1 (by decide) w182 rfl (Or.inr ⟨rfl, hin9 rfl, rfl⟩) (tyX7 1) (by decide +kernel) (Or.inr ⟨_, rfl⟩) dX7_init_27) ?_
  refine ycons (y_vret hx hb hr hK hlk hb1 hb2 dX7_init_30) ?_
  exact ynil
def uX0_init (F lc lsl : Nat) : List (Nat × DA) := [(0, d_aload 1 0), (1, d_obj 4), (4, d_aload 5 0), (5, d_new 8 7 dvX7 lc lsl), (8, d_dup 9), (9, d_push 12 180), (12, d_call 15 2 (semI (vX7_init F 720)) 2 720 lc lsl), (15, d_putR 18 0 0), (18, d_vret)]
def vX0_init (F : Nat) : List AV → DH → Option DH := ysem (uX0_init F) 1 F 1 3 722
def wX0_init : List Cond := .code yX0_init cX0_init 1 none :: lw_g
def qX0_init : Room := { frames := 2, cells := 3, slots := 722, locals := 42 }
set_option maxHeartbeats 4000000 in
set_option maxRecDepth 100000 in
theorem kX0_init (l : Launch) (X : XC) (F : Nat) : yM l X yX0_init wX0_init (qX0_init) 3 722 (vX0_init F) := by
  refine yMet (uX0_init F) F 1 3 722 (by decide) rfl (by decide) ?_
  intro p e s m args below meth c res hp0 ad0 hC hin9 hb1 hb2 hA
  obtain ⟨hx, hb, hr, hts0, hown, hml, hlk, hK⟩ := hC
  have hts : ∀ w ∈ lw_g, w.before args s = true := fun w h => hts0 w (List.mem_cons_of_mem _ h)
  refine ycons (y_aload_n hx hb 0 dX0_init_0 rfl) ?_
  refine ycons (y_obj hx hb hts hml hown w193 w62 w63 ⟨Nat.le_of_ble_eq_true rfl, Nat.le_of_ble_eq_true rfl⟩ dX0_init_1) ?_
  refine ycons (y_aload_n hx hb 0 dX0_init_4 rfl) ?_
  refine ycons (y_new hx hb hts hown hK zcX7 hinX7 tyX7 tyX7_ok w194 w176 w49 dvX7 (fun _ => rfl) rfl dvX7_ok (Nat.le_refl _) (Nat.le_refl _) hA dX0_init_5) ?_
  refine ycons (y_dup hx hb dX0_init_8) ?_
  refine ycons (y_sipush hx hb 180 dX0_init_9 (by decide)) ?_
  refine ycons (y_callI hx hb hts hml hown hK hA (Nat.le_refl _) (Nat.le_refl _) (kX7_init l X F 720) (cwI 1 hts (zgoodC w179) rfl rfl rfl (hts _ w49) (hts _ w195) (hts _ w178) rfl (by decide +kernel) ⟨Nat.le_of_ble_eq_true rfl, Nat.le_of_ble_eq_true rfl⟩) dX0_init_12) ?_
  refine ycons (y_putR hx hb hts hown hK zcX0 hinX0 tyX0 tyX0_ok nmX0 0 (by decide) w196 rfl (Or.inr ⟨rfl, hin9 rfl, rfl⟩) (tyX0 0) (by decide +kernel) (Or.inl ⟨_, rfl⟩) dX0_init_15) ?_
  refine ycons (y_vret hx hb hr hK hlk hb1 hb2 dX0_init_18) ?_
  exact ynil
def uX4_init (F lc lsl : Nat) : List (Nat × DA) := [(0, d_aload 1 0), (1, d_obj 4), (4, d_aload 5 0), (5, d_aload 6 1), (6, d_putR 9 4 0), (9, d_aload 10 0), (10, d_aload 11 2), (11, d_putR 14 4 1), (14, d_aload 15 0), (15, d_new 18 7 dvX7 lc lsl), (18, d_dup 19), (19, d_push 20 1), (20, d_call 23 2 (semI (vX7_init F 4)) 2 4 lc lsl), (23, d_putR 26 4 2), (26, d_aload 27 0), (27, d_new 30 0 dvX0 lc lsl), (30, d_dup 31), (31, d_call 34 1 (semI (vX0_init F)) 3 722 lc lsl), (34, d_putR 37 4 3), (37, d_aload 38 0), (38, d_get 41 4 2), (41, d_call 44 1 (semV 7 (vX7_clearD F)) 0 0 lc lsl), (44, d_aload 45 0), (45, d_push 47 30), (47, d_putI 50 4 4), (50, d_aload 51 0), (51, d_push 52 5), (52, d_putI 55 4 5), (55, d_aload 56 0), (56, d_push 58 10), (58, d_putI 61 4 6), (61, d_vret)]
def vX4_init (F : Nat) : List AV → DH → Option DH := ysem (uX4_init F) 3 F 3 7 731
def wX4_init : List Cond := .code yX4_init cX4_init 3 none :: lw_g
def qX4_init : Room := { frames := 3, cells := 7, slots := 731, locals := 62 }
set_option maxHeartbeats 4000000 in
set_option maxRecDepth 100000 in
theorem kX4_init (l : Launch) (X : XC) (F : Nat) : yM l X yX4_init wX4_init (qX4_init) 7 731 (vX4_init F) := by
  refine yMet (uX4_init F) F 3 7 731 (by decide) rfl (by decide) ?_
  intro p e s m args below meth c res hp0 ad0 hC hin9 hb1 hb2 hA
  obtain ⟨hx, hb, hr, hts0, hown, hml, hlk, hK⟩ := hC
  have hts : ∀ w ∈ lw_g, w.before args s = true := fun w h => hts0 w (List.mem_cons_of_mem _ h)
  refine ycons (y_aload_n hx hb 0 dX4_init_0 rfl) ?_
  refine ycons (y_obj hx hb hts hml hown w174 w62 w63 ⟨Nat.le_of_ble_eq_true rfl, Nat.le_of_ble_eq_true rfl⟩ dX4_init_1) ?_
  refine ycons (y_aload_n hx hb 0 dX4_init_4 rfl) ?_
  refine ycons (y_aload_n hx hb 1 dX4_init_5 rfl) ?_
  refine ycons (y_putR hx hb hts hown hK zcX4 hinX4 tyX4 tyX4_ok nmX4 0 (by decide) w214 rfl (Or.inr ⟨rfl, hin9 rfl, rfl⟩) (tyX4 0) (by decide +kernel) (Or.inl ⟨_, rfl⟩) dX4_init_6) ?_
  refine ycons (y_aload_n hx hb 0 dX4_init_9 rfl) ?_
  refine ycons (y_aload_n hx hb 2 dX4_init_10 rfl) ?_
  refine ycons (y_putR hx hb hts hown hK zcX4 hinX4 tyX4 tyX4_ok nmX4 1 (by decide) w215 rfl (Or.inr ⟨rfl, hin9 rfl, rfl⟩) (tyX4 1) (by decide +kernel) (Or.inl ⟨_, rfl⟩) dX4_init_11) ?_
  refine ycons (y_aload_n hx hb 0 dX4_init_14 rfl) ?_
  refine ycons (y_new hx hb hts hown hK zcX7 hinX7 tyX7 tyX7_ok w175 w176 w49 dvX7 (fun _ => rfl) rfl dvX7_ok (Nat.le_refl _) (Nat.le_refl _) hA dX4_init_15) ?_
  refine ycons (y_dup hx hb dX4_init_18) ?_
  refine ycons (y_iconst hx hb 1 dX4_init_19 (by decide)) ?_
  refine ycons (y_callI hx hb hts hml hown hK hA (Nat.le_refl _) (Nat.le_refl _) (kX7_init l X F 4) (cwI 1 hts (zgoodC w179) rfl rfl rfl (hts _ w49) (hts _ w177) (hts _ w178) rfl (by decide +kernel) ⟨Nat.le_of_ble_eq_true rfl, Nat.le_of_ble_eq_true rfl⟩) dX4_init_20) ?_
  refine ycons (y_putR hx hb hts hown hK zcX4 hinX4 tyX4 tyX4_ok nmX4 2 (by decide) w216 rfl (Or.inr ⟨rfl, hin9 rfl, rfl⟩) (tyX4 2) (by decide +kernel) (Or.inl ⟨_, rfl⟩) dX4_init_23) ?_
  refine ycons (y_aload_n hx hb 0 dX4_init_26 rfl) ?_
  refine ycons (y_new hx hb hts hown hK zcX0 hinX0 tyX0 tyX0_ok w188 w189 w50 dvX0 (fun _ => rfl) rfl dvX0_ok (Nat.le_refl _) (Nat.le_refl _) hA dX4_init_27) ?_
  refine ycons (y_dup hx hb dX4_init_30) ?_
  refine ycons (y_callI hx hb hts hml hown hK hA (Nat.le_refl _) (Nat.le_refl _) (kX0_init l X F) (cwI 0 hts (zgoodC w192) rfl rfl rfl (hts _ w50) (hts _ w190) (hts _ w191) rfl (by decide +kernel) ⟨Nat.le_of_ble_eq_true rfl, Nat.le_of_ble_eq_true rfl⟩) dX4_init_31) ?_
  refine ycons (y_putR hx hb hts hown hK zcX4 hinX4 tyX4 tyX4_ok nmX4 3 (by decide) w217 rfl (Or.inr ⟨rfl, hin9 rfl, rfl⟩) (tyX4 3) (by decide +kernel) (Or.inl ⟨_, rfl⟩) dX4_init_34) ?_
  refine ycons (y_aload_n hx hb 0 dX4_init_37 rfl) ?_
  refine ycons (y_get hx hb hts hown hK zcX4 hinX4 2 (by decide) w216 rfl dX4_init_38) ?_
  refine ycons (y_callV hx hb hts hml hown hK hA (Nat.le_refl _) (Nat.le_refl _) zcX7 (kX7_clearD l X F) (cwV 0 hts (zgoodV w206 w207 w208 w49 w209) rfl rfl rfl (by decide +kernel) ⟨Nat.le_of_ble_eq_true rfl, Nat.le_of_ble_eq_true rfl⟩) dX4_init_41) ?_
  refine ycons (y_aload_n hx hb 0 dX4_init_44 rfl) ?_
  refine ycons (y_bipush hx hb 30 dX4_init_45 (by decide)) ?_
  refine ycons (y_putI hx hb hts hown hK zcX4 hinX4 tyX4 tyX4_ok nmX4 4 (by decide) w218 rfl (Or.inl rfl) (by decide +kernel) dX4_init_47) ?_
  refine ycons (y_aload_n hx hb 0 dX4_init_50 rfl) ?_
  refine ycons (y_iconst hx hb 5 dX4_init_51 (by decide)) ?_
  refine ycons (y_putI hx hb hts hown hK zcX4 hinX4 tyX4 tyX4_ok nmX4 5 (by decide) w220 rfl (Or.inl rfl) (by decide +kernel) dX4_init_52) ?_
  refine ycons (y_aload_n hx hb 0 dX4_init_55 rfl) ?_
  refine ycons (y_bipush hx hb 10 dX4_init_56 (by decide)) ?_
  refine ycons (y_putI hx hb hts hown hK zcX4 hinX4 tyX4 tyX4_ok nmX4 6 (by decide) w222 rfl (Or.inl rfl) (by decide +kernel) dX4_init_58) ?_
  refine ycons (y_vret hx hb hr hK hlk hb1 hb2 dX4_init_61) ?_
  exact ynil
def uX6_init (F lc lsl : Nat) : List (Nat × DA) := [(0, d_aload 1 0), (1, d_obj 4), (4, d_aload 5 0), (5, d_aload 6 1), (6, d_putR 9 6 0), (9, d_aload 10 0), (10, d_aload 11 2), (11, d_putR 14 6 1), (14, d_aload 15 0), (15, d_new 18 3 dvX3 lc lsl), (18, d_dup 19), (19, d_call 22 1 (semI (vX3_init F)) 1 20 lc lsl), (22, d_putR 25 6 2), (25, d_aload 26 0), (26, d_push 27 (-1)), (27, d_putI 30 6 3), (30, d_aload 31 0), (31, d_push 32 (-1)), (32, d_putI 35 6 4), (35, d_aload 36 0), (36, d_push 37 0), (37, d_putI 40 6 8), (40, d_vret)]
def vX6_init (F : Nat) : List AV → DH → Option DH := ysem (uX6_init F) 3 F 3 2 22
def wX6_init : List Cond := .code yX6_init cX6_init 3 none :: lw_g
def qX6_init : Room := { frames := 2, cells := 2, slots := 22, locals := 40 }
set_option maxHeartbeats 4000000 in
set_option maxRecDepth 100000 in
theorem kX6_init (l : Launch) (X : XC) (F : Nat) : yM l X yX6_init wX6_init (qX6_init) 2 22 (vX6_init F) := by
  refine yMet (uX6_init F) F 3 2 22 (by decide) rfl (by decide) ?_
  intro p e s m args below meth c res hp0 ad0 hC hin9 hb1 hb2 hA
  obtain ⟨hx, hb, hr, hts0, hown, hml, hlk, hK⟩ := hC
  have hts : ∀ w ∈ lw_g, w.before args s = true := fun w h => hts0 w (List.mem_cons_of_mem _ h)
  refine ycons (y_aload_n hx hb 0 dX6_init_0 rfl) ?_
  refine ycons (y_obj hx hb hts hml hown w244 w62 w63 ⟨Nat.le_of_ble_eq_true rfl, Nat.le_of_ble_eq_true rfl⟩ dX6_init_1) ?_
  refine ycons (y_aload_n hx hb 0 dX6_init_4 rfl) ?_
  refine ycons (y_aload_n hx hb 1 dX6_init_5 rfl) ?_
  refine ycons (y_putR hx hb hts hown hK zcX6 hinX6 tyX6 tyX6_ok nmX6 0 (by decide) w258 rfl (Or.inr ⟨rfl, hin9 rfl, rfl⟩) (tyX6 0) (by decide +kernel) (Or.inl ⟨_, rfl⟩) dX6_init_6) ?_
  refine ycons (y_aload_n hx hb 0 dX6_init_9 rfl) ?_
  refine ycons (y_aload_n hx hb 2 dX6_init_10 rfl) ?_
  refine ycons (y_putR hx hb hts hown hK zcX6 hinX6 tyX6 tyX6_ok nmX6 1 (by decide) w259 rfl (Or.inr ⟨rfl, hin9 rfl, rfl⟩) (tyX6 1) (by decide +kernel) (Or.inl ⟨_, rfl⟩) dX6_init_11) ?_
  refine ycons (y_aload_n hx hb 0 dX6_init_14 rfl) ?_
  refine ycons (y_new hx hb hts hown hK zcX3 hinX3 tyX3 tyX3_ok w245 w246 w53 dvX3 (fun _ => rfl) rfl dvX3_ok (Nat.le_refl _) (Nat.le_refl _) hA dX6_init_15) ?_
  refine ycons (y_dup hx hb dX6_init_18) ?_
  refine ycons (y_callI hx hb hts hml hown hK hA (Nat.le_refl _) (Nat.le_refl _) (kX3_init l X F) (cwI 0 hts (zgoodC w249) rfl rfl rfl (hts _ w53) (hts _ w247) (hts _ w248) rfl (by decide +kernel) ⟨Nat.le_of_ble_eq_true rfl, Nat.le_of_ble_eq_true rfl⟩) dX6_init_19) ?_
  refine ycons (y_putR hx hb hts hown hK zcX6 hinX6 tyX6 tyX6_ok nmX6 2 (by decide) w260 rfl (Or.inr ⟨rfl, hin9 rfl, rfl⟩) (tyX6 2) (by decide +kernel) (Or.inl ⟨_, rfl⟩) dX6_init_22) ?_
  refine ycons (y_aload_n hx hb 0 dX6_init_25 rfl) ?_
  refine ycons (y_iconst hx hb (-1) dX6_init_26 (by decide)) ?_
  refine ycons (y_putI hx hb hts hown hK zcX6 hinX6 tyX6 tyX6_ok nmX6 3 (by decide) w261 rfl (Or.inl rfl) (by decide +kernel) dX6_init_27) ?_
  refine ycons (y_aload_n hx hb 0 dX6_init_30 rfl) ?_
  refine ycons (y_iconst hx hb (-1) dX6_init_31 (by decide)) ?_
  refine ycons (y_putI hx hb hts hown hK zcX6 hinX6 tyX6 tyX6_ok nmX6 4 (by decide) w263 rfl (Or.inl rfl) (by decide +kernel) dX6_init_32) ?_
  refine ycons (y_aload_n hx hb 0 dX6_init_35 rfl) ?_
  refine ycons (y_iconst hx hb 0 dX6_init_36 (by decide)) ?_
  refine ycons (y_putI hx hb hts hown hK zcX6 hinX6 tyX6 tyX6_ok nmX6 8 (by decide) w271 rfl (Or.inl rfl) (by decide +kernel) dX6_init_37) ?_
  refine ycons (y_vret hx hb hr hK hlk hb1 hb2 dX6_init_40) ?_
  exact ynil
def uX9_init (F lc lsl : Nat) : List (Nat × DA) := [(0, d_aload 1 0), (1, d_obj 4), (4, d_aload 5 0), (5, d_new 8 1 dvX1 lc lsl), (8, d_dup 9), (9, d_call 12 1 (semI (vX1_init F)) 25 240 lc lsl), (12, d_putR 15 8 0), (15, d_aload 16 0), (16, d_new 19 2 dvX2 lc lsl), (19, d_dup 20), (20, d_call 23 1 (semI (vX2_init F)) 3 72 lc lsl), (23, d_putR 26 8 1), (26, d_aload 27 0), (27, d_new 30 4 dvX4 lc lsl), (30, d_dup 31), (31, d_aload 32 0), (32, d_get 35 8 0), (35, d_aload 36 0), (36, d_get 39 8 1), (39, d_call 42 3 (semI (vX4_init F)) 7 731 lc lsl), (42, d_putR 45 8 2), (45, d_aload 46 0), (46, d_new 49 6 dvX6 lc lsl), (49, d_dup 50), (50, d_aload 51 0), (51, d_get 54 8 0), (54, d_aload 55 0), (55, d_get 58 8 2), (58, d_call 61 3 (semI (vX6_init F)) 2 22 lc lsl), (61, d_putR 64 8 3), (64, d_aload 65 0), (65, d_push 67 6), (67, d_newa 69 10 (.inl 0) lc lsl), (69, d_putR 72 8 4), (72, d_aload 73 0), (73, d_push 74 (-1)), (74, d_putI 77 8 5), (77, d_vret)]
def vX9_init (F : Nat) : List AV → DH → Option DH := ysem (uX9_init F) 1 F 1 42 1097
def wX9_init : List Cond := .code yX9_init cX9_init 1 none :: lw_g
def qX9_init : Room := { frames := 4, cells := 42, slots := 1097, locals := 84 }
set_option maxHeartbeats 4000000 in
set_option maxRecDepth 100000 in
theorem kX9_init (l : Launch) (X : XC) (F : Nat) : yM l X yX9_init wX9_init (qX9_init) 42 1097 (vX9_init F) := by
  refine yMet (uX9_init F) F 1 42 1097 (by decide) rfl (by decide) ?_
  intro p e s m args below meth c res hp0 ad0 hC hin9 hb1 hb2 hA
  obtain ⟨hx, hb, hr, hts0, hown, hml, hlk, hK⟩ := hC
  have hts : ∀ w ∈ lw_g, w.before args s = true := fun w h => hts0 w (List.mem_cons_of_mem _ h)
  refine ycons (y_aload_n hx hb 0 dX9_init_0 rfl) ?_
  refine ycons (y_obj hx hb hts hml hown w61 w62 w63 ⟨Nat.le_of_ble_eq_true rfl, Nat.le_of_ble_eq_true rfl⟩ dX9_init_1) ?_
  refine ycons (y_aload_n hx hb 0 dX9_init_4 rfl) ?_
  refine ycons (y_new hx hb hts hown hK zcX1 hinX1 tyX1 tyX1_ok w64 w65 w45 dvX1 (fun _ => rfl) rfl dvX1_ok (Nat.le_refl _) (Nat.le_refl _) hA dX9_init_5) ?_
  refine ycons (y_dup hx hb dX9_init_8) ?_
  refine ycons (y_callI hx hb hts hml hown hK hA (Nat.le_refl _) (Nat.le_refl _) (kX1_init l X F) (cwI 0 hts (zgoodC w68) rfl rfl rfl (hts _ w45) (hts _ w66) (hts _ w67) rfl (by decide +kernel) ⟨Nat.le_of_ble_eq_true rfl, Nat.le_of_ble_eq_true rfl⟩) dX9_init_9) ?_
  refine ycons (y_putR hx hb hts hown hK zcX9 hinX9 tyX9 tyX9_ok nmX9 0 (by decide) w304 rfl (Or.inr ⟨rfl, hin9 rfl, rfl⟩) (tyX9 0) (by decide +kernel) (Or.inl ⟨_, rfl⟩) dX9_init_12) ?_
  refine ycons (y_aload_n hx hb 0 dX9_init_15 rfl) ?_
  refine ycons (y_new hx hb hts hown hK zcX2 hinX2 tyX2 tyX2_ok w148 w149 w47 dvX2 (fun _ => rfl) rfl dvX2_ok (Nat.le_refl _) (Nat.le_refl _) hA dX9_init_16) ?_
  refine ycons (y_dup hx hb dX9_init_19) ?_
  refine ycons (y_callI hx hb hts hml hown hK hA (Nat.le_refl _) (Nat.le_refl _) (kX2_init l X F) (cwI 0 hts (zgoodC w152) rfl rfl rfl (hts _ w47) (hts _ w150) (hts _ w151) rfl (by decide +kernel) ⟨Nat.le_of_ble_eq_true rfl, Nat.le_of_ble_eq_true rfl⟩) dX9_init_20) ?_
  refine ycons (y_putR hx hb hts hown hK zcX9 hinX9 tyX9 tyX9_ok nmX9 1 (by decide) w305 rfl (Or.inr ⟨rfl, hin9 rfl, rfl⟩) (tyX9 1) (by decide +kernel) (Or.inl ⟨_, rfl⟩) dX9_init_23) ?_
  refine ycons (y_aload_n hx hb 0 dX9_init_26 rfl) ?_
  refine ycons (y_new hx hb hts hown hK zcX4 hinX4 tyX4 tyX4_ok w169 w170 w48 dvX4 (fun _ => rfl) rfl dvX4_ok (Nat.le_refl _) (Nat.le_refl _) hA dX9_init_27) ?_
  refine ycons (y_dup hx hb dX9_init_30) ?_
  refine ycons (y_aload_n hx hb 0 dX9_init_31 rfl) ?_
  refine ycons (y_get hx hb hts hown hK zcX9 hinX9 0 (by decide) w304 rfl dX9_init_32) ?_
  refine ycons (y_aload_n hx hb 0 dX9_init_35 rfl) ?_
  refine ycons (y_get hx hb hts hown hK zcX9 hinX9 1 (by decide) w305 rfl dX9_init_36) ?_
  refine ycons (y_callI hx hb hts hml hown hK hA (Nat.le_refl _) (Nat.le_refl _) (kX4_init l X F) (cwI 2 hts (zgoodC w173) rfl rfl rfl (hts _ w48) (hts _ w171) (hts _ w172) rfl (by decide +kernel) ⟨Nat.le_of_ble_eq_true rfl, Nat.le_of_ble_eq_true rfl⟩) dX9_init_39) ?_
  refine ycons (y_putR hx hb hts hown hK zcX9 hinX9 tyX9 tyX9_ok nmX9 2 (by decide) w306 rfl (Or.inr ⟨rfl, hin9 rfl, rfl⟩) (tyX9 2) (by decide +kernel) (Or.inl ⟨_, rfl⟩) dX9_init_42) ?_
  refine ycons (y_aload_n hx hb 0 dX9_init_45 rfl) ?_
  refine ycons (y_new hx hb hts hown hK zcX6 hinX6 tyX6 tyX6_ok w239 w240 w52 dvX6 (fun _ => rfl) rfl dvX6_ok (Nat.le_refl _) (Nat.le_refl _) hA dX9_init_46) ?_
  refine ycons (y_dup hx hb dX9_init_49) ?_
  refine ycons (y_aload_n hx hb 0 dX9_init_50 rfl) ?_
  refine ycons (y_get hx hb hts hown hK zcX9 hinX9 0 (by decide) w304 rfl dX9_init_51) ?_
  refine ycons (y_aload_n hx hb 0 dX9_init_54 rfl) ?_
  refine ycons (y_get hx hb hts hown hK zcX9 hinX9 2 (by decide) w306 rfl dX9_init_55) ?_
  refine ycons (y_callI hx hb hts hml hown hK hA (Nat.le_refl _) (Nat.le_refl _) (kX6_init l X F) (cwI 2 hts (zgoodC w243) rfl rfl rfl (hts _ w52) (hts _ w241) (hts _ w242) rfl (by decide +kernel) ⟨Nat.le_of_ble_eq_true rfl, Nat.le_of_ble_eq_true rfl⟩) dX9_init_58) ?_
  refine ycons (y_putR hx hb hts hown hK zcX9 hinX9 tyX9 tyX9_ok nmX9 3 (by decide) w307 rfl (Or.inr ⟨rfl, hin9 rfl, rfl⟩) (tyX9 3) (by decide +kernel) (Or.inl ⟨_, rfl⟩) dX9_init_61) ?_
  refine ycons (y_aload_n hx hb 0 dX9_init_64 rfl) ?_
  refine ycons (y_bipush hx hb 6 dX9_init_65 (by decide)) ?_
  refine ycons (y_newa hx hb hts hK .int .int 10 0 (Or.inl ⟨rfl, rfl, rfl⟩) rfl w139 (Nat.le_refl _) (Nat.le_refl _) hA dX9_init_67) ?_
  refine ycons (y_putR hx hb hts hown hK zcX9 hinX9 tyX9 tyX9_ok nmX9 4 (by decide) w308 rfl (Or.inr ⟨rfl, hin9 rfl, rfl⟩) (tyX9 4) (by decide +kernel) (Or.inr ⟨_, rfl⟩) dX9_init_69) ?_
  refine ycons (y_aload_n hx hb 0 dX9_init_72 rfl) ?_
  refine ycons (y_iconst hx hb (-1) dX9_init_73 (by decide)) ?_
  refine ycons (y_putI hx hb hts hown hK zcX9 hinX9 tyX9 tyX9_ok nmX9 5 (by decide) w309 rfl (Or.inl rfl) (by decide +kernel) dX9_init_74) ?_
  refine ycons (y_vret hx hb hr hK hlk hb1 hb2 dX9_init_77) ?_
  exact ynil
def uX10_init (F lc lsl : Nat) : List (Nat × DA) := [(0, d_aload 1 0), (1, d_obj 4), (4, d_aload 5 0), (5, d_push 7 12), (7, d_newa 9 10 (.inl 0) lc lsl), (9, d_putR 12 9 1), (12, d_aload 13 0), (13, d_push 15 12), (15, d_newa 17 10 (.inl 0) lc lsl), (17, d_putR 20 9 2), (20, d_aload 21 0), (21, d_push 23 12), (23, d_newa 25 10 (.inl 0) lc lsl), (25, d_putR 28 9 3), (28, d_aload 29 0), (29, d_push 31 12), (31, d_newa 33 11 (.inl 0) lc lsl), (33, d_putR 36 9 4), (36, d_aload 37 0), (37, d_push 39 12), (39, d_newa 41 11 (.inl 0) lc lsl), (41, d_putR 44 9 5), (44, d_aload 45 0), (45, d_push 47 72), (47, d_newa 49 10 (.inl 0) lc lsl), (49, d_putR 52 9 6), (52, d_aload 53 0), (53, d_push 55 12), (55, d_newa 57 10 (.inl 0) lc lsl), (57, d_putR 60 9 7), (60, d_aload 61 0), (61, d_push 63 12), (63, d_newa 65 10 (.inl 0) lc lsl), (65, d_putR 68 9 8), (68, d_aload 69 0), (69, d_push 71 12), (71, d_newa 73 10 (.inl 0) lc lsl), (73, d_putR 76 9 9), (76, d_aload 77 0), (77, d_push 79 12), (79, d_newa 81 11 (.inl 0) lc lsl), (81, d_putR 84 9 10), (84, d_aload 85 0), (85, d_push 87 12), (87, d_newa 89 11 (.inl 0) lc lsl), (89, d_putR 92 9 11), (92, d_aload 93 0), (93, d_push 95 30), (95, d_putI 98 9 12), (98, d_aload 99 0), (99, d_push 100 5), (100, d_putI 103 9 13), (103, d_aload 104 0), (104, d_push 106 10), (106, d_putI 109 9 14), (109, d_aload 110 0), (110, d_push 112 6), (112, d_newa 114 10 (.inl 0) lc lsl), (114, d_putR 117 9 15), (117, d_aload 118 0), (118, d_push 120 8), (120, d_newa 122 10 (.inl 0) lc lsl), (122, d_putR 125 9 17), (125, d_aload 126 0), (126, d_push 128 32), (128, d_newa 130 10 (.inl 0) lc lsl), (130, d_putR 133 9 18), (133, d_aload 134 0), (134, d_push 136 32), (136, d_newa 138 10 (.inl 0) lc lsl), (138, d_putR 141 9 19), (141, d_aload 142 0), (142, d_push 143 2), (143, d_newa 145 10 (.inl 0) lc lsl), (145, d_putR 148 9 20), (148, d_aload 149 0), (149, d_push 150 2), (150, d_newa 152 10 (.inl 0) lc lsl), (152, d_putR 155 9 21), (155, d_aload 156 0), (156, d_push 157 2), (157, d_newa 159 10 (.inl 0) lc lsl), (159, d_putR 162 9 22), (162, d_aload 163 0), (163, d_push 165 8), (165, d_newa 167 10 (.inl 0) lc lsl), (167, d_putR 170 9 23), (170, d_aload 171 0), (171, d_push 173 8), (173, d_newa 175 10 (.inl 0) lc lsl), (175, d_putR 178 9 25), (178, d_aload 179 0), (179, d_push 180 (-1)), (180, d_putI 183 9 29), (183, d_aload 184 0), (184, d_push 185 (-1)), (185, d_putI 188 9 30), (188, d_aload 189 0), (189, d_push 191 20), (191, d_newa 193 10 (.inl 0) lc lsl), (193, d_putR 196 9 35), (196, d_aload 197 0), (197, d_push 198 2), (198, d_newa 200 10 (.inl 0) lc lsl), (200, d_putR 203 9 38), (203, d_aload 204 0), (204, d_push 205 2), (205, d_newa 207 10 (.inl 0) lc lsl), (207, d_putR 210 9 39), (210, d_aload 211 0), (211, d_push 213 9), (213, d_newa 215 10 (.inl 0) lc lsl), (215, d_putR 218 9 40), (218, d_vret)]
def vX10_init (F : Nat) : List AV → DH → Option DH := ysem (uX10_init F) 1 F 1 24 325
def wX10_init : List Cond := .code yX10_init cX10_init 1 none :: lw_g
def qX10_init : Room := { frames := 1, cells := 24, slots := 325, locals := 20 }
set_option maxHeartbeats 4000000 in
set_option maxRecDepth 100000 in
theorem kX10_init (l : Launch) (X : XC) (F : Nat) : yM l X yX10_init wX10_init (qX10_init) 24 325 (vX10_init F) := by
  refine yMet (uX10_init F) F 1 24 325 (by decide) rfl (by decide) ?_
  intro p e s m args below meth c res hp0 ad0 hC hin9 hb1 hb2 hA
  obtain ⟨hx, hb, hr, hts0, hown, hml, hlk, hK⟩ := hC
  have hts : ∀ w ∈ lw_g, w.before args s = true := fun w h => hts0 w (List.mem_cons_of_mem _ h)
  refine ycons (y_aload_n hx hb 0 dX10_init_0 rfl) ?_
  refine ycons (y_obj hx hb hts hml hown w702 w62 w63 ⟨Nat.le_of_ble_eq_true rfl, Nat.le_of_ble_eq_true rfl⟩ dX10_init_1) ?_
  refine ycons (y_aload_n hx hb 0 dX10_init_4 rfl) ?_
  refine ycons (y_bipush hx hb 12 dX10_init_5 (by decide)) ?_
  refine ycons (y_newa hx hb hts hK .int .int 10 0 (Or.inl ⟨rfl, rfl, rfl⟩) rfl w139 (Nat.le_refl _) (Nat.le_refl _) hA dX10_init_7) ?_
  refine ycons (y_putR hx hb hts hown hK zcX10 hinX10 tyX10 tyX10_ok nmX10 1 (by decide) w704 rfl (Or.inr ⟨rfl, hin9 rfl, rfl⟩) (tyX10 1) (by decide +kernel) (Or.inr ⟨_, rfl⟩) dX10_init_9) ?_
  refine ycons (y_aload_n hx hb 0 dX10_init_12 rfl) ?_
  refine ycons (y_bipush hx hb 12 dX10_init_13 (by decide)) ?_
  refine ycons (y_newa hx hb hts hK .int .int 10 0 (Or.inl ⟨rfl, rfl, rfl⟩) rfl w139 (Nat.le_refl _) (Nat.le_refl _) hA dX10_init_15) ?_
  refine ycons (y_putR hx hb hts hown hK zcX10 hinX10 tyX10 tyX10_ok nmX10 2 (by decide) w705 rfl (Or.inr ⟨rfl, hin9 rfl, rfl⟩) (tyX10 2) (by decide +kernel) (Or.inr ⟨_, rfl⟩) dX10_init_17) ?_
  refine ycons (y_aload_n hx hb 0 dX10_init_20 rfl) ?_
  refine ycons (y_bipush hx hb 12 dX10_init_21 (by decide)) ?_
  refine ycons (y_newa hx hb hts hK .int .int 10 0 (Or.inl ⟨rfl, rfl, rfl⟩) rfl w139 (Nat.le_refl _) (Nat.le_refl _) hA dX10_init_23) ?_
  refine ycons (y_putR hx hb hts hown hK zcX10 hinX10 tyX10 tyX10_ok nmX10 3 (by decide) w706 rfl (Or.inr ⟨rfl, hin9 rfl, rfl⟩) (tyX10 3) (by decide +kernel) (Or.inr ⟨_, rfl⟩) dX10_init_25) ?_
  refine ycons (y_aload_n hx hb 0 dX10_init_28 rfl) ?_
  refine ycons (y_bipush hx hb 12 dX10_init_29 (by decide)) ?_
  refine ycons (y_newa hx hb hts hK .boolean .boolean 11 1 (Or.inr ⟨rfl, rfl, rfl⟩) rfl w827 (Nat.le_refl _) (Nat.le_refl _) hA dX10_init_31) ?_
  refine ycons (y_putR hx hb hts hown hK zcX10 hinX10 tyX10 tyX10_ok nmX10 4 (by decide) w707 rfl (Or.inr ⟨rfl, hin9 rfl, rfl⟩) (tyX10 4) (by decide +kernel) (Or.inr ⟨_, rfl⟩) dX10_init_33) ?_
  refine ycons (y_aload_n hx hb 0 dX10_init_36 rfl) ?_
  refine ycons (y_bipush hx hb 12 dX10_init_37 (by decide)) ?_
  refine ycons (y_newa hx hb hts hK .boolean .boolean 11 1 (Or.inr ⟨rfl, rfl, rfl⟩) rfl w827 (Nat.le_refl _) (Nat.le_refl _) hA dX10_init_39) ?_
  refine ycons (y_putR hx hb hts hown hK zcX10 hinX10 tyX10 tyX10_ok nmX10 5 (by decide) w708 rfl (Or.inr ⟨rfl, hin9 rfl, rfl⟩) (tyX10 5) (by decide +kernel) (Or.inr ⟨_, rfl⟩) dX10_init_41) ?_
  refine ycons (y_aload_n hx hb 0 dX10_init_44 rfl) ?_
  refine ycons (y_bipush hx hb 72 dX10_init_45 (by decide)) ?_
  refine ycons (y_newa hx hb hts hK .int .int 10 0 (Or.inl ⟨rfl, rfl, rfl⟩) rfl w139 (Nat.le_refl _) (Nat.le_refl _) hA dX10_init_47) ?_
  refine ycons (y_putR hx hb hts hown hK zcX10 hinX10 tyX10 tyX10_ok nmX10 6 (by decide) w709 rfl (Or.inr ⟨rfl, hin9 rfl, rfl⟩) (tyX10 6) (by decide +kernel) (Or.inr ⟨_, rfl⟩) dX10_init_49) ?_
  refine ycons (y_aload_n hx hb 0 dX10_init_52 rfl) ?_
  refine ycons (y_bipush hx hb 12 dX10_init_53 (by decide)) ?_
  refine ycons (y_newa hx hb hts hK .int .int 10 0 (Or.inl ⟨rfl, rfl, rfl⟩) rfl w139 (Nat.le_refl _) (Nat.le_refl _) hA dX10_init_55) ?_
  refine ycons (y_putR hx hb hts hown hK zcX10 hinX10 tyX10 tyX10_ok nmX10 7 (by decide) w710 rfl (Or.inr ⟨rfl, hin9 rfl, rfl⟩) (tyX10 7) (by decide +kernel) (Or.inr ⟨_, rfl⟩) dX10_init_57) ?_
  refine ycons (y_aload_n hx hb 0 dX10_init_60 rfl) ?_
  refine ycons (y_bipush hx hb 12 dX10_init_61 (by decide)) ?_
  refine ycons (y_newa hx hb hts hK .int .int 10 0 (Or.inl ⟨rfl, rfl, rfl⟩) rfl w139 (Nat.le_refl _) (Nat.le_refl _) hA dX10_init_63) ?_
  refine ycons (y_putR hx hb hts hown hK zcX10 hinX10 tyX10 tyX10_ok nmX10 8 (by decide) w711 rfl (Or.inr ⟨rfl, hin9 rfl, rfl⟩) (tyX10 8) (by decide +kernel) (Or.inr ⟨_, rfl⟩) dX10_init_65) ?_
  refine ycons (y_aload_n hx hb 0 dX10_init_68 rfl) ?_
  refine ycons (y_bipush hx hb 12 dX10_init_69 (by decide)) ?_
  refine ycons (y_newa hx hb hts hK .int .int 10 0 (Or.inl ⟨rfl, rfl, rfl⟩) rfl w139 (Nat.le_refl _) (Nat.le_refl _) hA dX10_init_71) ?_
  refine ycons (y_putR hx hb hts hown hK zcX10 hinX10 tyX10 tyX10_ok nmX10 9 (by decide) w712 rfl (Or.inr ⟨rfl, hin9 rfl, rfl⟩) (tyX10 9) (by decide +kernel) (Or.inr ⟨_, rfl⟩) dX10_init_73) ?_
  refine ycons (y_aload_n hx hb 0 dX10_init_76 rfl) ?_
  refine ycons (y_bipush hx hb 12 dX10_init_77 (by decide)) ?_
  refine ycons (y_newa hx hb hts hK .boolean .boolean 11 1 (Or.inr ⟨rfl, rfl, rfl⟩) rfl w827 (Nat.le_refl _) (Nat.le_refl _) hA dX10_init_79) ?_
  refine ycons (y_putR hx hb hts hown hK zcX10 hinX10 tyX10 tyX10_ok nmX10 10 (by decide) w713 rfl (Or.inr ⟨rfl, hin9 rfl, rfl⟩) (tyX10 10) (by decide +kernel) (Or.inr ⟨_, rfl⟩) dX10_init_81) ?_
  refine ycons (y_aload_n hx hb 0 dX10_init_84 rfl) ?_
  refine ycons (y_bipush hx hb 12 dX10_init_85 (by decide)) ?_
  refine ycons (y_newa hx hb hts hK .boolean .boolean 11 1 (Or.inr ⟨rfl, rfl, rfl⟩) rfl w827 (Nat.le_refl _) (Nat.le_refl _) hA dX10_init_87) ?_
  refine ycons (y_putR hx hb hts hown hK zcX10 hinX10 tyX10 tyX10_ok nmX10 11 (by decide) w714 rfl (Or.inr ⟨rfl, hin9 rfl, rfl⟩) (tyX10 11) (by decide +kernel) (Or.inr ⟨_, rfl⟩) dX10_init_89) ?_
  refine ycons (y_aload_n hx hb 0 dX10_init_92 rfl) ?_
  refine ycons (y_bipush hx hb 30 dX10_init_93 (by decide)) ?_
  refine ycons (y_putI hx hb hts hown hK zcX10 hinX10 tyX10 tyX10_ok nmX10 12 (by decide) w715 rfl (Or.inl rfl) (by decide +kernel) dX10_init_95) ?_
  refine ycons (y_aload_n hx hb 0 dX10_init_98 rfl) ?_
  refine ycons (y_iconst hx hb 5 dX10_init_99 (by decide)) ?_
  refine ycons (y_putI hx hb hts hown hK zcX10 hinX10 tyX10 tyX10_ok nmX10 13 (by decide) w716 rfl (Or.inl rfl) (by decide +kernel) dX10_init_100) ?_
  refine ycons (y_aload_n hx hb 0 dX10_init_103 rfl) ?_
  refine ycons (y_bipush hx hb 10 dX10_init_104 (by decide)) ?_
  refine ycons (y_putI hx hb hts hown hK zcX10 hinX10 tyX10 tyX10_ok nmX10 14 (by decide) w717 rfl (Or.inl rfl) (by decide +kernel) dX10_init_106) ?_
  refine ycons (y_aload_n hx hb 0 dX10_init_109 rfl) ?_
  refine ycons (y_bipush hx hb 6 dX10_init_110 (by decide)) ?_
  refine ycons (y_newa hx hb hts hK .int .int 10 0 (Or.inl ⟨rfl, rfl, rfl⟩) rfl w139 (Nat.le_refl _) (Nat.le_refl _) hA dX10_init_112) ?_
  refine ycons (y_putR hx hb hts hown hK zcX10 hinX10 tyX10 tyX10_ok nmX10 15 (by decide) w718 rfl (Or.inr ⟨rfl, hin9 rfl, rfl⟩) (tyX10 15) (by decide +kernel) (Or.inr ⟨_, rfl⟩) dX10_init_114) ?_
  refine ycons (y_aload_n hx hb 0 dX10_init_117 rfl) ?_
  refine ycons (y_bipush hx hb 8 dX10_init_118 (by decide)) ?_
  refine ycons (y_newa hx hb hts hK .int .int 10 0 (Or.inl ⟨rfl, rfl, rfl⟩) rfl w139 (Nat.le_refl _) (Nat.le_refl _) hA dX10_init_120) ?_
  refine ycons (y_putR hx hb hts hown hK zcX10 hinX10 tyX10 tyX10_ok nmX10 17 (by decide) w720 rfl (Or.inr ⟨rfl, hin9 rfl, rfl⟩) (tyX10 17) (by decide +kernel) (Or.inr ⟨_, rfl⟩) dX10_init_122) ?_
  refine ycons (y_aload_n hx hb 0 dX10_init_125 rfl) ?_
  refine ycons (y_bipush hx hb 32 dX10_init_126 (by decide)) ?_
  refine ycons (y_newa hx hb hts hK .int .int 10 0 (Or.inl ⟨rfl, rfl, rfl⟩) rfl w139 (Nat.le_refl _) (Nat.le_refl _) hA dX10_init_128) ?_
  refine ycons (y_putR hx hb hts hown hK zcX10 hinX10 tyX10 tyX10_ok nmX10 18 (by decide) w721 rfl (Or.inr ⟨rfl, hin9 rfl, rfl⟩) (tyX10 18) (by decide +kernel) (Or.inr ⟨_, rfl⟩) dX10_init_130) ?_
  refine ycons (y_aload_n hx hb 0 dX10_init_133 rfl) ?_
  refine ycons (y_bipush hx hb 32 dX10_init_134 (by decide)) ?_
  refine ycons (y_newa hx hb hts hK .int .int 10 0 (Or.inl ⟨rfl, rfl, rfl⟩) rfl w139 (Nat.le_refl _) (Nat.le_refl _) hA dX10_init_136) ?_
  refine ycons (y_putR hx hb hts hown hK zcX10 hinX10 tyX10 tyX10_ok nmX10 19 (by decide) w722 rfl (Or.inr ⟨rfl, hin9 rfl, rfl⟩) (tyX10 19) (by decide +kernel) (Or.inr ⟨_, rfl⟩) dX10_init_138) ?_
  refine ycons (y_aload_n hx hb 0 dX10_init_141 rfl) ?_
  refine ycons (y_iconst hx hb 2 dX10_init_142 (by decide)) ?_
  refine ycons (y_newa hx hb hts hK .int .int 10 0 (Or.inl ⟨rfl, rfl, rfl⟩) rfl w139 (Nat.le_refl _) (Nat.le_refl _) hA dX10_init_143) ?_
  refine ycons (y_putR hx hb hts hown hK zcX10 hinX10 tyX10 tyX10_ok nmX10 20 (by decide) w723 rfl (Or.inr ⟨rfl, hin9 rfl, rfl⟩) (tyX10 20) (by decide +kernel) (Or.inr ⟨_, rfl⟩) dX10_init_145) ?_
  refine ycons (y_aload_n hx hb 0 dX10_init_148 rfl) ?_
  refine ycons (y_iconst hx hb 2 dX10_init_149 (by decide)) ?_
  refine ycons (y_newa hx hb hts hK .int .int 10 0 (Or.inl ⟨rfl, rfl, rfl⟩) rfl w139 (Nat.le_refl _) (Nat.le_refl _) hA dX10_init_150) ?_
  refine ycons (y_putR hx hb hts hown hK zcX10 hinX10 tyX10 tyX10_ok nmX10 21 (by decide) w724 rfl (Or.inr ⟨rfl, hin9 rfl, rfl⟩) (tyX10 21) (by decide +kernel) (Or.inr ⟨_, rfl⟩) dX10_init_152) ?_
  refine ycons (y_aload_n hx hb 0 dX10_init_155 rfl) ?_
  refine ycons (y_iconst hx hb 2 dX10_init_156 (by decide)) ?_
  refine ycons (y_newa hx hb hts hK .int .int 10 0 (Or.inl ⟨rfl, rfl, rfl⟩) rfl w139 (Nat.le_refl _) (Nat.le_refl _) hA dX10_init_157) ?_
  refine ycons (y_putR hx hb hts hown hK zcX10 hinX10 tyX10 tyX10_ok nmX10 22 (by decide) w725 rfl (Or.inr ⟨rfl, hin9 rfl, rfl⟩) (tyX10 22) (by decide +kernel) (Or.inr ⟨_, rfl⟩) dX10_init_159) ?_
  refine ycons (y_aload_n hx hb 0 dX10_init_162 rfl) ?_
  refine ycons (y_bipush hx hb 8 dX10_init_163 (by decide)) ?_
  refine ycons (y_newa hx hb hts hK .int .int 10 0 (Or.inl ⟨rfl, rfl, rfl⟩) rfl w139 (Nat.le_refl _) (Nat.le_refl _) hA dX10_init_165) ?_
  refine ycons (y_putR hx hb hts hown hK zcX10 hinX10 tyX10 tyX10_ok nmX10 23 (by decide) w726 rfl (Or.inr ⟨rfl, hin9 rfl, rfl⟩) (tyX10 23) (by decide +kernel) (Or.inr ⟨_, rfl⟩) dX10_init_167) ?_
  refine ycons (y_aload_n hx hb 0 dX10_init_170 rfl) ?_
  refine ycons (y_bipush hx hb 8 dX10_init_171 (by decide)) ?_
  refine ycons (y_newa hx hb hts hK .int .int 10 0 (Or.inl ⟨rfl, rfl, rfl⟩) rfl w139 (Nat.le_refl _) (Nat.le_refl _) hA dX10_init_173) ?_
  refine ycons (y_putR hx hb hts hown hK zcX10 hinX10 tyX10 tyX10_ok nmX10 25 (by decide) w728 rfl (Or.inr ⟨rfl, hin9 rfl, rfl⟩) (tyX10 25) (by decide +kernel) (Or.inr ⟨_, rfl⟩) dX10_init_175) ?_
  refine ycons (y_aload_n hx hb 0 dX10_init_178 rfl) ?_
  refine ycons (y_iconst hx hb (-1) dX10_init_179 (by decide)) ?_
  refine ycons (y_putI hx hb hts hown hK zcX10 hinX10 tyX10 tyX10_ok nmX10 29 (by decide) w732 rfl (Or.inl rfl) (by decide +kernel) dX10_init_180) ?_
  refine ycons (y_aload_n hx hb 0 dX10_init_183 rfl) ?_
  refine ycons (y_iconst hx hb (-1) dX10_init_184 (by decide)) ?_
  refine ycons (y_putI hx hb hts hown hK zcX10 hinX10 tyX10 tyX10_ok nmX10 30 (by decide) w733 rfl (Or.inl rfl) (by decide +kernel) dX10_init_185) ?_
  refine ycons (y_aload_n hx hb 0 dX10_init_188 rfl) ?_
  refine ycons (y_bipush hx hb 20 dX10_init_189 (by decide)) ?_
  refine ycons (y_newa hx hb hts hK .int .int 10 0 (Or.inl ⟨rfl, rfl, rfl⟩) rfl w139 (Nat.le_refl _) (Nat.le_refl _) hA dX10_init_191) ?_
  refine ycons (y_putR hx hb hts hown hK zcX10 hinX10 tyX10 tyX10_ok nmX10 35 (by decide) w738 rfl (Or.inr ⟨rfl, hin9 rfl, rfl⟩) (tyX10 35) (by decide +kernel) (Or.inr ⟨_, rfl⟩) dX10_init_193) ?_
  refine ycons (y_aload_n hx hb 0 dX10_init_196 rfl) ?_
  refine ycons (y_iconst hx hb 2 dX10_init_197 (by decide)) ?_
  refine ycons (y_newa hx hb hts hK .int .int 10 0 (Or.inl ⟨rfl, rfl, rfl⟩) rfl w139 (Nat.le_refl _) (Nat.le_refl _) hA dX10_init_198) ?_
  refine ycons (y_putR hx hb hts hown hK zcX10 hinX10 tyX10 tyX10_ok nmX10 38 (by decide) w741 rfl (Or.inr ⟨rfl, hin9 rfl, rfl⟩) (tyX10 38) (by decide +kernel) (Or.inr ⟨_, rfl⟩) dX10_init_200) ?_
  refine ycons (y_aload_n hx hb 0 dX10_init_203 rfl) ?_
  refine ycons (y_iconst hx hb 2 dX10_init_204 (by decide)) ?_
  refine ycons (y_newa hx hb hts hK .int .int 10 0 (Or.inl ⟨rfl, rfl, rfl⟩) rfl w139 (Nat.le_refl _) (Nat.le_refl _) hA dX10_init_205) ?_
  refine ycons (y_putR hx hb hts hown hK zcX10 hinX10 tyX10 tyX10_ok nmX10 39 (by decide) w742 rfl (Or.inr ⟨rfl, hin9 rfl, rfl⟩) (tyX10 39) (by decide +kernel) (Or.inr ⟨_, rfl⟩) dX10_init_207) ?_
  refine ycons (y_aload_n hx hb 0 dX10_init_210 rfl) ?_
  refine ycons (y_bipush hx hb 9 dX10_init_211 (by decide)) ?_
  refine ycons (y_newa hx hb hts hK .int .int 10 0 (Or.inl ⟨rfl, rfl, rfl⟩) rfl w139 (Nat.le_refl _) (Nat.le_refl _) hA dX10_init_213) ?_
  refine ycons (y_putR hx hb hts hown hK zcX10 hinX10 tyX10 tyX10_ok nmX10 40 (by decide) w743 rfl (Or.inr ⟨rfl, hin9 rfl, rfl⟩) (tyX10 40) (by decide +kernel) (Or.inr ⟨_, rfl⟩) dX10_init_215) ?_
  refine ycons (y_vret hx hb hr hK hlk hb1 hb2 dX10_init_218) ?_
  exact ynil
