/-! The actions on the heap, calls and returns. -/
theorem zfs_at {ad : Nat → Nat} {c j : Nat} {row : Nat → Int32} (hj : j < znf (zkd c)) : (zfs ad c row)[j]? = some (match zpt c j with
  | some c' => .ref (ad c')
  | none => .int (row j)) := by
  unfold zfs
  rw [List.getElem?_map, List.getElem?_range hj]
  rfl
theorem zfs_len (ad : Nat → Nat) (c : Nat) (row : Nat → Int32) : (zfs ad c row).length = znf (zkd c) := by simp [zfs]
theorem zfs_set {ad : Nat → Nat} {c j : Nat} {row : Nat → Int32} {x : Int32} (hj : j < znf (zkd c)) (hp : zpt c j = none) : (zfs ad c row).set j (.int x) = zfs ad c (upd row j x) := by
  apply List.ext_getElem?
  intro i
  rw [List.getElem?_set]
  by_cases hi : j = i
  · subst hi
    rw [if_pos rfl, zfs_len, if_pos hj, zfs_at hj, hp]
    simp [upd]
  · rw [if_neg hi]
    by_cases hl : i < znf (zkd c)
    · rw [zfs_at hl, zfs_at hl]
      have : upd row j x i = row i := by simp [upd, Ne.symm hi]
      rw [this]
    · rw [List.getElem?_eq_none (by rw [zfs_len]; omega), List.getElem?_eq_none (by rw [zfs_len]; omega)]
/-- the classes of vwCl, by their numbers, as the words and the tables have them -/
def zCl (ci : Nat) (C : String) (T : u_T) (N : Nat) : Prop := vwCl[ci]? = some (C, T, N) ∧ znf ci = N ∧ ci < 10
section HP
variable {p : Program} {l : Launch} {e : Env} {R : Room} {s : State} {m : MethodId} {args : Array Value} {below : List Frame} {meth : Method} {c : Code} {cells slots : Nat} {Q : State → Prop}
variable {X : XC} {nL : Nat} {A : Nat → Prop} {H0 : Heap} {cc : ByteArray} {pc : Nat} {res : AR} {Ts : List Cond} {own : String}
theorem s_getI (hexec : p.tables.exec = Jvm.exec) (hb : c.code = cc) (hts : ∀ w ∈ Ts, w.before args s = true) (hown : s.vm.findClass own = some m.cls) (hK : zK X s) {C : String} {T : u_T} {N ci index : Nat} (hC : zCl ci C T N) (hin : ∀ w ∈ u_ws C T N, w ∈ Ts) (j : Nat) (hj : j < N) (hlink : (Cond.fieldLink own index C (T j).2.1 (T j).2.2.1) ∈ Ts) (hs : (T j).1 = C) (hpt : ∀ c0, zkd c0 = ci → zpt c0 j = none) (hdg : decode cc pc = .ok (.getfield index, 3)) : zS p l e R s m args below meth c cells slots Q X nL A H0 res pc (a_getI (pc + 3) ci j) := by
  intro k lsA stA M hk h H locs ls hI hS hL
  unfold a_getI at h
  split at h
  · rename_i c0 st'
    split at h
    · rename_i hkd
      have hlt : c0 < zN := zkd_lt (by rw [hkd]; have := hC.2.2; omega)
      have he := zW_at X M hlt
      rw [zE_obj X (by rw [hkd]; exact hC.2.2), hkd] at he
      have hjn : j < znf (zkd c0) := by rw [hkd, hC.2.1]; exact hj
      have hv := zfs_at (ad := X.2.1) (row := M c0) hjn
      rw [hpt c0 hkd] at hv
      exact va_get (D := X.1) (ci := ci) (C := C) (T := T) (N := N) hexec hb hts hin hown hK.1 hI.1 c0 he hC.1 j hj (hts _ hlink) (fun x hx => by rw [hs] at hx; exact hx) hv hdg (hk _ _ _ _ h H locs ls hI hS hL)
    · cases h
  · cases h
theorem s_getR (hexec : p.tables.exec = Jvm.exec) (hb : c.code = cc) (hts : ∀ w ∈ Ts, w.before args s = true) (hown : s.vm.findClass own = some m.cls) (hK : zK X s) {C : String} {T : u_T} {N ci index : Nat} (hC : zCl ci C T N) (hin : ∀ w ∈ u_ws C T N, w ∈ Ts) (j : Nat) (hj : j < N) (hlink : (Cond.fieldLink own index C (T j).2.1 (T j).2.2.1) ∈ Ts) (hs : (T j).1 = C) (f : Nat → Nat) (hpt : ∀ c0, zkd c0 = ci → zpt c0 j = some (f c0)) (hdg : decode cc pc = .ok (.getfield index, 3)) : zS p l e R s m args below meth c cells slots Q X nL A H0 res pc (a_getR (pc + 3) ci f) := by
  intro k lsA stA M hk h H locs ls hI hS hL
  unfold a_getR at h
  split at h
  · rename_i c0 st'
    split at h
    · rename_i hkd
      have hlt : c0 < zN := zkd_lt (by rw [hkd]; have := hC.2.2; omega)
      have he := zW_at X M hlt
      rw [zE_obj X (by rw [hkd]; exact hC.2.2), hkd] at he
      have hjn : j < znf (zkd c0) := by rw [hkd, hC.2.1]; exact hj
      have hv := zfs_at (ad := X.2.1) (row := M c0) hjn
      rw [hpt c0 hkd] at hv
      exact va_get (D := X.1) (ci := ci) (C := C) (T := T) (N := N) hexec hb hts hin hown hK.1 hI.1 c0 he hC.1 j hj (hts _ hlink) (fun x hx => by rw [hs] at hx; exact hx) hv hdg (hk _ _ _ _ h H locs ls hI hS hL)
    · cases h
  · cases h
theorem zput {hZ : ∀ q, zA X q → A q} (hexec : p.tables.exec = Jvm.exec) (hb : c.code = cc) (hts : ∀ w ∈ Ts, w.before args s = true) (hown : s.vm.findClass own = some m.cls) (hK : zK X s) {C : String} {T : u_T} {N ci index : Nat} (hC : zCl ci C T N) (hin : ∀ w ∈ u_ws C T N, w ∈ Ts) (ty0 : Nat → FieldType) (hty : ∀ k, k < N → parseFieldDescriptor (T k).2.2.1 = some (ty0 k)) (hnm : ∀ a, a < N → ∀ b, b < N → a ≠ b → (T a).2.1 ≠ (T b).2.1) (j : Nat) (hj : j < N) (hlink : (Cond.fieldLink own index C (T j).2.1 (T j).2.2.1) ∈ Ts) (hs : (T j).1 = C) (hfin : (T j).2.2.2 = false) (hpt : ∀ c0, zkd c0 = ci → zpt c0 j = none) {ty : FieldType} (hd : parseFieldDescriptor (T j).2.2.1 = some ty) (hdg : decode cc pc = .ok (.putfield index, 3))
    {H : Heap} {locs : List Loc} {M : MM} {c0 : Nat} {x : Int32} {ls : Array Slot} {rest : List Value} (hI : zI X M H) (hS : va_S A H0 H locs) (hkd : zkd c0 = ci) (hn : narrow ty (.int x) = .int x) (hfit : fits ty (.int x) = true)
    (kk : ∀ (H1 : Heap) (locs1 : List Loc), zI X (st2 M c0 j x) H1 → va_S A H0 H1 locs1 → W p l e R s m args below meth c H1 locs1 cells slots Q (F0 m (pc + 3) ls rest)) : W p l e R s m args below meth c H locs cells slots Q (F0 m pc ls (.int x :: .ref (X.2.1 c0) :: rest)) := by
  have hlt : c0 < zN := zkd_lt (by rw [hkd]; have := hC.2.2; omega)
  have he := zW_at X M hlt
  rw [zE_obj X (by rw [hkd]; exact hC.2.2), hkd] at he
  have hjn : j < znf (zkd c0) := by rw [hkd, hC.2.1]; exact hj
  have hD : va_D A (zW X M) := hI.2.weaken (fun _ q _ h => hZ q.1 h)
  refine va_put (D := X.1) (ci := ci) (C := C) (T := T) (N := N) hexec hb hts hin ty0 hty hnm hown hK.1 hI.1 hD hS c0 he hC.1 j hj (hts _ hlink) (fun x hx => by rw [hs] at hx; exact hx) hfin hd hn hfit (by rw [zfs_len]; exact hjn) hdg (fun H1 locs1 hP1 hD1 hS1 => ?_)
  have e1 : (zW X M).set c0 (X.2.1 c0, .inr (ci, (zfs X.2.1 c0 (M c0)).set j (.int x))) = zW X (st2 M c0 j x) := by
    rw [zfs_set hjn (hpt c0 hkd), ← zW_set X M hlt (upd (M c0) j x) (st2 M c0 j x) (st2_row M c0 j x) (fun c' h' => st2_ne M c0 j x c' h'), zE_obj X (by rw [hkd]; exact hC.2.2), hkd]
  rw [e1] at hP1
  refine kk H1 locs1 ⟨hP1, ?_⟩ hS1
  have h2 : va_D (zA X) ((zW X M).set c0 (X.2.1 c0, .inr (ci, (zfs X.2.1 c0 (M c0)).set j (.int x)))) := hI.2.set he
  rw [e1] at h2
  exact h2
theorem s_put {hZ : ∀ q, zA X q → A q} (hexec : p.tables.exec = Jvm.exec) (hb : c.code = cc) (hts : ∀ w ∈ Ts, w.before args s = true) (hown : s.vm.findClass own = some m.cls) (hK : zK X s) {C : String} {T : u_T} {N ci index : Nat} (hC : zCl ci C T N) (hin : ∀ w ∈ u_ws C T N, w ∈ Ts) (ty0 : Nat → FieldType) (hty : ∀ k, k < N → parseFieldDescriptor (T k).2.2.1 = some (ty0 k)) (hnm : ∀ a, a < N → ∀ b, b < N → a ≠ b → (T a).2.1 ≠ (T b).2.1) (j : Nat) (hj : j < N) (hlink : (Cond.fieldLink own index C (T j).2.1 (T j).2.2.1) ∈ Ts) (hs : (T j).1 = C) (hfin : (T j).2.2.2 = false) (hpt : ∀ c0, zkd c0 = ci → zpt c0 j = none) (hd : parseFieldDescriptor (T j).2.2.1 = some .int) (hdg : decode cc pc = .ok (.putfield index, 3)) : zS p l e R s m args below meth c cells slots Q X nL A H0 res pc (a_put (pc + 3) ci j) := by
  intro k lsA stA M hk h H locs ls hI hS hL
  unfold a_put at h
  split at h
  · split at h
    · rename_i hkd
      exact zput (hZ := hZ) hexec hb hts hown hK hC hin ty0 hty hnm j hj hlink hs hfin hpt hd hdg hI hS hkd rfl rfl (fun H1 locs1 hI1 hS1 => hk _ _ _ _ h H1 locs1 ls hI1 hS1 hL)
    · cases h
  · cases h
theorem znz {x : Int32} (h : x = 0 ∨ x = 1) : narrow .boolean (.int x) = .int x ∧ fits .boolean (.int x) = true := by
  rcases h with rfl | rfl <;> exact ⟨by decide +kernel, by decide +kernel⟩
theorem s_putZ {hZ : ∀ q, zA X q → A q} (hexec : p.tables.exec = Jvm.exec) (hb : c.code = cc) (hts : ∀ w ∈ Ts, w.before args s = true) (hown : s.vm.findClass own = some m.cls) (hK : zK X s) {C : String} {T : u_T} {N ci index : Nat} (hC : zCl ci C T N) (hin : ∀ w ∈ u_ws C T N, w ∈ Ts) (ty0 : Nat → FieldType) (hty : ∀ k, k < N → parseFieldDescriptor (T k).2.2.1 = some (ty0 k)) (hnm : ∀ a, a < N → ∀ b, b < N → a ≠ b → (T a).2.1 ≠ (T b).2.1) (j : Nat) (hj : j < N) (hlink : (Cond.fieldLink own index C (T j).2.1 (T j).2.2.1) ∈ Ts) (hs : (T j).1 = C) (hfin : (T j).2.2.2 = false) (hpt : ∀ c0, zkd c0 = ci → zpt c0 j = none) (hd : parseFieldDescriptor (T j).2.2.1 = some .boolean) (hdg : decode cc pc = .ok (.putfield index, 3)) : zS p l e R s m args below meth c cells slots Q X nL A H0 res pc (a_putZ (pc + 3) ci j) := by
  intro k lsA stA M hk h H locs ls hI hS hL
  unfold a_putZ at h
  split at h
  · split at h
    · rename_i hkd
      split at h
      · rename_i hx
        exact zput (hZ := hZ) hexec hb hts hown hK hC hin ty0 hty hnm j hj hlink hs hfin hpt hd hdg hI hS hkd (znz hx).1 (znz hx).2 (fun H1 locs1 hI1 hS1 => hk _ _ _ _ h H1 locs1 ls hI1 hS1 hL)
      · cases h
    · cases h
  · cases h
theorem s_iald (hexec : p.tables.exec = Jvm.exec) (hb : c.code = cc) (hK : zK X s) (hdg : decode cc pc = .ok (.iaload, 1)) : zS p l e R s m args below meth c cells slots Q X nL A H0 res pc (a_ald (pc + 1) 10) := by
  intro k lsA stA M hk h H locs ls hI hS hL
  unfold a_ald at h
  split at h
  · rename_i i c0 st'
    split at h
    · rename_i hkd
      split at h
      · cases h
      · rename_i hin
        have he := zW_at X M (zkd_lt (c := c0) (by rw [hkd]; decide))
        rw [zE_int X hkd] at he
        exact va_iald hexec hb hK.1 hI.1 c0 0 he rfl hin hdg (hk _ _ _ _ h H locs ls hI hS hL)
    · cases h
  · cases h
theorem s_zald (hexec : p.tables.exec = Jvm.exec) (hb : c.code = cc) (hK : zK X s) (hdg : decode cc pc = .ok (.baload, 1)) : zS p l e R s m args below meth c cells slots Q X nL A H0 res pc (a_ald (pc + 1) 11) := by
  intro k lsA stA M hk h H locs ls hI hS hL
  unfold a_ald at h
  split at h
  · rename_i i c0 st'
    split at h
    · rename_i hkd
      split at h
      · cases h
      · rename_i hin
        have he := zW_at X M (zkd_lt (c := c0) (by rw [hkd]; decide))
        rw [zE_bool X hkd] at he
        exact va_zald hexec hb hK.1 hI.1 c0 1 he rfl hin hdg (hk _ _ _ _ h H locs ls hI hS hL)
    · cases h
  · cases h
theorem s_aald (hexec : p.tables.exec = Jvm.exec) (hb : c.code = cc) (hK : zK X s) (hdg : decode cc pc = .ok (.aaload, 1)) : zS p l e R s m args below meth c cells slots Q X nL A H0 res pc (a_aald (pc + 1)) := by
  intro k lsA stA M hk h H locs ls hI hS hL
  unfold a_aald at h
  split at h
  · rename_i i c0 st'
    split at h
    · rename_i hc
      subst hc
      split at h
      · cases h
      · rename_i hin
        have he := zW_at X M (c := 6) (by decide)
        rw [zE_ref X rfl] at he
        refine va_aldq hexec hb hK.1 hI.1 6 2 he rfl hin hdg ?_
        have h1 := hk _ _ _ _ h H locs ls hI hS hL
        rw [List.map_cons] at h1
        refine W.eq ?_ h1
        have e6 : zpt 6 i.toNatClampNeg = some (i.toNatClampNeg + 44) := by
          show (if i.toNatClampNeg < 12 then some (i.toNatClampNeg + 44) else none) = _
          rw [if_pos (by omega)]
        rw [e6]
        rfl
    · cases h
  · cases h
theorem zI_row {H1 : Heap} {M : MM} {c0 i : Nat} {x : Int32} {e0 e1 : va_E} (hlt : c0 < zN) (hI2 : va_D (zA X) (zW X M)) (he : (zW X M)[c0]? = some (X.2.1 c0, e0)) (hz : e1 = zE X c0 (upd (M c0) i x)) (hP1 : va_P X.1 vwCl ((zW X M).set c0 (X.2.1 c0, e1)) H1) : zI X (st2 M c0 i x) H1 := by
  have e2 : (zW X M).set c0 (X.2.1 c0, e1) = zW X (st2 M c0 i x) := by
    rw [hz]
    exact zW_set X M hlt _ _ (st2_row M c0 i x) (fun c' h' => st2_ne M c0 i x c' h')
  have h2 : va_D (zA X) ((zW X M).set c0 (X.2.1 c0, e1)) := hI2.set he
  rw [e2] at h2 hP1
  exact ⟨hP1, h2⟩
theorem s_iast {hZ : ∀ q, zA X q → A q} (hexec : p.tables.exec = Jvm.exec) (hb : c.code = cc) (hK : zK X s) (hdg : decode cc pc = .ok (.iastore, 1)) : zS p l e R s m args below meth c cells slots Q X nL A H0 res pc (a_ast (pc + 1)) := by
  intro k lsA stA M hk h H locs ls hI hS hL
  unfold a_ast at h
  split at h
  · rename_i x i c0 st'
    split at h
    · rename_i hkd
      split at h
      · cases h
      · rename_i hin
        have hlt : c0 < zN := zkd_lt (by rw [hkd]; decide)
        have he := zW_at X M hlt
        rw [zE_int X hkd] at he
        exact va_iast hexec hb hK.1 hI.1 (hI.2.weaken (fun _ q _ h => hZ q.1 h)) hS c0 0 he rfl hin hdg (fun H1 locs1 hP1 hD1 hS1 => hk _ _ _ _ h H1 locs1 ls (zI_row hlt hI.2 he (by rw [zE_int X hkd]) hP1) hS1 hL)
    · cases h
  · cases h
theorem s_zast {hZ : ∀ q, zA X q → A q} (hexec : p.tables.exec = Jvm.exec) (hb : c.code = cc) (hK : zK X s) (hdg : decode cc pc = .ok (.bastore, 1)) : zS p l e R s m args below meth c cells slots Q X nL A H0 res pc (a_zst (pc + 1)) := by
  intro k lsA stA M hk h H locs ls hI hS hL
  unfold a_zst at h
  split at h
  · rename_i x i c0 st'
    split at h
    · rename_i hkd
      split at h
      · cases h
      · rename_i hin
        split at h
        · rename_i hx
          have hlt : c0 < zN := zkd_lt (by rw [hkd]; decide)
          have he := zW_at X M hlt
          rw [zE_bool X hkd] at he
          have hnx : vp_nar .boolean x = x := by unfold vp_nar; rw [(znz hx).1]
          exact va_zast hexec hb hK.1 hI.1 (hI.2.weaken (fun _ q _ h => hZ q.1 h)) hS c0 1 he rfl hin hdg (fun H1 locs1 hP1 hD1 hS1 => hk _ _ _ _ h H1 locs1 ls (zI_row hlt hI.2 he (by rw [zE_bool X hkd, hnx]) hP1) hS1 hL)
        · cases h
    · cases h
  · cases h
theorem s_len (hexec : p.tables.exec = Jvm.exec) (hb : c.code = cc) (hK : zK X s) (hdg : decode cc pc = .ok (.arraylength, 1)) : zS p l e R s m args below meth c cells slots Q X nL A H0 res pc (a_len (pc + 1)) := by
  intro k lsA stA M hk h H locs ls hI hS hL
  unfold a_len at h
  split at h
  · rename_i c0 st'
    split at h
    · rename_i hkd
      have he := zW_at X M (zkd_lt (c := c0) (by omega))
      rcases (show zkd c0 = 10 ∨ zkd c0 = 11 ∨ zkd c0 = 12 by omega) with q | q | q
      · rw [zE_int X q] at he
        exact va_alen hexec hb hK.1 hI.1 c0 0 he (ty := .int) rfl rfl hdg (hk _ _ _ _ h H locs ls hI hS hL)
      · rw [zE_bool X q] at he
        exact va_alen hexec hb hK.1 hI.1 c0 1 he (ty := .boolean) rfl rfl hdg (hk _ _ _ _ h H locs ls hI hS hL)
      · rw [zE_ref X q] at he
        exact va_alen hexec hb hK.1 hI.1 c0 2 he (ty := .object "VoiceForm$Slot") rfl rfl hdg (hk _ _ _ _ h H locs ls hI hS hL)
    · cases h
  · cases h
theorem zcall {hZ : ∀ q, zA X q → A q} {v : Option AV} {M' : MM} {a : Array Value} {H : Heap} {locs : List Loc} {ls : Array Slot} {rest : List AV} {st0 : List Value} (hr : va_Run p l e R s m args below meth c H locs cells slots 0 0 (F0 m pc ls st0) (rest.map (zv X.2.1)) (zQ X v M' a) (zA X)) (hS : va_S A H0 H locs)
    (kk : ∀ (H1 : Heap) (locs1 : List Loc), zI X M' H1 → va_S A H0 H1 locs1 → W p l e R s m args below meth c H1 locs1 cells slots Q (F0 m (pc + 3) ls ((v.toList ++ rest).map (zv X.2.1)))) : W p l e R s m args below meth c H locs cells slots Q (F0 m pc ls st0) := by
  intro T hT XX
  obtain ⟨v1, st₀, t, T', L, h0, X', hL, e1, e2, ⟨hv, ⟨hI, hK⟩, hz, hk⟩, st⟩ := hr T hT XX
  have hv' : v1 = v.map (zv X.2.1) := Outcome.returned.inj hv
  subst hv'
  rw [h0] at hz hk
  obtain ⟨t2, a1, b1⟩ := kk T'.heap (locs ++ L) (by rw [e1]; exact hI)
    ⟨Nat.le_trans hS.1 (by rw [e1]; exact hz), fun q h1 h2 => by rw [e1, hk q (Nat.lt_of_lt_of_le h1 hS.1) (fun z => h2 (hZ q z))]; exact hS.2.1 q h1 h2, fun q hq => by
      rcases List.mem_append.mp hq with h | h
      · exact hS.2.2 q h
      · exact hZ _ (hL q h)⟩ T' rfl X'
  refine ⟨t2, st t2 ?_, b1⟩
  have e3 : (v.map (zv X.2.1)).toList ++ rest.map (zv X.2.1) = (v.toList ++ rest).map (zv X.2.1) := by
    cases v <;> simp
  show Steps p.tables e below (T'.setTop { F0 m pc ls st0 with pc := pc + 3, stack := (v.map (zv X.2.1)).toList ++ rest.map (zv X.2.1) }) t2
  rw [e3]
  exact a1
theorem zblind {M : MM} {as : List Value} : FrameBlind (va_Pc as (zP X M)) := fun a U g mk q => ⟨q.1, q.2.1, zK.same (u := U) (U := U.calling g mk a) rfl q.2.2⟩
theorem s_callV {hZ : ∀ q, zA X q → A q} (hexec : p.tables.exec = Jvm.exec) (hb : c.code = cc) (hts : ∀ w ∈ Ts, w.before args s = true) (hml : c.maxLocals = nL) (hown : s.vm.findClass own = some m.cls) (hK : zK X s) (hroom : cells ≤ R.cells ∧ slots ≤ R.slots) {C : String} {T : u_T} {N ci index n : Nat} (hC : zCl ci C T N) {y : MethodName} {ws ws' : List Cond} {rm : Room} {sem : List AV → MM → Option AR} (hM : zM l X y ws rm sem) {bytes : ByteArray} {maxL : Nat} {ret : Option FieldType} (hT : GoodIn Ts (wsV own index C y ws)) (hw : ws = Cond.code y bytes maxL ret :: ws') (hrc : rm.cells = 0) (hrs : rm.slots = 0)
    (hd : y.cls = C ∧ y.cls ≠ "java/lang/invoke/MethodHandle" ∧ y.cls ≠ "java/lang/invoke/VarHandle" ∧ (parseMethodDescriptor y.desc).map (fun d => d.parameters.length) = some n) (hR : rm.frames + 1 ≤ R.frames ∧ 8 + (maxL + 11) + rm.locals ≤ R.locals) (hdg : decode cc pc = .ok (.invokevirtual index, 3)) : zS p l e R s m args below meth c cells slots Q X nL A H0 res pc (a_callV (pc + 3) n ci sem) := by
  intro k lsA stA M hk h H locs ls hI hS hL
  unfold a_callV at h
  split at h
  · rename_i c0 st' hst
    split at h
    · rename_i hkd
      split at h
      · rename_i hlen
        have hlt : c0 < zN := zkd_lt (by rw [hkd]; have := hC.2.2; omega)
        have he := zW_at X M hlt
        rw [zE_obj X (by rw [hkd]; exact hC.2.2), hkd] at he
        obtain ⟨⟨v, M'⟩, h1, h2⟩ := Option.bind_eq_some_iff.mp h
        have hn : n < stA.length := by
          rcases Nat.lt_or_ge n stA.length with q | q
          · exact q
          · rw [List.drop_eq_nil_of_le q] at hst; cases hst
        have hsp : stA = stA.take n ++ .inr (some c0) :: st' := by rw [← hst, List.take_append_drop]
        have hl0 : (stA.take n).length = n := by rw [List.length_take]; omega
        have hstk : stA.map (zv X.2.1) = ((stA.take n).reverse.map (zv X.2.1)).reverse ++ Value.ref (X.2.1 c0) :: st'.map (zv X.2.1) := by
          rw [List.map_reverse, List.reverse_reverse]
          conv => lhs; rw [hsp]
          rw [List.map_append, List.map_cons]
          rfl
        refine zcall (hZ := hZ) (va_runV (As := (stA.take n).reverse.map (zv X.2.1)) (rest := st'.map (zv X.2.1)) ⟨hexec, hb, hml, hown, hts⟩ (hM _ M v M' h1) (cwV n hts hT hw hrc hrs hd hR) ⟨zblind, va_recv hK.1 hI.1 (ci := ci) (q0 := c0) hC.1 he, fun U hU hW => ⟨rfl, by rw [hU]; exact hI, zK.warm hW hK⟩⟩ rfl (by rw [List.length_map, List.length_reverse]; exact hl0) hL.1.1 hstk (lv_room (by rw [zv_cats]; exact hlen)) hdg hroom) hS (fun H1 locs1 hI1 hS1 => hk _ _ _ _ h2 H1 locs1 ls hI1 hS1 hL)
      · cases h
    · cases h
  · cases h
theorem s_callS {hZ : ∀ q, zA X q → A q} (hexec : p.tables.exec = Jvm.exec) (hb : c.code = cc) (hts : ∀ w ∈ Ts, w.before args s = true) (hml : c.maxLocals = nL) (hown : s.vm.findClass own = some m.cls) (hK : zK X s) (hroom : cells ≤ R.cells ∧ slots ≤ R.slots) {index n : Nat} {y : MethodName} {ws : List Cond} {rm : Room} {sem : List AV → MM → Option AR} (hM : zM l X y ws rm sem) {bytes : ByteArray} {maxL : Nat} {ret : Option FieldType} (cw : CallB R s args own index y bytes maxL ret ws rm 0 0 n ∧ (Cond.static y).before args s = true) (hdg : decode cc pc = .ok (.invokestatic index, 3)) : zS p l e R s m args below meth c cells slots Q X nL A H0 res pc (a_callS (pc + 3) n sem) := by
  intro k lsA stA M hk h H locs ls hI hS hL
  unfold a_callS at h
  split at h
  · rename_i hn
    split at h
    · rename_i hlen
      obtain ⟨⟨v, M'⟩, h1, h2⟩ := Option.bind_eq_some_iff.mp h
      have hl0 : (stA.take n).length = n := by rw [List.length_take]; omega
      have hstk : stA.map (zv X.2.1) = ((stA.take n).reverse.map (zv X.2.1)).reverse ++ (stA.drop n).map (zv X.2.1) := by
        rw [List.map_reverse, List.reverse_reverse, ← List.map_append, List.take_append_drop]
      refine zcall (hZ := hZ) (va_runS (As := (stA.take n).reverse.map (zv X.2.1)) (rest := (stA.drop n).map (zv X.2.1)) ⟨hexec, hb, hml, hown, hts⟩ (hM _ M v M' h1) cw ⟨zblind, fun U hU hW => ⟨rfl, by rw [hU]; exact hI, zK.warm hW hK⟩⟩ rfl (by rw [List.length_map, List.length_reverse]; exact hl0) hL.1.1 hstk (lv_room (by rw [zv_cats]; exact hlen)) hdg hroom) hS (fun H1 locs1 hI1 hS1 => hk _ _ _ _ h2 H1 locs1 ls hI1 hS1 hL)
    · cases h
  · cases h
theorem s_min (hexec : p.tables.exec = Jvm.exec) (hb : c.code = cc) (hts : ∀ w ∈ Ts, w.before args s = true) (hml : c.maxLocals = nL) (hown : s.vm.findClass own = some m.cls) (hroom : cells ≤ R.cells ∧ slots ≤ R.slots) {index : Nat} (hlink : Cond.methodLink own index Lib.Math.min.name ∈ Ts) (hstat : Cond.static Lib.Math.min.name ∈ Ts) (hini : Cond.initialized "java/lang/Math" ∈ Ts) (hcode : Cond.code Lib.Math.min.name Lib.Math.min.code 2 (some .int) ∈ Ts) (hR : 1 ≤ R.frames ∧ 21 ≤ R.locals) (hdg : decode cc pc = .ok (.invokestatic index, 3)) : zS p l e R s m args below meth c cells slots Q X nL A H0 res pc (a_min (pc + 3)) := by
  intro k lsA stA M hk h H locs ls hI hS hL
  unfold a_min at h
  split at h
  · split at h
    · rename_i hlen
      exact va_mmin hexec hb (hml.trans hL.1.1.symm) hown (hts _ hlink) (hts _ hstat) (hts _ hini) (hts _ hcode) hR.1 (by rw [zv_cats]; omega) hroom.1 hroom.2 hdg (hk _ _ _ _ h H locs ls hI hS hL)
    · cases h
  · cases h
theorem s_max (hexec : p.tables.exec = Jvm.exec) (hb : c.code = cc) (hts : ∀ w ∈ Ts, w.before args s = true) (hml : c.maxLocals = nL) (hown : s.vm.findClass own = some m.cls) (hroom : cells ≤ R.cells ∧ slots ≤ R.slots) {index : Nat} (hlink : Cond.methodLink own index Lib.Math.max.name ∈ Ts) (hstat : Cond.static Lib.Math.max.name ∈ Ts) (hini : Cond.initialized "java/lang/Math" ∈ Ts) (hcode : Cond.code Lib.Math.max.name Lib.Math.max.code 2 (some .int) ∈ Ts) (hR : 1 ≤ R.frames ∧ 21 ≤ R.locals) (hdg : decode cc pc = .ok (.invokestatic index, 3)) : zS p l e R s m args below meth c cells slots Q X nL A H0 res pc (a_max (pc + 3)) := by
  intro k lsA stA M hk h H locs ls hI hS hL
  unfold a_max at h
  split at h
  · split at h
    · rename_i hlen
      exact va_mmax hexec hb (hml.trans hL.1.1.symm) hown (hts _ hlink) (hts _ hstat) (hts _ hini) (hts _ hcode) hR.1 (by rw [zv_cats]; omega) hroom.1 hroom.2 hdg (hk _ _ _ _ h H locs ls hI hS hL)
    · cases h
  · cases h
end HP
