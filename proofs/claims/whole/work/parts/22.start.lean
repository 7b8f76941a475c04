/-! The start of the law: two new objects, and the cells as the machine of parts 03 .. has them (written by wip/whole/gen3.py). -/
theorem w56 : Cond.classLink RL 7 RX9 ∈ lw_g := inG 56 (by decide +kernel) rfl
theorem w57 : Cond.instantiable RX9 8 ∈ lw_g := inG 57 (by decide +kernel) rfl
theorem w58 : Cond.methodLink RL 9 yX9_init ∈ lw_g := inG 58 (by decide +kernel) rfl
theorem w59 : Cond.instanceMethod yX9_init ∈ lw_g := inG 59 (by decide +kernel) rfl
theorem w60 : Cond.code yX9_init cX9_init 1 none ∈ lw_g := inG 60 (by decide +kernel) rfl
theorem w697 : Cond.classLink RL 10 RX10 ∈ lw_g := inG 697 (by decide +kernel) rfl
theorem w698 : Cond.instantiable RX10 41 ∈ lw_g := inG 698 (by decide +kernel) rfl
theorem w699 : Cond.methodLink RL 12 yX10_init ∈ lw_g := inG 699 (by decide +kernel) rfl
theorem w700 : Cond.instanceMethod yX10_init ∈ lw_g := inG 700 (by decide +kernel) rfl
theorem w701 : Cond.code yX10_init cX10_init 1 none ∈ lw_g := inG 701 (by decide +kernel) rfl
theorem n71 : Cond.arrayOver (.object "VoiceForm$Slot") ∈ lw_tbl := List.mem_of_getElem? (i := 71) (by decide +kernel)
theorem n337 : Cond.methodLinkNest RX1 25 yX9_isName RX9 ∈ lw_tbl := List.mem_of_getElem? (i := 337) (by decide +kernel)
theorem n476 : Cond.methodLinkNest RX0 61 yX9_isWithin RX9 ∈ lw_tbl := List.mem_of_getElem? (i := 476) (by decide +kernel)
theorem n522 : Cond.interfaceMethod zxW.cls zxW.cls zxW.name zxW.desc ∈ lw_tbl := List.mem_of_getElem? (i := 522) (by decide +kernel)
theorem n523 : Cond.declares zxW ∈ lw_tbl := List.mem_of_getElem? (i := 523) (by decide +kernel)
theorem n524 : Cond.castable RX1 zxW.cls ∈ lw_tbl := List.mem_of_getElem? (i := 524) (by decide +kernel)
theorem n526 : Cond.unhidden RX1 zxW.name zxW.desc ∈ lw_tbl := List.mem_of_getElem? (i := 526) (by decide +kernel)
theorem n527 : Cond.publicMethod yX1_numberOf ∈ lw_tbl := List.mem_of_getElem? (i := 527) (by decide +kernel)
theorem n528 : Cond.castable RX5 zxW.cls ∈ lw_tbl := List.mem_of_getElem? (i := 528) (by decide +kernel)
theorem n530 : Cond.unhidden RX5 zxW.name zxW.desc ∈ lw_tbl := List.mem_of_getElem? (i := 530) (by decide +kernel)
theorem n532 : Cond.publicMethod yX5_numberOf ∈ lw_tbl := List.mem_of_getElem? (i := 532) (by decide +kernel)
theorem n668 : Cond.methodLinkNest RX1 75 yX9_oneIf RX9 ∈ lw_tbl := List.mem_of_getElem? (i := 668) (by decide +kernel)
theorem law_zK {s : State} {b : Addr} (hts : ∀ w ∈ lw_tbl, w.before #[Value.ref b] s = true) : ∃ (D : va_G) (cI cZ cS : ClassId), ∀ ad : Nat → Nat, zK (D, ad, cI, cZ, cS) s := by
  obtain ⟨cX0, iX0, hX0⟩ := u_known (C := RX0) (T := TX0) (N := 3) (n := 3) hts (fun w h => lw_g_in w (hinX0 w h)) (hts _ (lw_g_in _ w189))
  obtain ⟨cX1, iX1, hX1⟩ := u_known (C := RX1) (T := TX1) (N := 2) (n := 2) hts (fun w h => lw_g_in w (hinX1 w h)) (hts _ (lw_g_in _ w65))
  obtain ⟨cX2, iX2, hX2⟩ := u_known (C := RX2) (T := TX2) (N := 4) (n := 4) hts (fun w h => lw_g_in w (hinX2 w h)) (hts _ (lw_g_in _ w149))
  obtain ⟨cX3, iX3, hX3⟩ := u_known (C := RX3) (T := TX3) (N := 2) (n := 2) hts (fun w h => lw_g_in w (hinX3 w h)) (hts _ (lw_g_in _ w246))
  obtain ⟨cX4, iX4, hX4⟩ := u_known (C := RX4) (T := TX4) (N := 7) (n := 7) hts (fun w h => lw_g_in w (hinX4 w h)) (hts _ (lw_g_in _ w170))
  obtain ⟨cX5, iX5, hX5⟩ := u_known (C := RX5) (T := TX5) (N := 13) (n := 13) hts (fun w h => lw_g_in w (hinX5 w h)) (hts _ (lw_g_in _ w72))
  obtain ⟨cX6, iX6, hX6⟩ := u_known (C := RX6) (T := TX6) (N := 13) (n := 13) hts (fun w h => lw_g_in w (hinX6 w h)) (hts _ (lw_g_in _ w240))
  obtain ⟨cX7, iX7, hX7⟩ := u_known (C := RX7) (T := TX7) (N := 2) (n := 2) hts (fun w h => lw_g_in w (hinX7 w h)) (hts _ (lw_g_in _ w176))
  obtain ⟨cX9, iX9, hX9⟩ := u_known (C := RX9) (T := TX9) (N := 8) (n := 8) hts (fun w h => lw_g_in w (hinX9 w h)) (hts _ (lw_g_in _ w57))
  obtain ⟨cX10, iX10, hX10⟩ := u_known (C := RX10) (T := TX10) (N := 41) (n := 41) hts (fun w h => lw_g_in w (hinX10 w h)) (hts _ (lw_g_in _ w698))
  obtain ⟨cI, kI, oI, i1, i2, i3⟩ := Cond.arrayClass_spec (hts _ (lw_g_in _ w139))
  obtain ⟨cZ, kZ, oZ, z1, z2, z3⟩ := Cond.arrayClass_spec (hts _ (lw_g_in _ w827))
  obtain ⟨oS, cS, kS, s1, s2, s3, s4, s5⟩ := Cond.arrayOver_spec (hts _ n71)
  refine ⟨((fun k => match k with | 0 => cX0 | 1 => cX1 | 2 => cX2 | 3 => cX3 | 4 => cX4 | 5 => cX5 | 6 => cX6 | 7 => cX7 | 8 => cX9 | _ => cX10), (fun k => match k with | 0 => iX0 | 1 => iX1 | 2 => iX2 | 3 => iX3 | 4 => iX4 | 5 => iX5 | 6 => iX6 | 7 => iX7 | 8 => iX9 | _ => iX10)), cI, cZ, cS, fun ad => ⟨⟨?_, ?_⟩, ⟨va_Fw.of (hts _ n523) (hts _ n522) (hts _ n527) (hts _ n526) (hts _ n524), va_Fw.of (hts _ n523) (hts _ n522) (hts _ n532) (hts _ n530) (hts _ n528)⟩, va_Nw.of rfl (hts _ n476), va_Nw.of rfl (hts _ n337), va_Nw.of rfl (hts _ n668), va_AO.of (hts _ n71)⟩⟩
  · intro k q hq
    match k, hq with
    | 0, hq => cases hq; exact hX0
    | 1, hq => cases hq; exact hX1
    | 2, hq => cases hq; exact hX2
    | 3, hq => cases hq; exact hX3
    | 4, hq => cases hq; exact hX4
    | 5, hq => cases hq; exact hX5
    | 6, hq => cases hq; exact hX6
    | 7, hq => cases hq; exact hX7
    | 8, hq => cases hq; exact hX9
    | 9, hq => cases hq; exact hX10
    | k + 10, hq => simp [vwCl] at hq
  · intro k q hq
    match k, hq with
    | 0, hq => cases hq; exact ⟨fun n z => ⟨fun k h => (by cases h), kI, i2, oI, i3⟩, i1⟩
    | 1, hq => cases hq; exact ⟨fun n z => ⟨fun k h => (by cases h), kZ, z2, oZ, z3⟩, z1⟩
    | 2, hq => cases hq; exact ⟨fun N z => ⟨fun k h => (by cases h), kS, s3, oS, s4⟩, kS, oS, s3, s4, s1, s5⟩
    | k + 3, hq => simp [zT] at hq
def zperm (c : Nat) : Nat := [0, 1, 27, 31, 39, 42, 2, 28, 29, 30, 32, 33, 34, 35, 40, 36, 37, 38, 41, 43, 44, 45, 46, 47, 48, 49, 50, 51, 52, 53, 54, 55, 56, 57, 58, 59, 60, 61, 62, 63, 64, 65, 66, 67, 3, 5, 7, 9, 11, 13, 15, 17, 19, 21, 23, 25, 4, 6, 8, 10, 12, 14, 16, 18, 20, 22, 24, 26].getD c 0
theorem opt_getD {α : Type} {o : Option α} (d : α) (h : o.isSome = true) : o = some (o.getD d) := by
  cases o with
  | none => cases h
  | some a => rfl
/-- the cells behind 'new VoiceForm()', and behind 'new VoiceFormModel()' too -/
def hpX : DH := (vX9_init 1000 [.inr (some 0)] [(8, dvX9)]).getD []
set_option maxRecDepth 100000 in
theorem hpX_ok : vX9_init 1000 [.inr (some ([] : DH).length)] ([] ++ [(8, dvX9)]) = some hpX := opt_getD [] (by decide +kernel)
set_option maxRecDepth 100000 in
theorem hpX_len : hpX.length = 43 := by decide +kernel
def hpF : DH := (vX10_init 1000 [.inr (some 43)] (hpX ++ [(9, dvX10)])).getD []
set_option maxRecDepth 100000 in
theorem hpF_ok : vX10_init 1000 [.inr (some hpX.length)] (hpX ++ [(9, dvX10)]) = some hpF := by
  rw [hpX_len]
  exact opt_getD [] (by decide +kernel)
set_option maxRecDepth 100000 in
theorem hpX_wf : wfh hpX = true := by decide +kernel
set_option maxRecDepth 100000 in
theorem hpF_len : hpF.length = 68 := by decide +kernel
/-- the memory at the law's loop -/
def M0 : MM := fun c j => dI ((hpF.getD (zperm c) (99, [])).2.getD j (.inl 0))
def okc (c : Nat) : Bool := (hpF.getD (zperm c) (99, [])).1 == zkd c && decide (zperm c < 68) && (if zkd c < 10 then (hpF.getD (zperm c) (99, [])).2.length == znf (zkd c) && (List.range (znf (zkd c))).all (fun j => match zpt c j with
    | some c' => decide (c' < 68) && decide ((hpF.getD (zperm c) (99, [])).2.getD j (.inl 0) = .inr (some (zperm c')))
    | none => (match (hpF.getD (zperm c) (99, [])).2.getD j (.inr none) with
      | .inl _ => true
      | _ => false))
  else if zkd c = 12 then decide (c = 6) && (hpF.getD (zperm c) (99, [])).2.length == 12 && (List.range 12).all (fun j => decide ((hpF.getD (zperm c) (99, [])).2.getD j (.inl 0) = .inr (some (zperm (j + 44)))))
  else (hpF.getD (zperm c) (99, [])).2.length == zln c && decide (zkd c < 12))
set_option maxRecDepth 100000 in
theorem okc_all : (List.range 68).all okc = true := by decide +kernel
set_option maxRecDepth 100000 in
theorem zperm_inj : ∀ i, i < 68 → ∀ j, j < 68 → zperm i = zperm j → i = j := by decide +kernel
def adF (ad : Nat → Nat) (b : Nat) : Nat → Nat := fun c => if c < 68 then ad (zperm c) else b
theorem adF_lt {ad : Nat → Nat} {b c : Nat} (h : c < 68) : adF ad b c = ad (zperm c) := by unfold adF; rw [if_pos h]
theorem fin_cell (D : va_G) (cI cZ cS : ClassId) (ad ad0 : Nat → Nat) (b : Nat) {c : Nat} (h : c < 68) : zE (D, adF ad b, cI, cZ, cS) c (M0 c) = dE (D, ad0, cI, cZ, cS) ad (hpF.getD (zperm c) (99, [])) := by
  have ho := List.all_eq_true.mp okc_all c (List.mem_range.mpr h)
  have hM : M0 c = fun j => dI ((hpF.getD (zperm c) (99, [])).2.getD j (.inl 0)) := rfl
  rw [hM]
  unfold okc at ho
  generalize hpF.getD (zperm c) (99, []) = q at ho ⊢
  obtain ⟨kd, vs⟩ := q
  rw [Bool.and_eq_true, Bool.and_eq_true] at ho
  obtain ⟨⟨h1, h2⟩, h3⟩ := ho
  have h1 : kd = zkd c := eq_of_beq h1
  subst h1
  split at h3
  · rename_i hk
    rw [Bool.and_eq_true] at h3
    obtain ⟨h4, h5⟩ := h3
    have h4 : vs.length = znf (zkd c) := eq_of_beq h4
    rw [zE_obj _ hk, dE_obj _ ad rfl hk]
    congr 2
    apply List.ext_getElem?
    intro j
    by_cases hj : j < znf (zkd c)
    · rw [zfs_at hj, List.getElem?_map]
      have h6 := List.all_eq_true.mp h5 j (List.mem_range.mpr hj)
      have hv : vs[j]? = some vs[j] := List.getElem?_eq_getElem (by omega)
      split at h6
      · rename_i c' hc'
        rw [Bool.and_eq_true] at h6
        have h7 := of_decide_eq_true h6.1
        have h8 := of_decide_eq_true h6.2
        rw [List.getD_eq_getElem?_getD, hv] at h8
        have h8 : vs[j] = .inr (some (zperm c')) := h8
        rw [hv, h8, hc']
        show some (Value.ref (adF ad b c')) = some (Value.ref (ad (zperm c')))
        rw [adF_lt h7]
      · rename_i hc'
        rw [hc', hv]
        rw [List.getD_eq_getElem?_getD, hv] at h6
        show some (Value.int (dI (vs.getD j (.inl 0)))) = some (zv ad vs[j])
        rw [List.getD_eq_getElem?_getD, hv]
        have h6 : (match vs[j] with
          | .inl _ => true
          | _ => false) = true := h6
        show some (Value.int (dI vs[j])) = some (zv ad vs[j])
        generalize vs[j] = w at h6
        rcases w with x | r
        · rfl
        · cases h6
    · rw [List.getElem?_eq_none (by rw [zfs_len]; omega), List.getElem?_eq_none (by rw [List.length_map]; show vs.length ≤ j; omega)]
  · rename_i hk
    split at h3
    · rename_i h12
      rw [Bool.and_eq_true, Bool.and_eq_true] at h3
      obtain ⟨⟨h4, h5⟩, h6⟩ := h3
      have h4 : c = 6 := of_decide_eq_true h4
      subst h4
      have h5 : vs.length = 12 := eq_of_beq h5
      rw [zE_ref _ h12, dE_ref _ ad h12]
      have e6 : ∀ i, zpt 6 i = if i < 12 then some (i + 44) else none := fun _ => rfl
      have ef : (fun i => (zpt 6 i).map (adF ad b)) = (fun i => (dRf (vs.getD i (.inr none))).map ad) := by
        funext i
        rw [e6]
        by_cases hi : i < 12
        · rw [if_pos hi]
          have h7 := of_decide_eq_true (List.all_eq_true.mp h6 i (List.mem_range.mpr hi))
          have hv : vs[i]? = some vs[i] := List.getElem?_eq_getElem (by omega)
          have h7 : vs.getD i (.inl 0) = .inr (some (zperm (i + 44))) := h7
          rw [List.getD_eq_getElem?_getD, hv] at h7
          have h7 : vs[i] = .inr (some (zperm (i + 44))) := h7
          rw [List.getD_eq_getElem?_getD, hv]
          show some (adF ad b (i + 44)) = (dRf vs[i]).map ad
          rw [h7, adF_lt (by omega)]
          rfl
        · rw [if_neg hi, List.getD_eq_getElem?_getD, List.getElem?_eq_none (by omega)]
          rfl
      show Sum.inl (cS, 12, Sum.inr (Sum.inr (Sum.inr (Sum.inr (fun i => (zpt 6 i).map (adF ad b)))))) = Sum.inl (cS, vs.length, Sum.inr (Sum.inr (Sum.inr (Sum.inr (fun i => (dRf (vs.getD i (.inr none))).map ad)))))
      rw [ef, h5]
    · rename_i h12
      rw [Bool.and_eq_true] at h3
      have h4 : vs.length = zln c := eq_of_beq h3.1
      have h5 := of_decide_eq_true h3.2
      rcases (show zkd c = 10 ∨ zkd c = 11 by omega) with e | e
      · rw [zE_int _ e, dE_int _ ad e]
        show Sum.inl (cI, zln c, _) = Sum.inl (cI, vs.length, _)
        rw [h4]
      · rw [zE_bool _ e]
        unfold dE
        rw [if_neg (by show ¬ zkd c = 10; omega), if_pos e]
        show Sum.inl (cZ, zln c, _) = Sum.inl (cZ, vs.length, _)
        rw [h4]
theorem fin_world {D : va_G} {cI cZ cS : ClassId} {ad ad0 : Nat → Nat} {b : Nat} {A : Nat → Prop} {H : Heap} (hP : va_P D vwCl (dW (D, ad0, cI, cZ, cS) ad hpF) H) (hD : va_D A (dW (D, ad0, cI, cZ, cS) ad hpF)) : zI (D, adF ad b, cI, cZ, cS) M0 H ∧ ∀ q, zA (D, adF ad b, cI, cZ, cS) q → A q := by
  have hz : ∀ c, c < 68 → zperm c < 68 := fun c h => by
    have ho := List.all_eq_true.mp okc_all c (List.mem_range.mpr h)
    unfold okc at ho
    rw [Bool.and_eq_true, Bool.and_eq_true] at ho
    exact of_decide_eq_true ho.1.2
  have hat : ∀ c, c < 68 → (dW (D, ad0, cI, cZ, cS) ad hpF)[zperm c]? = some (adF ad b c, zE (D, adF ad b, cI, cZ, cS) c (M0 c)) := fun c h => by
    have h1 : zperm c < hpF.length := by rw [hpF_len]; exact hz c h
    have h2 : hpF[zperm c]? = some (hpF.getD (zperm c) (99, [])) := by rw [List.getD_eq_getElem?_getD, List.getElem?_eq_getElem h1]; rfl
    rw [dW_at _ ad h2, fin_cell D cI cZ cS ad ad0 b h, adF_lt h]
  have hw : ∀ (k : Nat) (q : Nat × va_E), (zW (D, adF ad b, cI, cZ, cS) M0)[k]? = some q → k < 68 ∧ q = (adF ad b k, zE (D, adF ad b, cI, cZ, cS) k (M0 k)) := fun k q hq => by
    have hk : k < 68 := by
      have := (List.getElem?_eq_some_iff.mp hq).1
      rw [zW_len] at this
      exact this
    rw [zW_at _ _ hk] at hq
    exact ⟨hk, (Option.some.inj hq).symm⟩
  refine ⟨⟨fun k q hq => ?_, fun i j x y hx hy hxy => ?_, fun k q hq => ?_⟩, fun q hq => ?_⟩
  · obtain ⟨hk, rfl⟩ := hw k q hq
    exact hP _ _ (hat k hk)
  · obtain ⟨hi, rfl⟩ := hw i x hx
    obtain ⟨hj, rfl⟩ := hw j y hy
    exact zperm_inj i hi j hj (hD.1 _ _ _ _ (hat i hi) (hat j hj) hxy)
  · obtain ⟨hk, rfl⟩ := hw k q hq
    exact ⟨k, hk, rfl⟩
  · obtain ⟨c, hc, rfl⟩ := hq
    exact hD.2 _ _ (hat c hc)
set_option maxHeartbeats 1000000 in
theorem law_make {p : Program} {l : Launch} {e : Env} {s : State} {m : MethodId} {below : List Frame} {meth : Method} {c : Code} {b : Nat} {X : XC} {Q : State → Prop} {cells slots pc : Nat} {H : Heap} {locs : List Loc} {ls : Array Slot} {ad : Nat → Nat} {hp hp' : DH} (hx : p.tables.exec = Jvm.exec) (hb : c.code = code) (htg : ∀ w ∈ lw_g, w.before #[Value.ref b] s = true) (hml : c.maxLocals = 4) (hown : s.vm.findClass RL = some m.cls) (hK : zK X s) {C : String} {T : u_T} {N ci idx1 idx2 : Nat} (hC : zCl ci C T N) (hin : ∀ w ∈ u_ws C T N, w ∈ lw_g) (ty : Nat → FieldType) (hty : ∀ k, k < N → parseFieldDescriptor (T k).2.2.1 = some (ty k)) (hcl : Cond.classLink RL idx1 C ∈ lw_g) (hinst : Cond.instantiable C N ∈ lw_g) (hini : Cond.initialized C ∈ lw_g) (dv : List AV) (hw : ∀ n, wfs n dv = true) (hlen : dv.length = N) (hfs : ∀ (ad : Nat → Nat) j, j < N → defaultValue (ty j) = vp_V (dv.map (zv ad)) j)
    {y : MethodName} {ws ws' : List Cond} {rm : Room} {mc ms maxL : Nat} {sem : List AV → DH → Option DH} {bytes : ByteArray} (hM : yM l X y ws rm mc ms sem) (hG : GoodIn lw_g ws) (hws : ws = Cond.code y bytes maxL none :: ws') (hrc : rm.cells = mc) (hrs : rm.slots = ms) (hini2 : Cond.initialized y.cls ∈ lw_g) (hml2 : Cond.methodLink RL idx2 y ∈ lw_g) (hinst2 : Cond.instanceMethod y ∈ lw_g) (hyn : y.name = "<init>") (hyd : y.cls ≠ "java/lang/invoke/MethodHandle" ∧ y.cls ≠ "java/lang/invoke/VarHandle" ∧ (parseMethodDescriptor y.desc).map (fun d => d.parameters.length) = some 0) (hR : rm.frames + 1 ≤ room_1.frames ∧ 8 + (maxL + 11) + rm.locals ≤ room_1.locals) (hsem : sem [.inr (some hp.length)] (hp ++ [(ci, dv)]) = some hp') (hwf : wfh hp = true) (hr1 : cells + 1 + mc ≤ 600000) (hr2 : slots + N + ms ≤ 7302250) (d1 : decode code pc = .ok (.new idx1, 3)) (d2 : decode code (pc + 3) = .ok (.dup, 1)) (d3 : decode code (pc + 4) = .ok (.invokespecial idx2, 3))
    (hP : va_P X.1 vwCl (dW X ad hp) H) (hD : va_D (fun q : Nat => s.heap.size ≤ q) (dW X ad hp)) (hS : va_S (fun q : Nat => s.heap.size ≤ q) s.heap H locs) (hls : ls.size = 4)
    (kk : ∀ (ad' : Nat → Nat) (H1 : Heap) (locs1 : List Loc), (∀ i, i < hp.length → ad' i = ad i) → va_P X.1 vwCl (dW X ad' hp') H1 → va_D (fun q : Nat => s.heap.size ≤ q) (dW X ad' hp') → va_S (fun q : Nat => s.heap.size ≤ q) s.heap H1 locs1 → W p l e room_1 s m #[Value.ref b] below meth c H1 locs1 (cells + 1 + mc) (slots + N + ms) Q (F0 m (pc + 7) ls [.ref (ad' hp.length)])) : W p l e room_1 s m #[Value.ref b] below meth c H locs cells slots Q (F0 m pc ls []) := by
  have hA : ∀ q : Nat, s.heap.size ≤ q → (fun q : Nat => s.heap.size ≤ q) q := fun _ h => h
  refine va_new (D := X.1) (ci := ci) (fs := dv.map (zv ad)) (C := C) (T := T) (N := N) hx hb htg hin ty hty hown (htg _ hcl) (htg _ hinst) (htg _ hini) hK.1 hP hD hS hA hC.1 (hfs ad) (by show cells + 1 ≤ 600000; omega) (by show slots + N ≤ 7302250; omega) d1 (fun q H1 hP1 hD1 hS1 => ?_)
  have e1 := dW_push X ad (ci, dv) q hwf (hw _)
  rw [dE_obj X ad (q := (ci, dv)) rfl hC.2.2] at e1
  rw [e1] at hP1 hD1
  have ha := up_old ad hp.length q
  have hq : va_up ad hp.length q hp.length = q := by unfold va_up; rw [if_pos rfl]
  refine lv_dup hx hb d2 rfl ?_
  obtain ⟨m1, m2, m3⟩ := hM _ _ hp' (va_up ad hp.length q) H1.size hsem
  have hl1 : (hp ++ [(ci, dv)]).length = hp.length + 1 := by rw [List.length_append]; rfl
  have hcw := cwI (R := room_1) 0 htg hG hws hrc hrs (htg _ hini2) (htg _ hml2) (htg _ hinst2) hyn hyd hR
  refine ycall hA (va_runI (As := []) (rest := [.ref q]) ⟨hx, hb, hml, hown, htg⟩ m3 hcw ⟨yblind, fun U hU hW => ⟨by rw [List.map_cons, up_new]; rfl, by rw [hU], by rw [hU]; exact hP1, hD1.weaken (fun _ _ _ _ => trivial), zK.warm hW hK⟩⟩ rfl rfl hls ?_ (lv_room (Nat.le_of_ble_eq_true rfl)) d3 ⟨by show cells + 1 + mc ≤ 600000; omega, by show slots + N + ms ≤ 7302250; omega⟩) hD1 hS1 (fun ad' H2 locs2 ha' hP2 hD2 hS2 => ?_)
  · rfl
  · have h5 := kk ad' H2 locs2 (fun i hi => by rw [ha' i (by omega), ha i hi]) hP2 hD2 hS2
    rw [ha' hp.length (by omega), hq] at h5
    exact h5
