/-! Switches, the call of the list of words, returns, and a method's contract out of its table. -/
def a_callF (nx n : Nat) (sem1 sem5 : List AV → MM → Option AR) : AI := fun k ls st M => match st.drop n with
  | .inr (some c) :: st' => if st'.length ≤ 8 then (if zkd c = 1 then (sem1 (.inr (some c) :: (st.take n).reverse) M).bind (fun r => k nx ls (r.1.toList ++ st') r.2) else if zkd c = 5 then (sem5 (.inr (some c) :: (st.take n).reverse) M).bind (fun r => k nx ls (r.1.toList ++ st') r.2) else none) else none
  | _ => none
section RT
variable {p : Program} {l : Launch} {e : Env} {R : Room} {s : State} {m : MethodId} {args : Array Value} {below : List Frame} {meth : Method} {c : Code} {cells slots : Nat} {Q : State → Prop}
variable {X : XC} {nL : Nat} {A : Nat → Prop} {H0 : Heap} {cc : ByteArray} {pc : Nat} {res : AR} {Ts : List Cond} {own : String}
theorem s_switch (hexec : p.tables.exec = Jvm.exec) (hb : c.code = cc) {dflt lo hi : Int} {offs : Array Int} {len : Nat} (cs : List (Int32 × Nat)) (d : Nat) (hdg : decode cc pc = .ok (.tableswitch dflt lo hi offs, len)) (hcs : ∀ q ∈ cs, ¬ q.1.toInt < lo ∧ ¬ hi < q.1.toInt ∧ ∃ off, offs[(q.1.toInt - lo).toNat]? = some off ∧ (pc : Int) + off = (q.2 : Int)) (hall : ∀ x : Int32, (∀ q ∈ cs, x ≠ q.1) → x.toInt < lo ∨ hi < x.toInt) (hd : (pc : Int) + dflt = (d : Int)) : zS p l e R s m args below meth c cells slots Q X nL A H0 res pc (a_switch cs d) := by
  intro k lsA stA M hk h H locs ls hI hS hL
  unfold a_switch at h
  split at h
  · rename_i x st'
    have key : ∀ L : List (Int32 × Nat), L.foldr (fun q r => if x = q.1 then k q.2 lsA st' M else r) (k d lsA st' M) = some res → (∃ q ∈ L, x = q.1 ∧ k q.2 lsA st' M = some res) ∨ ((∀ q ∈ L, x ≠ q.1) ∧ k d lsA st' M = some res) := by
      intro L
      induction L with
      | nil => intro h; exact Or.inr ⟨fun q hq => absurd hq List.not_mem_nil, h⟩
      | cons q L ih =>
        intro h
        rw [List.foldr_cons] at h
        by_cases hx : x = q.1
        · rw [if_pos hx] at h
          exact Or.inl ⟨q, List.mem_cons_self, hx, h⟩
        · rw [if_neg hx] at h
          rcases ih h with ⟨q', h1, h2, h3⟩ | ⟨h1, h2⟩
          · exact Or.inl ⟨q', List.mem_cons_of_mem _ h1, h2, h3⟩
          · exact Or.inr ⟨fun q' hq' => (List.mem_cons.mp hq').elim (fun e => by rw [e]; exact hx) (fun hq' => h1 q' hq'), h2⟩
    rcases key cs h with ⟨q, h1, h2, h3⟩ | ⟨h1, h2⟩
    · obtain ⟨a1, a2, off, a3, a4⟩ := hcs q h1
      rw [← h2] at a1 a2 a3
      exact lv_tableIn hexec hb hdg a1 a2 a3 a4 (hk _ _ _ _ h3 H locs ls hI hS hL)
    · exact lv_tableOut hexec hb hdg (hall x h1) hd (hk _ _ _ _ h2 H locs ls hI hS hL)
  · cases h
theorem zcall5 {hZ : ∀ q, zA X q → A q} {v : Option AV} {M' : MM} {a : Array Value} {H : Heap} {locs : List Loc} {ls : Array Slot} {rest : List AV} {st0 : List Value} (hr : va_Run5 p l e R s m args below meth c H locs cells slots 0 0 (F0 m pc ls st0) (rest.map (zv X.2.1)) (zQ X v M' a) (zA X)) (hS : va_S A H0 H locs)
    (kk : ∀ (H1 : Heap) (locs1 : List Loc), zI X M' H1 → va_S A H0 H1 locs1 → W p l e R s m args below meth c H1 locs1 cells slots Q (F0 m (pc + 5) ls ((v.toList ++ rest).map (zv X.2.1)))) : W p l e R s m args below meth c H locs cells slots Q (F0 m pc ls st0) := by
  intro T hT XX
  obtain ⟨v1, st₀, t, T', L, h0, X', hL, e1, e2, ⟨hv, ⟨hI, hK⟩, hz, hk⟩, st⟩ := hr T hT XX
  have hv' : v1 = v.map (zv X.2.1) := Outcome.returned.inj hv
  subst hv'
  rw [h0] at hz hk
  obtain ⟨t2, a1, b1⟩ := kk T'.heap (locs ++ L) (by rw [e1]; exact hI)
    ⟨Nat.le_trans hS.1 (by rw [e1]; exact hz), fun q h1 h2 => by rw [e1, hk q (Nat.lt_of_lt_of_le h1 hS.1) (fun z => h2 (hZ q z))]; exact hS.2.1 q h1 h2, fun q hq => by
      rcases List.mem_append.mp hq with h | h
      · exact hS.2.2 q h
      · exact hZ _ (hL q h)⟩ T' rfl X'
  refine ⟨t2, st t2 ?_, b1⟩
  have e3 : (v.map (zv X.2.1)).toList ++ rest.map (zv X.2.1) = (v.toList ++ rest).map (zv X.2.1) := by
    cases v <;> simp
  show Steps p.tables e below (T'.setTop { F0 m pc ls st0 with pc := pc + 5, stack := (v.map (zv X.2.1)).toList ++ rest.map (zv X.2.1) }) t2
  rw [e3]
  exact a1
theorem zcallF {hZ : ∀ q, zA X q → A q} (hexec : p.tables.exec = Jvm.exec) (hb : c.code = cc) (hts : ∀ w ∈ Ts, w.before args s = true) (hml : c.maxLocals = nL) (hown : s.vm.findClass own = some m.cls) (hK : zK X s) (hroom : cells ≤ R.cells ∧ slots ≤ R.slots) {C : String} {T : u_T} {N ci index count n : Nat} (hC : zCl ci C T N) {y : MethodName} {ws ws' : List Cond} {rm : Room} {sem : List AV → MM → Option AR} (hM : zM l X y ws rm sem) {bytes : ByteArray} {maxL : Nat} {ret : Option FieldType} (hT : GoodIn Ts (va_wsF own index C zxW y ws)) (hw : ws = Cond.code y bytes maxL ret :: ws') (hrc : rm.cells = 0) (hrs : rm.slots = 0) (hF : va_Fw C zxW y s)
    (hd : (parseMethodDescriptor zxW.desc).map (fun d => d.parameters.length) = some n) (hR : rm.frames + 1 ≤ R.frames ∧ 8 + (maxL + 11) + rm.locals ≤ R.locals) (hdg : decode cc pc = .ok (.invokeinterface index count, 5)) {H : Heap} {locs : List Loc} {ls : Array Slot} {M : MM} {c0 : Nat} {lsA : List (Option AV)} {stA st' : List AV} {k : KT} (hst : stA.drop n = .inr (some c0) :: st') (hlen : st'.length ≤ 8) (hkd : zkd c0 = ci) (hI : zI X M H) (hS : va_S A H0 H locs) (hL : zH X.2.1 nL lsA ls)
    (hk : ∀ pc' lsA' stA' M', k pc' lsA' stA' M' = some res → zG p l e R s m args below meth c cells slots Q X nL A H0 pc' lsA' stA' M') (h : (sem (.inr (some c0) :: (stA.take n).reverse) M).bind (fun r => k (pc + 5) lsA (r.1.toList ++ st') r.2) = some res) : W p l e R s m args below meth c H locs cells slots Q (F0 m pc ls (stA.map (zv X.2.1))) := by
  have hlt : c0 < zN := zkd_lt (by rw [hkd]; have := hC.2.2; omega)
  have he := zW_at X M hlt
  rw [zE_obj X (by rw [hkd]; exact hC.2.2), hkd] at he
  obtain ⟨⟨v, M'⟩, h1, h2⟩ := Option.bind_eq_some_iff.mp h
  have hn : n < stA.length := by
    rcases Nat.lt_or_ge n stA.length with q | q
    · exact q
    · rw [List.drop_eq_nil_of_le q] at hst; cases hst
  have hsp : stA = stA.take n ++ .inr (some c0) :: st' := by rw [← hst, List.take_append_drop]
  have hl0 : (stA.take n).length = n := by rw [List.length_take]; omega
  have hstk : stA.map (zv X.2.1) = ((stA.take n).reverse.map (zv X.2.1)).reverse ++ Value.ref (X.2.1 c0) :: st'.map (zv X.2.1) := by
    rw [List.map_reverse, List.reverse_reverse]
    conv => lhs; rw [hsp]
    rw [List.map_append, List.map_cons]
    rfl
  have hat : ClassAt s C (X.1.1 ci) := (hK.1.1 ci _ hC.1).2
  exact zcall5 (hZ := hZ) (va_runF (As := (stA.take n).reverse.map (zv X.2.1)) (rest := st'.map (zv X.2.1)) hat ⟨hexec, hb, hml, hown, hts⟩ (hM _ M v M' h1) (va_cwF n hts hT hw hrc hrs hF ⟨by decide, by decide, hd⟩ hR) ⟨zblind, va_recv hK.1 hI.1 (ci := ci) (q0 := c0) hC.1 he, fun U hU hW => ⟨rfl, by rw [hU]; exact hI, zK.warm hW hK⟩⟩ rfl (by rw [List.length_map, List.length_reverse]; exact hl0) hL.1.1 hstk (lv_room (by rw [zv_cats]; exact hlen)) hdg hroom) hS (fun H1 locs1 hI1 hS1 => hk _ _ _ _ h2 H1 locs1 ls hI1 hS1 hL)
theorem s_callF {hZ : ∀ q, zA X q → A q} (hexec : p.tables.exec = Jvm.exec) (hb : c.code = cc) (hts : ∀ w ∈ Ts, w.before args s = true) (hml : c.maxLocals = nL) (hown : s.vm.findClass own = some m.cls) (hK : zK X s) (hroom : cells ≤ R.cells ∧ slots ≤ R.slots) {index count n : Nat} {ws1 ws1' ws5 ws5' : List Cond} {rm1 rm5 : Room} {sem1 sem5 : List AV → MM → Option AR} (hM1 : zM l X yX1_numberOf ws1 rm1 sem1) (hM5 : zM l X yX5_numberOf ws5 rm5 sem5) {bytes1 bytes5 : ByteArray} {maxL1 maxL5 : Nat} {ret1 ret5 : Option FieldType} (hT1 : GoodIn Ts (va_wsF own index RX1 zxW yX1_numberOf ws1)) (hT5 : GoodIn Ts (va_wsF own index RX5 zxW yX5_numberOf ws5)) (hw1 : ws1 = Cond.code yX1_numberOf bytes1 maxL1 ret1 :: ws1') (hw5 : ws5 = Cond.code yX5_numberOf bytes5 maxL5 ret5 :: ws5') (hrc1 : rm1.cells = 0) (hrs1 : rm1.slots = 0) (hrc5 : rm5.cells = 0) (hrs5 : rm5.slots = 0)
    (hd : (parseMethodDescriptor zxW.desc).map (fun d => d.parameters.length) = some n) (hR1 : rm1.frames + 1 ≤ R.frames ∧ 8 + (maxL1 + 11) + rm1.locals ≤ R.locals) (hR5 : rm5.frames + 1 ≤ R.frames ∧ 8 + (maxL5 + 11) + rm5.locals ≤ R.locals) (hdg : decode cc pc = .ok (.invokeinterface index count, 5)) : zS p l e R s m args below meth c cells slots Q X nL A H0 res pc (a_callF (pc + 5) n sem1 sem5) := by
  intro k lsA stA M hk h H locs ls hI hS hL
  unfold a_callF at h
  split at h
  · rename_i c0 st' hst
    split at h
    · rename_i hlen
      split at h
      · rename_i hkd
        exact zcallF (hZ := hZ) hexec hb hts hml hown hK hroom (C := RX1) (T := TX1) (N := 2) ⟨rfl, rfl, by decide⟩ hM1 hT1 hw1 hrc1 hrs1 hK.2.1.1 hd hR1 hdg hst hlen hkd hI hS hL hk h
      · split at h
        · rename_i hkd
          exact zcallF (hZ := hZ) hexec hb hts hml hown hK hroom (C := RX5) (T := TX5) (N := 13) ⟨rfl, rfl, by decide⟩ hM5 hT5 hw5 hrc5 hrs5 hK.2.1.2 hd hR5 hdg hst hlen hkd hI hS hL hk h
        · cases h
    · cases h
  · cases h
/-- a static method of a nest mate, by its name in the tables -/
theorem s_callSN {hZ : ∀ q, zA X q → A q} (hexec : p.tables.exec = Jvm.exec) (hb : c.code = cc) (hts : ∀ w ∈ Ts, w.before args s = true) (hml : c.maxLocals = nL) (hown : s.vm.findClass own = some m.cls) (hK : zK X s) (hroom : cells ≤ R.cells ∧ slots ≤ R.slots) {index n : Nat} {y : MethodName} {host : String} {ws ws' : List Cond} {rm : Room} {sem : List AV → MM → Option AR} (hM : zM l X y ws rm sem) {bytes : ByteArray} {maxL : Nat} {ret : Option FieldType} (hG : GoodIn Ts ws) (hw : ws = Cond.code y bytes maxL ret :: ws') (hrc : rm.cells = 0) (hrs : rm.slots = 0) (hl : va_Nw (.methodLinkNest own index y host) s) (hini : Cond.initialized y.cls ∈ Ts) (hst : Cond.static y ∈ Ts) (hd : y.cls ≠ "java/lang/invoke/MethodHandle" ∧ y.cls ≠ "java/lang/invoke/VarHandle" ∧ (parseMethodDescriptor y.desc).map (fun d => d.parameters.length) = some n) (hR : rm.frames + 1 ≤ R.frames ∧ 8 + (maxL + 11) + rm.locals ≤ R.locals) (hdg : decode cc pc = .ok (.invokestatic index, 3)) : zS p l e R s m args below meth c cells slots Q X nL A H0 res pc (a_callS (pc + 3) n sem) := by
  intro k lsA stA M hk h H locs ls hI hS hL
  unfold a_callS at h
  split at h
  · rename_i hn
    split at h
    · rename_i hlen
      obtain ⟨⟨v, M'⟩, h1, h2⟩ := Option.bind_eq_some_iff.mp h
      have hl0 : (stA.take n).length = n := by rw [List.length_take]; omega
      have hstk : stA.map (zv X.2.1) = ((stA.take n).reverse.map (zv X.2.1)).reverse ++ (stA.drop n).map (zv X.2.1) := by
        rw [List.map_reverse, List.reverse_reverse, ← List.map_append, List.take_append_drop]
      exact zcall (hZ := hZ) (va_runSN (As := (stA.take n).reverse.map (zv X.2.1)) (rest := (stA.drop n).map (zv X.2.1)) ⟨hexec, hb, hml, hown, hts⟩ (hM _ M v M' h1) ⟨va_cnB n hts hG hw hrc hrs hl (hts _ hini) hd hR, hts _ hst, trivial⟩ ⟨zblind, fun U hU hW => ⟨rfl, by rw [hU]; exact hI, zK.warm hW hK⟩⟩ rfl (by rw [List.length_map, List.length_reverse]; exact hl0) hL.1.1 hstk (lv_room (by rw [zv_cats]; exact hlen)) hdg hroom) hS (fun H1 locs1 hI1 hS1 => hk _ _ _ _ h2 H1 locs1 ls hI1 hS1 hL)
    · cases h
  · cases h
theorem s_null (hexec : p.tables.exec = Jvm.exec) (hb : c.code = cc) {off : Int} (tgt : Nat) (hdg : decode cc pc = .ok (.ifnull off, 3)) (ht : (pc : Int) + off = (tgt : Int)) : zS p l e R s m args below meth c cells slots Q X nL A H0 res pc (a_null (pc + 3) tgt) := by
  intro k lsA stA M hk h H locs ls hI hS hL
  unfold a_null at h
  split at h
  · exact lv_ifnullN hexec hb hdg ht (hk _ _ _ _ h H locs ls hI hS hL)
  · exact lv_ifnull hexec hb hdg (hk _ _ _ _ h H locs ls hI hS hL)
  · cases h
theorem s_nonnull (hexec : p.tables.exec = Jvm.exec) (hb : c.code = cc) {off : Int} (tgt : Nat) (hdg : decode cc pc = .ok (.ifnonnull off, 3)) (ht : (pc : Int) + off = (tgt : Int)) : zS p l e R s m args below meth c cells slots Q X nL A H0 res pc (a_nonnull (pc + 3) tgt) := by
  intro k lsA stA M hk h H locs ls hI hS hL
  unfold a_nonnull at h
  split at h
  · exact lv_ifnonnullN hexec hb hdg (hk _ _ _ _ h H locs ls hI hS hL)
  · exact lv_ifnonnull hexec hb hdg ht (hk _ _ _ _ h H locs ls hI hS hL)
  · cases h
def zswc (pc : Nat) (lo hi : Int) (offs : Array Int) (cs : List (Int32 × Nat)) : Bool := cs.all (fun q => decide (¬ q.1.toInt < lo) && decide (¬ hi < q.1.toInt) && (match offs[(q.1.toInt - lo).toNat]? with
  | some off => decide ((pc : Int) + off = (q.2 : Int))
  | none => false)) && (List.range (hi - lo + 1).toNat).all (fun i => cs.any (fun q => q.1 == Int32.ofInt (lo + i)))
theorem s_switchD (hexec : p.tables.exec = Jvm.exec) (hb : c.code = cc) {dflt lo hi : Int} {offs : Array Int} {len : Nat} (cs : List (Int32 × Nat)) (d : Nat) (hdg : decode cc pc = .ok (.tableswitch dflt lo hi offs, len)) (hcs : zswc pc lo hi offs cs = true) (hd : (pc : Int) + dflt = (d : Int)) : zS p l e R s m args below meth c cells slots Q X nL A H0 res pc (a_switch cs d) := by
  obtain ⟨h1, h2⟩ := Bool.and_eq_true_iff.mp hcs
  refine s_switch hexec hb cs d hdg (fun q hq => ?_) (fun x hx => ?_) hd
  · have h3 := List.all_eq_true.mp h1 q hq
    obtain ⟨h4, h5⟩ := Bool.and_eq_true_iff.mp h3
    obtain ⟨h6, h7⟩ := Bool.and_eq_true_iff.mp h4
    refine ⟨of_decide_eq_true h6, of_decide_eq_true h7, ?_⟩
    split at h5
    · rename_i off ho
      exact ⟨off, ho, of_decide_eq_true h5⟩
    · cases h5
  · rcases Int.lt_or_le x.toInt lo with q | q
    · exact Or.inl q
    · rcases Int.lt_or_le hi x.toInt with q2 | q2
      · exact Or.inr q2
      · exfalso
        have h3 := List.all_eq_true.mp h2 (x.toInt - lo).toNat (List.mem_range.mpr (by omega))
        obtain ⟨q', hq', he⟩ := List.any_eq_true.mp h3
        have e1 : lo + ((x.toInt - lo).toNat : Int) = x.toInt := by omega
        rw [e1, Int32.ofInt_toInt] at he
        exact hx q' hq' (eq_of_beq he).symm
theorem s_anull (hexec : p.tables.exec = Jvm.exec) (hb : c.code = cc) (hdg : decode cc pc = .ok (.aconst_null, 1)) : zS p l e R s m args below meth c cells slots Q X nL A H0 res pc (a_push (pc + 1) (.inr none)) :=
  s_push _ _ fun _ _ _ _ h => lv_null hexec hb hdg h
theorem s_iret (hexec : p.tables.exec = Jvm.exec) (hb : c.code = cc) (hr : meth.sig.returnType = some .int) (hK : zK X s) (hlocks : meth.locks = false) (hdg : decode cc pc = .ok (.ireturn, 1)) : zS p l e R s m args below meth c cells slots (MQ below (zQ X res.1 res.2) args s cells slots (zA X)) X nL (zA X) s.heap res pc a_iret := by
  intro k lsA stA M hk h H locs ls hI hS hL
  unfold a_iret at h
  split at h
  · rename_i x
    have h := Option.some.inj h
    subst h
    exact W.iret (v := x) hexec hb hr (fun t ht hW => ⟨rfl, ⟨by rw [ht]; exact hI, zK.warm hW hK⟩, hS.F ht⟩) hS.2.2 hdg
  · cases h
theorem s_zret (hexec : p.tables.exec = Jvm.exec) (hb : c.code = cc) (hr : meth.sig.returnType = some .boolean) (hK : zK X s) (hlocks : meth.locks = false) (hdg : decode cc pc = .ok (.ireturn, 1)) : zS p l e R s m args below meth c cells slots (MQ below (zQ X res.1 res.2) args s cells slots (zA X)) X nL (zA X) s.heap res pc a_zret := by
  intro k lsA stA M hk h H locs ls hI hS hL
  unfold a_zret at h
  split at h
  · split at h
    · rename_i x hx
      have h := Option.some.inj h
      subst h
      exact W.zret (v := x) hexec hb hr (znz hx).1 (fun t ht hW => ⟨rfl, ⟨by rw [ht]; exact hI, zK.warm hW hK⟩, hS.F ht⟩) hS.2.2 hdg
    · cases h
  · cases h
theorem s_vret (hexec : p.tables.exec = Jvm.exec) (hb : c.code = cc) (hr : meth.sig.returnType = none) (hK : zK X s) (hlocks : meth.locks = false) (hdg : decode cc pc = .ok (.return_, 1)) : zS p l e R s m args below meth c cells slots (MQ below (zQ X res.1 res.2) args s cells slots (zA X)) X nL (zA X) s.heap res pc a_vret := by
  intro k lsA stA M hk h H locs ls hI hS hL
  unfold a_vret at h
  split at h
  · have h := Option.some.inj h
    subst h
    exact W.vret hexec hb hr (fun t ht hW => ⟨rfl, ⟨by rw [ht]; exact hI, zK.warm hW hK⟩, hS.F ht⟩) hS.2.2 hdg
  · cases h
theorem s_aret {C : String} (hexec : p.tables.exec = Jvm.exec) (hb : c.code = cc) (hr : meth.sig.returnType = some (.object C)) (hK : zK X s) (hlocks : meth.locks = false) (hdg : decode cc pc = .ok (.areturn, 1)) : zS p l e R s m args below meth c cells slots (MQ below (zQ X res.1 res.2) args s cells slots (zA X)) X nL (zA X) s.heap res pc a_aret := by
  intro k lsA stA M hk h H locs ls hI hS hL
  unfold a_aret at h
  split at h
  · rename_i r
    have h := Option.some.inj h
    subst h
    exact W.aret (v := zv X.2.1 (.inr r)) hexec hb hr (Or.inl ⟨C, rfl⟩) (by cases r with | none => exact Or.inl rfl | some a => exact Or.inr ⟨_, rfl⟩) (fun t ht hW => ⟨rfl, ⟨by rw [ht]; exact hI, zK.warm hW hK⟩, hS.F ht⟩) hS.2.2 hdg
  · cases h
end RT
/-- what a method's instructions may use -/
def zC (X : XC) (y : MethodName) (ws : List Cond) (cc : ByteArray) (maxL : Nat) (ret : Option FieldType) (p : Program) (s : State) (m : MethodId) (args : Array Value) (meth : Method) (c : Code) : Prop :=
  p.tables.exec = Jvm.exec ∧ c.code = cc ∧ meth.sig.returnType = ret ∧ (∀ w ∈ ws, w.before args s = true) ∧ s.vm.findClass y.cls = some m.cls ∧ c.maxLocals = maxL ∧ meth.locks = false ∧ zK X s
def zlook (L : List (Nat × AI)) (pc : Nat) : Option AI := match L with
  | [] => none
  | q :: L => if pc = q.1 then some q.2 else zlook L pc
theorem zlook_mem {L : List (Nat × AI)} {pc : Nat} {a : AI} (h : zlook L pc = some a) : (pc, a) ∈ L := by
  induction L with
  | nil => cases h
  | cons q L ih =>
    unfold zlook at h
    split at h
    · rename_i hq
      have := Option.some.inj h
      subst this
      subst hq
      exact List.mem_cons_self
    · exact List.mem_cons_of_mem _ (ih h)
/-- what a run comes to, however long it takes -/
noncomputable def mev (tab : Nat → Option AI) : KT := fun pc ls st M => match Classical.propDecidable (∃ (r : AR) (n : Nat), mrun tab n pc ls st M = some r) with
  | isTrue h => some h.choose
  | isFalse _ => none
theorem mev_ex {tab : Nat → Option AI} {pc : Nat} {ls : List (Option AV)} {st : List AV} {M : MM} {r : AR} (h : mev tab pc ls st M = some r) : ∃ n, mrun tab n pc ls st M = some r := by
  unfold mev at h
  split at h
  · rename_i h1 _
    have h2 := h1.choose_spec
    rw [Option.some.inj h] at h2
    exact h2
  · cases h
/-- a method's meaning: its table, run from its first instruction -/
noncomputable def zsem (tab : List (Nat × AI)) (maxL nA : Nat) : List AV → MM → Option AR := fun as M => if as.length ≤ nA then mev (zlook tab) 0 (as.map some ++ List.replicate (maxL - as.length) none) [] M else none
theorem lv_args1 (ad : Nat → Nat) (as : List AV) : ∀ (k i : Nat) (v : Value), (i, v) ∈ lv_args k (as.map (zv ad)) ↔ ∃ j a, i = k + j ∧ as[j]? = some a ∧ v = zv ad a := by
  induction as with
  | nil =>
    intro k i v
    simp [lv_args]
  | cons a as ih =>
    intro k i v
    have e : lv_args k ((a :: as).map (zv ad)) = (k, zv ad a) :: lv_args (k + 1) (as.map (zv ad)) := by
      rcases a with x | _ | c <;> rfl
    rw [e, List.mem_cons, ih]
    constructor
    · rintro (h | ⟨j, b, rfl, h2, rfl⟩)
      · simp only [Prod.mk.injEq] at h
        obtain ⟨rfl, rfl⟩ := h
        exact ⟨0, a, rfl, rfl, rfl⟩
      · exact ⟨j + 1, b, by omega, h2, rfl⟩
    · rintro ⟨j, b, rfl, h2, rfl⟩
      cases j with
      | zero =>
        simp only [List.getElem?_cons_zero, Option.some.injEq] at h2
        subst h2
        exact Or.inl rfl
      | succ j => exact Or.inr ⟨j, b, by omega, h2, rfl⟩
theorem zH_entry (ad : Nat → Nat) (as : List AV) {n : Nat} (h : as.length ≤ n) : zH ad n (as.map some ++ List.replicate (n - as.length) none) ((lg_sl (as.map (zv ad)) ++ List.replicate (n - (lg_sl (as.map (zv ad))).length) Slot.unset).toArray) := by
  have hl : (lg_sl (as.map (zv ad))).length = as.length := by
    clear h
    induction as with
    | nil => rfl
    | cons a as ih =>
      have e : lg_sl ((a :: as).map (zv ad)) = Slot.val (zv ad a) :: lg_sl (as.map (zv ad)) := by
        rcases a with x | _ | c <;> rfl
      rw [e, List.length_cons, ih, List.length_cons]
  have h1 := lv_entry (as.map (zv ad)) (n := n) (by rw [hl]; exact h)
  refine ⟨⟨h1.1, h1.2.1, fun q hq => h1.2.2 q ?_⟩, by simp; omega⟩
  obtain ⟨i, v⟩ := q
  obtain ⟨a, ha, rfl⟩ := (zL_mem ad _ i v).mp hq
  rw [lv_args1]
  refine ⟨i, a, by omega, ?_, rfl⟩
  rw [List.getElem?_append] at ha
  split at ha
  · simpa using ha
  · rw [List.getElem?_replicate] at ha
    split at ha <;> cases ha
theorem zMet {l : Launch} {X : XC} {y : MethodName} {ws ws' : List Cond} {rm : Room} {cc : ByteArray} {maxL : Nat} {ret : Option FieldType} (tab : List (Nat × AI)) (nA : Nat) (hy : plainName y.cls = true) (hw : ws = Cond.code y cc maxL ret :: ws') (hn : nA ≤ maxL)
    (h : ∀ (p : Program) (e : Env) (s : State) (m : MethodId) (args : Array Value) (below : List Frame) (meth : Method) (c : Code) (res : AR), zC X y ws cc maxL ret p s m args meth c → ∀ q ∈ tab, zS p l e (headSpec ws rm).room s m args below meth c 0 0 (MQ below (zQ X res.1 res.2) args s 0 0 (zA X)) X maxL (zA X) s.heap res q.1 q.2) : zM l X y ws rm (zsem tab maxL nA) := by
  intro as M v M' hsem
  unfold zsem at hsem
  split at hsem
  · rename_i hlen
    obtain ⟨n, hsem⟩ := mev_ex hsem
    refine Met.ofW (cc := cc) (maxL := maxL) (ret := ret) hy hw ?_
    intro p e s m args below meth c s₁ B hml hv
    obtain ⟨rfl, hI, hK⟩ := hv
    have hl := zH_entry X.2.1 as (n := maxL) (Nat.le_trans hlen hn)
    rw [lg_entry_eq]
    have hC : zC X y ws cc maxL ret p s m (as.map (zv X.2.1)).toArray meth c := ⟨B.exec, B.bytes, B.returns, atoms_spec (ws := ws) B.pre, findClass_of_methodNamed B.named, hml, B.notSynchronized, hK⟩
    exact zrun (zlook tab) (fun pc a ha => h p e s m _ below meth c (v, M') hC _ (zlook_mem ha)) n 0 _ [] M hsem s.heap [] _ hI va_S.rf hl
  · cases hsem
theorem zcons {p : Program} {l : Launch} {e : Env} {R : Room} {s : State} {m : MethodId} {args : Array Value} {below : List Frame} {meth : Method} {c : Code} {cells slots : Nat} {Q : State → Prop} {X : XC} {nL : Nat} {A : Nat → Prop} {H0 : Heap} {res : AR} {pc : Nat} {a : AI} {L : List (Nat × AI)} (h : zS p l e R s m args below meth c cells slots Q X nL A H0 res pc a) (t : ∀ q ∈ L, zS p l e R s m args below meth c cells slots Q X nL A H0 res q.1 q.2) : ∀ q ∈ (pc, a) :: L, zS p l e R s m args below meth c cells slots Q X nL A H0 res q.1 q.2 := fun q hq => (List.mem_cons.mp hq).elim (fun e => e ▸ h) (t q)
theorem znil {p : Program} {l : Launch} {e : Env} {R : Room} {s : State} {m : MethodId} {args : Array Value} {below : List Frame} {meth : Method} {c : Code} {cells slots : Nat} {Q : State → Prop} {X : XC} {nL : Nat} {A : Nat → Prop} {H0 : Heap} {res : AR} : ∀ q ∈ ([] : List (Nat × AI)), zS p l e R s m args below meth c cells slots Q X nL A H0 res q.1 q.2 := fun _ h => absurd h List.not_mem_nil
theorem zptf {ci j : Nat} {f : Nat → Nat} (hci : ci < 13) (h : ∀ c0, c0 < zN → zkd c0 = ci → zpt c0 j = some (f c0)) : ∀ c0, zkd c0 = ci → zpt c0 j = some (f c0) := fun c0 hc => h c0 (zkd_lt (by omega)) hc
theorem zptk {ci j : Nat} (hci : ci < 13) (h : ∀ c0, c0 < zN → zkd c0 = ci → zpt c0 j = none) : ∀ c0, zkd c0 = ci → zpt c0 j = none := fun c0 hc => h c0 (zkd_lt (by omega)) hc
theorem zcX0 : zCl 0 RX0 TX0 3 := ⟨rfl, rfl, by decide⟩
theorem zcX1 : zCl 1 RX1 TX1 2 := ⟨rfl, rfl, by decide⟩
theorem zcX2 : zCl 2 RX2 TX2 4 := ⟨rfl, rfl, by decide⟩
theorem zcX3 : zCl 3 RX3 TX3 2 := ⟨rfl, rfl, by decide⟩
theorem zcX4 : zCl 4 RX4 TX4 7 := ⟨rfl, rfl, by decide⟩
theorem zcX5 : zCl 5 RX5 TX5 13 := ⟨rfl, rfl, by decide⟩
theorem zcX6 : zCl 6 RX6 TX6 13 := ⟨rfl, rfl, by decide⟩
theorem zcX7 : zCl 7 RX7 TX7 2 := ⟨rfl, rfl, by decide⟩
theorem zcX9 : zCl 8 RX9 TX9 8 := ⟨rfl, rfl, by decide⟩
theorem zcX10 : zCl 9 RX10 TX10 41 := ⟨rfl, rfl, by decide⟩
