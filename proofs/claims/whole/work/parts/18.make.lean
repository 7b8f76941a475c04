/-! The machine that makes cells: its heap is a list of cells; a new cell stands at its end. -/
abbrev DE : Type := Nat × List AV
abbrev DH : Type := List DE
abbrev DK : Type := Nat → List (Option AV) → List AV → DH → Option DH
abbrev DA : Type := DK → List (Option AV) → List AV → DH → Option DH
def drun (tab : Nat → Option DA) : Nat → DK
  | 0 => fun _ _ _ _ => none
  | n + 1 => fun pc ls st hp => match tab pc with
    | some a => a (drun tab n) ls st hp
    | none => none
def wfv (n : Nat) : AV → Bool
  | .inr (some c) => decide (c < n)
  | _ => true
def wfl (n : Nat) (ls : List (Option AV)) : Bool := ls.all (fun o => match o with
  | some v => wfv n v
  | none => true)
def wfs (n : Nat) (st : List AV) : Bool := st.all (wfv n)
def wfh (hp : DH) : Bool := hp.all (fun q => wfs hp.length q.2)
def dsl (hp : DH) : Nat := (hp.map (fun q => q.2.length)).sum
def dI : AV → Int32
  | .inl x => x
  | .inr _ => 0
def dRf : AV → Option Nat
  | .inl _ => none
  | .inr r => r
def dE (X : XC) (ad : Nat → Nat) (q : DE) : va_E :=
  if q.1 = 10 then .inl (X.2.2.1, q.2.length, .inl (fun i => dI (q.2.getD i (.inl 0)))) else if q.1 = 11 then .inl (X.2.2.2.1, q.2.length, .inl (fun i => dI (q.2.getD i (.inl 0)))) else if q.1 = 12 then .inl (X.2.2.2.2, q.2.length, .inr (.inr (.inr (.inr (fun i => (dRf (q.2.getD i (.inr none))).map ad))))) else .inr (q.1, q.2.map (zv ad))
def dW (X : XC) (ad : Nat → Nat) (hp : DH) : va_W := (List.range hp.length).map (fun i => (ad i, dE X ad (hp.getD i (99, []))))
def dA (ad : Nat → Nat) (hp : DH) (sz : Nat) : Nat → Prop := fun q => (∃ i, i < hp.length ∧ q = ad i) ∨ sz ≤ q
theorem zv_wf {n : Nat} {v : AV} {ad ad' : Nat → Nat} (h : wfv n v = true) (ha : ∀ i, i < n → ad' i = ad i) : zv ad' v = zv ad v := by
  rcases v with x | _ | c
  · rfl
  · rfl
  · have hc : c < n := of_decide_eq_true h
    show Value.ref (ad' c) = Value.ref (ad c)
    rw [ha c hc]
theorem zvs_wf {n : Nat} {st : List AV} {ad ad' : Nat → Nat} (h : wfs n st = true) (ha : ∀ i, i < n → ad' i = ad i) : st.map (zv ad') = st.map (zv ad) :=
  List.map_congr_left (fun v hv => zv_wf (List.all_eq_true.mp h v hv) ha)
theorem dE_wf (X : XC) {n : Nat} {q : DE} {ad ad' : Nat → Nat} (h : wfs n q.2 = true) (ha : ∀ i, i < n → ad' i = ad i) : dE X ad' q = dE X ad q := by
  unfold dE
  rw [zvs_wf h ha]
  have e : (fun i => (dRf (q.2.getD i (.inr none))).map ad') = (fun i => (dRf (q.2.getD i (.inr none))).map ad) := by
    funext i
    by_cases hi : i < q.2.length
    · have hv : q.2.getD i (.inr none) ∈ q.2 := by rw [List.getD_eq_getElem?_getD, List.getElem?_eq_getElem hi]; exact List.getElem_mem hi
      have hw := List.all_eq_true.mp h _ hv
      generalize q.2.getD i (.inr none) = v at hw
      rcases v with x | _ | c
      · rfl
      · rfl
      · have hc : c < n := of_decide_eq_true hw
        show some (ad' c) = some (ad c)
        rw [ha c hc]
    · rw [List.getD_eq_getElem?_getD, List.getElem?_eq_none (by omega)]
      rfl
  rw [e]
theorem dW_len (X : XC) (ad : Nat → Nat) (hp : DH) : (dW X ad hp).length = hp.length := by simp [dW]
theorem dW_at (X : XC) (ad : Nat → Nat) {hp : DH} {i : Nat} {q : DE} (h : hp[i]? = some q) : (dW X ad hp)[i]? = some (ad i, dE X ad q) := by
  have hl : i < hp.length := (List.getElem?_eq_some_iff.mp h).1
  unfold dW
  rw [List.getElem?_map, List.getElem?_range hl]
  show some (ad i, dE X ad (hp.getD i (99, []))) = some (ad i, dE X ad q)
  rw [List.getD_eq_getElem?_getD, h]
  rfl
theorem dW_set (X : XC) (ad : Nat → Nat) {hp : DH} {i : Nat} (hl : i < hp.length) (e : DE) : (dW X ad hp).set i (ad i, dE X ad e) = dW X ad (hp.set i e) := by
  apply List.ext_getElem?
  intro j
  rw [List.getElem?_set]
  by_cases hij : i = j
  · subst hij
    rw [if_pos rfl, dW_len, if_pos hl, dW_at X ad (q := e) (by rw [List.getElem?_set, if_pos rfl, if_pos hl])]
  · rw [if_neg hij]
    by_cases hj : j < hp.length
    · have h1 : hp[j]? = some hp[j] := List.getElem?_eq_getElem hj
      rw [dW_at X ad h1, dW_at X ad (q := hp[j]) (by rw [List.getElem?_set, if_neg hij]; exact h1)]
    · rw [List.getElem?_eq_none (by rw [dW_len]; omega), List.getElem?_eq_none (by rw [dW_len, List.length_set]; omega)]
theorem dW_push (X : XC) (ad : Nat → Nat) {hp : DH} (e : DE) (q : Nat) (h : wfh hp = true) (he : wfs hp.length e.2 = true) : dW X ad hp ++ [(q, dE X ad e)] = dW X (va_up ad hp.length q) (hp ++ [e]) := by
  have ha : ∀ i, i < hp.length → va_up ad hp.length q i = ad i := fun i hi => by unfold va_up; rw [if_neg (by omega)]
  apply List.ext_getElem?
  intro j
  rcases Nat.lt_trichotomy j hp.length with hj | hj | hj
  · have h1 : hp[j]? = some hp[j] := List.getElem?_eq_getElem hj
    rw [List.getElem?_append_left (by rw [dW_len]; exact hj), dW_at X ad h1, dW_at X _ (q := hp[j]) (by rw [List.getElem?_append_left hj]; exact h1), ha j hj, dE_wf X (List.all_eq_true.mp h _ (List.getElem_mem hj)) ha]
  · subst hj
    rw [List.getElem?_append_right (by rw [dW_len]; exact Nat.le_refl _), dW_len, Nat.sub_self, dW_at X _ (q := e) (by rw [List.getElem?_append_right (Nat.le_refl _), Nat.sub_self]; rfl), dE_wf X he ha]
    show some (q, _) = some (va_up ad hp.length q hp.length, _)
    unfold va_up
    rw [if_pos rfl]
  · rw [List.getElem?_eq_none (by rw [List.length_append, dW_len]; show hp.length + 1 ≤ j; omega), List.getElem?_eq_none (by rw [dW_len, List.length_append]; show hp.length + 1 ≤ j; omega)]
theorem dsl_push (hp : DH) (e : DE) : dsl (hp ++ [e]) = dsl hp + e.2.length := by simp [dsl]
theorem dsl_set {hp : DH} {i : Nat} {q : DE} (h : hp[i]? = some q) (r : List AV) (hr : r.length = q.2.length) : dsl (hp.set i (q.1, r)) = dsl hp := by
  have hl : i < hp.length := (List.getElem?_eq_some_iff.mp h).1
  have e : (hp.set i (q.1, r)).map (fun q => q.2.length) = hp.map (fun q => q.2.length) := by
    apply List.ext_getElem?
    intro j
    rw [List.getElem?_map, List.getElem?_map, List.getElem?_set]
    by_cases hij : i = j
    · subst hij
      rw [if_pos rfl, if_pos hl, h]
      simp [hr]
    · rw [if_neg hij]
  unfold dsl
  rw [e]
theorem zL_wf {n : Nat} {ls : List (Option AV)} {ad ad' : Nat → Nat} (h : wfl n ls = true) (ha : ∀ i, i < n → ad' i = ad i) {nL : Nat} {lsM : Array Slot} (hL : zH ad nL ls lsM) : zH ad' nL ls lsM := by
  refine ⟨⟨hL.1.1, hL.1.2.1, fun q hq => hL.1.2.2 q ?_⟩, hL.2⟩
  obtain ⟨i, v⟩ := q
  obtain ⟨a, h1, rfl⟩ := (zL_mem ad' ls i v).mp hq
  have hw : wfv n a = true := List.all_eq_true.mp h (some a) (List.mem_of_getElem? h1)
  exact (zL_mem ad ls i _).mpr ⟨a, h1, zv_wf hw ha⟩
/-! the actions -/
def d_push (nx : Nat) (x : Int32) : DA := fun k ls st hp => k nx ls (.inl x :: st) hp
def d_mul (nx : Nat) : DA := fun k ls st hp => match st with
  | .inl y :: .inl x :: st' => k nx ls (.inl (x * y) :: st') hp
  | _ => none
def d_load (nx i : Nat) : DA := fun k ls st hp => match ls[i]? with
  | some (some v) => k nx ls (v :: st) hp
  | _ => none
def d_iload (nx j : Nat) : DA := fun k ls st hp => match ls[j]? with
  | some (some (.inl _)) => d_load nx j k ls st hp
  | _ => none
def d_aload (nx j : Nat) : DA := fun k ls st hp => match ls[j]? with
  | some (some (.inr (some _))) => d_load nx j k ls st hp
  | _ => none
def d_istore (nx i : Nat) : DA := fun k ls st hp => match st with
  | .inl x :: st' => if i < ls.length then k nx (ls.set i (some (.inl x))) st' hp else none
  | _ => none
def d_iinc (nx i : Nat) (n : Int32) : DA := fun k ls st hp => match ls[i]? with
  | some (some (.inl x)) => k nx (ls.set i (some (.inl (x + n)))) st hp
  | _ => none
def d_goto (t : Nat) : DA := fun k ls st hp => k t ls st hp
def d_dup (nx : Nat) : DA := fun k ls st hp => match st with
  | v :: st' => k nx ls (v :: v :: st') hp
  | _ => none
def d_if_le (nx t : Nat) : DA := fun k ls st hp => match st with
  | .inl x :: st' => if x ≤ 0 then k t ls st' hp else k nx ls st' hp
  | _ => none
def d_c_ge (nx t : Nat) : DA := fun k ls st hp => match st with
  | .inl y :: .inl x :: st' => if y ≤ x then k t ls st' hp else k nx ls st' hp
  | _ => none
def d_get (nx ci j : Nat) : DA := fun k ls st hp => match st with
  | .inr (some c) :: st' => match hp[c]? with
    | some q => if q.1 = ci then (match q.2[j]? with
      | some v => k nx ls (v :: st') hp
      | none => none) else none
    | none => none
  | _ => none
def d_putI (nx ci j : Nat) : DA := fun k ls st hp => match st with
  | .inl x :: .inr (some c) :: st' => match hp[c]? with
    | some q => if q.1 = ci ∧ j < q.2.length then k nx ls st' (hp.set c (q.1, q.2.set j (.inl x))) else none
    | none => none
  | _ => none
def d_putR (nx ci j : Nat) : DA := fun k ls st hp => match st with
  | .inr r :: .inr (some c) :: st' => match hp[c]? with
    | some q => if q.1 = ci ∧ j < q.2.length then k nx ls st' (hp.set c (q.1, q.2.set j (.inr r))) else none
    | none => none
  | _ => none
def d_len (nx : Nat) : DA := fun k ls st hp => match st with
  | .inr (some c) :: st' => match hp[c]? with
    | some q => if q.1 = 10 then k nx ls (.inl (Int32.ofNat q.2.length) :: st') hp else none
    | none => none
  | _ => none
def d_iast (nx : Nat) : DA := fun k ls st hp => match st with
  | .inl x :: .inl i :: .inr (some c) :: st' => match hp[c]? with
    | some q => if q.1 = 10 then (if i < 0 ∨ q.2.length ≤ i.toNatClampNeg then none else k nx ls st' (hp.set c (q.1, q.2.set i.toNatClampNeg (.inl x)))) else none
    | none => none
  | _ => none
def d_aast (nx : Nat) : DA := fun k ls st hp => match st with
  | .inr (some v) :: .inl i :: .inr (some c) :: st' => match hp[c]?, hp[v]? with
    | some q, some w => if q.1 = 12 ∧ w.1 = 5 then (if i < 0 ∨ q.2.length ≤ i.toNatClampNeg then none else k nx ls st' (hp.set c (q.1, q.2.set i.toNatClampNeg (.inr (some v))))) else none
    | _, _ => none
  | _ => none
def wfA (ls : List (Option AV)) (st : List AV) (hp : DH) : Bool := wfh hp && wfl hp.length ls && wfs hp.length st
def d_new (nx ci : Nat) (dv : List AV) (lc lsl : Nat) : DA := fun k ls st hp =>
  if wfA ls st hp = true ∧ hp.length + 1 ≤ lc ∧ dsl hp + dv.length ≤ lsl then k nx ls (.inr (some hp.length) :: st) (hp ++ [(ci, dv)]) else none
def d_newa (nx kd : Nat) (dv : AV) (lc lsl : Nat) : DA := fun k ls st hp => match st with
  | .inl n :: st' => if n < 0 then none else if wfA ls st' hp = true ∧ hp.length + 1 ≤ lc ∧ dsl hp + n.toNatClampNeg ≤ lsl ∧ n.toNatClampNeg * 4 ≤ 536870912 then k nx ls (.inr (some hp.length) :: st') (hp ++ [(kd, List.replicate n.toNatClampNeg dv)]) else none
  | _ => none
def d_obj (nx : Nat) : DA := fun k ls st hp => match st with
  | .inr (some _) :: st' => if st'.length ≤ 8 then k nx ls st' hp else none
  | _ => none
def d_call (nx kk : Nat) (sem : List AV → DH → Option DH) (mc ms lc lsl : Nat) : DA := fun k ls st hp =>
  if kk ≤ st.length ∧ (st.drop kk).length ≤ 8 ∧ hp.length + mc ≤ lc ∧ dsl hp + ms ≤ lsl ∧ wfl hp.length ls = true ∧ wfs hp.length (st.drop kk) = true then (sem (st.take kk).reverse hp).bind (fun hp' => k nx ls (st.drop kk) hp') else none
def d_vret : DA := fun _ _ st hp => match st with
  | [] => some hp
  | _ => none
/-- what a caller may rest on -/
def yQ (X : XC) (ad : Nat → Nat) (hp hp' : DH) (sz : Nat) : Array Value → State → Outcome → State → Prop := fun _ st oc t =>
  (∃ ad' : Nat → Nat, (∀ i, i < hp.length → ad' i = ad i) ∧ oc = .returned none ∧ va_P X.1 vwCl (dW X ad' hp') t.heap ∧ va_D (dA ad hp sz) (dW X ad' hp') ∧ zK X t) ∧ va_F (dA ad hp sz) st t
def yPre (X : XC) (ad : Nat → Nat) (hp : DH) (sz : Nat) (U : State) : Prop := U.heap.size = sz ∧ va_P X.1 vwCl (dW X ad hp) U.heap ∧ va_D (fun _ => True) (dW X ad hp) ∧ zK X U
def yM (l : Launch) (X : XC) (y : MethodName) (ws : List Cond) (rm : Room) (mc ms : Nat) (sem : List AV → DH → Option DH) : Prop :=
  ∀ (as : List AV) (hp hp' : DH) (ad : Nat → Nat) (sz : Nat), sem as hp = some hp' → hp'.length = hp.length + mc ∧ dsl hp' = dsl hp + ms ∧ Met l y ws rm (va_Pc (as.map (zv ad)) (yPre X ad hp sz)) (yQ X ad hp hp' sz) mc ms (dA ad hp sz)
section MK
variable {p : Program} {l : Launch} {e : Env} {R : Room} {s : State} {m : MethodId} {args : Array Value} {below : List Frame} {meth : Method} {c : Code} {Q : State → Prop}
variable {X : XC} {nL b sb : Nat} {A : Nat → Prop} {H0 : Heap} {cc : ByteArray} {pc : Nat} {res : DH} {Ts : List Cond} {own : String} {ad0 : Nat → Nat}
def yG (p : Program) (l : Launch) (e : Env) (R : Room) (s : State) (m : MethodId) (args : Array Value) (below : List Frame) (meth : Method) (c : Code) (Q : State → Prop) (X : XC) (nL b sb : Nat) (ad0 : Nat → Nat) (A : Nat → Prop) (H0 : Heap) (pc : Nat) (lsA : List (Option AV)) (stA : List AV) (hp : DH) : Prop :=
  ∀ (ad : Nat → Nat) (H : Heap) (locs : List Loc) (ls : Array Slot) (cells slots : Nat), cells + b = hp.length → slots + sb = dsl hp → (∀ i, i < b → ad i = ad0 i) → va_P X.1 vwCl (dW X ad hp) H → va_D A (dW X ad hp) → va_S A H0 H locs → zH ad nL lsA ls → W p l e R s m args below meth c H locs cells slots Q (F0 m pc ls (stA.map (zv ad)))
def yS (p : Program) (l : Launch) (e : Env) (R : Room) (s : State) (m : MethodId) (args : Array Value) (below : List Frame) (meth : Method) (c : Code) (Q : State → Prop) (X : XC) (nL b sb : Nat) (ad0 : Nat → Nat) (A : Nat → Prop) (H0 : Heap) (res : DH) (pc : Nat) (a : DA) : Prop :=
  ∀ (k : DK) (lsA : List (Option AV)) (stA : List AV) (hp : DH), (∀ pc' lsA' stA' hp', k pc' lsA' stA' hp' = some res → yG p l e R s m args below meth c Q X nL b sb ad0 A H0 pc' lsA' stA' hp') → a k lsA stA hp = some res → yG p l e R s m args below meth c Q X nL b sb ad0 A H0 pc lsA stA hp
theorem yrun (tab : Nat → Option DA) (h : ∀ pc a, tab pc = some a → yS p l e R s m args below meth c Q X nL b sb ad0 A H0 res pc a) : ∀ (n pc : Nat) (lsA : List (Option AV)) (stA : List AV) (hp : DH), drun tab n pc lsA stA hp = some res → yG p l e R s m args below meth c Q X nL b sb ad0 A H0 pc lsA stA hp := by
  intro n
  induction n with
  | zero => intro pc lsA stA hp h; cases h
  | succ n ih =>
    intro pc lsA stA hp h1
    unfold drun at h1
    split at h1
    · rename_i a ha
      exact h pc a ha _ lsA stA hp ih h1
    · cases h1
theorem y_push (x : Int32) (nx : Nat) (hx : ∀ (H : Heap) (locs : List Loc) (ls : Array Slot) (cells slots : Nat) (rest : List Value), W p l e R s m args below meth c H locs cells slots Q (F0 m nx ls (.int x :: rest)) → W p l e R s m args below meth c H locs cells slots Q (F0 m pc ls rest)) : yS p l e R s m args below meth c Q X nL b sb ad0 A H0 res pc (d_push nx x) := by
  intro k lsA stA hp hk h ad H locs ls cells slots h1 h2 h3 hP hD hS hL
  exact hx H locs ls cells slots _ (hk _ _ _ _ h ad H locs ls cells slots h1 h2 h3 hP hD hS hL)
theorem y_iconst (hexec : p.tables.exec = Jvm.exec) (hb : c.code = cc) {n : Int} (v : Int32) (hdg : decode cc pc = .ok (.iconst n, 1)) (hv : Int32.ofInt n = v) : yS p l e R s m args below meth c Q X nL b sb ad0 A H0 res pc (d_push (pc + 1) v) :=
  y_push _ _ fun _ _ _ _ _ _ h => lv_iconst hexec hb hdg hv h
theorem y_bipush (hexec : p.tables.exec = Jvm.exec) (hb : c.code = cc) {n : Int} (v : Int32) (hdg : decode cc pc = .ok (.bipush n, 2)) (hv : (Int8.ofInt n).toInt32 = v) : yS p l e R s m args below meth c Q X nL b sb ad0 A H0 res pc (d_push (pc + 2) v) :=
  y_push _ _ fun _ _ _ _ _ _ h => lv_bipush hexec hb hdg hv h
theorem y_sipush (hexec : p.tables.exec = Jvm.exec) (hb : c.code = cc) {n : Int} (v : Int32) (hdg : decode cc pc = .ok (.sipush n, 3)) (hv : (Int16.ofInt n).toInt32 = v) : yS p l e R s m args below meth c Q X nL b sb ad0 A H0 res pc (d_push (pc + 3) v) :=
  y_push _ _ fun _ _ _ _ _ _ h => lv_sipush hexec hb hdg hv h
theorem y_ldc (hexec : p.tables.exec = Jvm.exec) (hb : c.code = cc) {index : Nat} (v : Int32) (hown : s.vm.findClass own = some m.cls) (hconst : (Jvm.Cond.constant own index v).before args s = true) (hdg : decode cc pc = .ok (.ldc index, 2)) : yS p l e R s m args below meth c Q X nL b sb ad0 A H0 res pc (d_push (pc + 2) v) :=
  y_push _ _ fun _ _ _ _ _ _ h => lv_ldc hexec hb hown hconst hdg h
theorem y_imul (hexec : p.tables.exec = Jvm.exec) (hb : c.code = cc) (hdg : decode cc pc = .ok (.imul, 1)) : yS p l e R s m args below meth c Q X nL b sb ad0 A H0 res pc (d_mul (pc + 1)) := by
  intro k lsA stA hp hk h ad H locs ls cells slots h1 h2 h3 hP hD hS hL
  unfold d_mul at h
  split at h
  · exact lv_imul hexec hb hdg (hk _ _ _ _ h ad H locs ls cells slots h1 h2 h3 hP hD hS hL)
  · cases h
theorem y_iload_n (hexec : p.tables.exec = Jvm.exec) (hb : c.code = cc) {i : Fin 4} (j : Nat) (hdg : decode cc pc = .ok (.iload_n i, 1)) (hi : (i : Nat) = j) : yS p l e R s m args below meth c Q X nL b sb ad0 A H0 res pc (d_iload (pc + 1) j) := by
  intro k lsA stA hp hk h ad H locs ls cells slots h1 h2 h3 hP hD hS hL
  unfold d_iload at h
  split at h
  · rename_i x hx
    unfold d_load at h
    rw [hx] at h
    exact lv_iload_n hexec hb hdg hi (zH_at hL hx) (hk _ _ _ _ h ad H locs ls cells slots h1 h2 h3 hP hD hS hL)
  · cases h
theorem y_aload_n (hexec : p.tables.exec = Jvm.exec) (hb : c.code = cc) {i : Fin 4} (j : Nat) (hdg : decode cc pc = .ok (.aload_n i, 1)) (hi : (i : Nat) = j) : yS p l e R s m args below meth c Q X nL b sb ad0 A H0 res pc (d_aload (pc + 1) j) := by
  intro k lsA stA hp hk h ad H locs ls cells slots h1 h2 h3 hP hD hS hL
  unfold d_aload at h
  split at h
  · rename_i x hx
    unfold d_load at h
    rw [hx] at h
    exact lv_aload_n hexec hb hdg hi (zH_at hL hx) (hk _ _ _ _ h ad H locs ls cells slots h1 h2 h3 hP hD hS hL)
  · cases h
theorem y_istore_n (hexec : p.tables.exec = Jvm.exec) (hb : c.code = cc) {i : Fin 4} (j : Nat) (hdg : decode cc pc = .ok (.istore_n i, 1)) (hi : (i : Nat) = j) : yS p l e R s m args below meth c Q X nL b sb ad0 A H0 res pc (d_istore (pc + 1) j) := by
  intro k lsA stA hp hk h ad H locs ls cells slots h1 h2 h3 hP hD hS hL
  unfold d_istore at h
  split at h
  · split at h
    · rename_i hj
      exact lv_istore_n hexec hb hdg hi hL.1 (hL.2 ▸ hj) rfl (fun ls' h' => hk _ _ _ _ h ad H locs ls' cells slots h1 h2 h3 hP hD hS (zH_set hL h'))
    · cases h
  · cases h
theorem y_iinc (hexec : p.tables.exec = Jvm.exec) (hb : c.code = cc) {i : Nat} {n : Int} (v : Int32) (hdg : decode cc pc = .ok (.iinc i n, 3)) (hv : Int32.ofInt n = v) : yS p l e R s m args below meth c Q X nL b sb ad0 A H0 res pc (d_iinc (pc + 3) i v) := by
  intro k lsA stA hp hk h ad H locs ls cells slots h1 h2 h3 hP hD hS hL
  unfold d_iinc at h
  split at h
  · rename_i x hx
    obtain ⟨q, hq⟩ := List.getElem?_of_mem ((zL_mem ad lsA i (.int x)).mpr ⟨.inl x, hx, rfl⟩)
    exact lv_iinc hexec hb hdg hL.1 hq (by rw [hv]) (hL.2 ▸ (List.getElem?_eq_some_iff.mp hx).1) rfl (fun ls' h' => hk _ _ _ _ h ad H locs ls' cells slots h1 h2 h3 hP hD hS (zH_set (a := .inl (x + v)) hL h'))
  · cases h
theorem y_goto (hexec : p.tables.exec = Jvm.exec) (hb : c.code = cc) {off : Int} (tgt : Nat) (hdg : decode cc pc = .ok (.goto off, 3)) (ht : (pc : Int) + off = (tgt : Int)) : yS p l e R s m args below meth c Q X nL b sb ad0 A H0 res pc (d_goto tgt) := by
  intro k lsA stA hp hk h ad H locs ls cells slots h1 h2 h3 hP hD hS hL
  exact lv_goto hexec hb hdg ht (hk _ _ _ _ h ad H locs ls cells slots h1 h2 h3 hP hD hS hL)
theorem y_dup (hexec : p.tables.exec = Jvm.exec) (hb : c.code = cc) (hdg : decode cc pc = .ok (.dup, 1)) : yS p l e R s m args below meth c Q X nL b sb ad0 A H0 res pc (d_dup (pc + 1)) := by
  intro k lsA stA hp hk h ad H locs ls cells slots h1 h2 h3 hP hD hS hL
  unfold d_dup at h
  split at h
  · exact lv_dup hexec hb hdg (zv_cat _ _) (hk _ _ _ _ h ad H locs ls cells slots h1 h2 h3 hP hD hS hL)
  · cases h
theorem y_if_le (hexec : p.tables.exec = Jvm.exec) (hb : c.code = cc) {off : Int} (tgt : Nat) (hdg : decode cc pc = .ok (.ifCond .le off, 3)) (ht : (pc : Int) + off = (tgt : Int)) : yS p l e R s m args below meth c Q X nL b sb ad0 A H0 res pc (d_if_le (pc + 3) tgt) := by
  intro k lsA stA hp hk h ad H locs ls cells slots h1 h2 h3 hP hD hS hL
  unfold d_if_le at h
  split at h
  · refine lv_if_le hexec hb hdg ht (fun q => ?_) (fun q => ?_)
    · rw [if_pos q] at h
      exact hk _ _ _ _ h ad H locs ls cells slots h1 h2 h3 hP hD hS hL
    · rw [if_neg q] at h
      exact hk _ _ _ _ h ad H locs ls cells slots h1 h2 h3 hP hD hS hL
  · cases h
theorem y_c_ge (hexec : p.tables.exec = Jvm.exec) (hb : c.code = cc) {off : Int} (tgt : Nat) (hdg : decode cc pc = .ok (.if_icmp .ge off, 3)) (ht : (pc : Int) + off = (tgt : Int)) : yS p l e R s m args below meth c Q X nL b sb ad0 A H0 res pc (d_c_ge (pc + 3) tgt) := by
  intro k lsA stA hp hk h ad H locs ls cells slots h1 h2 h3 hP hD hS hL
  unfold d_c_ge at h
  split at h
  · refine lv_icmp_ge hexec hb hdg ht (fun q => ?_) (fun q => ?_)
    · rw [if_pos q] at h
      exact hk _ _ _ _ h ad H locs ls cells slots h1 h2 h3 hP hD hS hL
    · rw [if_neg q] at h
      exact hk _ _ _ _ h ad H locs ls cells slots h1 h2 h3 hP hD hS hL
  · cases h
theorem dE_obj (X : XC) (ad : Nat → Nat) {q : DE} {ci : Nat} (h : q.1 = ci) (hc : ci < 10) : dE X ad q = .inr (ci, q.2.map (zv ad)) := by
  unfold dE
  rw [if_neg (by omega), if_neg (by omega), if_neg (by omega), h]
theorem dE_int (X : XC) (ad : Nat → Nat) {q : DE} (h : q.1 = 10) : dE X ad q = .inl (X.2.2.1, q.2.length, .inl (fun i => dI (q.2.getD i (.inl 0)))) := by
  unfold dE
  rw [if_pos h]
theorem dE_ref (X : XC) (ad : Nat → Nat) {q : DE} (h : q.1 = 12) : dE X ad q = .inl (X.2.2.2.2, q.2.length, .inr (.inr (.inr (.inr (fun i => (dRf (q.2.getD i (.inr none))).map ad))))) := by
  unfold dE
  rw [if_neg (by omega), if_neg (by omega), if_pos h]
theorem y_get (hexec : p.tables.exec = Jvm.exec) (hb : c.code = cc) (hts : ∀ w ∈ Ts, w.before args s = true) (hown : s.vm.findClass own = some m.cls) (hK : zK X s) {C : String} {T : u_T} {N ci index : Nat} (hC : zCl ci C T N) (hin : ∀ w ∈ u_ws C T N, w ∈ Ts) (j : Nat) (hj : j < N) (hlink : (Cond.fieldLink own index C (T j).2.1 (T j).2.2.1) ∈ Ts) (hs : (T j).1 = C) (hdg : decode cc pc = .ok (.getfield index, 3)) : yS p l e R s m args below meth c Q X nL b sb ad0 A H0 res pc (d_get (pc + 3) ci j) := by
  intro k lsA stA hp hk h ad H locs ls cells slots h1 h2 h3 hP hD hS hL
  unfold d_get at h
  split at h
  · rename_i c0 st'
    split at h
    · rename_i q hq
      split at h
      · rename_i hci
        split at h
        · rename_i v hv
          have he := dW_at X ad hq
          rw [dE_obj X ad hci hC.2.2] at he
          exact va_get (D := X.1) (ci := ci) (C := C) (T := T) (N := N) hexec hb hts hin hown hK.1 hP c0 he hC.1 j hj (hts _ hlink) (fun x hx => by rw [hs] at hx; exact hx) (by rw [List.getElem?_map, hv]; rfl) hdg (hk _ _ _ _ h ad H locs ls cells slots h1 h2 h3 hP hD hS hL)
        · cases h
      · cases h
    · cases h
  · cases h
theorem yput (hexec : p.tables.exec = Jvm.exec) (hb : c.code = cc) (hts : ∀ w ∈ Ts, w.before args s = true) (hown : s.vm.findClass own = some m.cls) (hK : zK X s) {C : String} {T : u_T} {N ci index : Nat} (hC : zCl ci C T N) (hin : ∀ w ∈ u_ws C T N, w ∈ Ts) (ty0 : Nat → FieldType) (hty : ∀ k, k < N → parseFieldDescriptor (T k).2.2.1 = some (ty0 k)) (hnm : ∀ a, a < N → ∀ b, b < N → a ≠ b → (T a).2.1 ≠ (T b).2.1) (j : Nat) (hj : j < N) (hlink : (Cond.fieldLink own index C (T j).2.1 (T j).2.2.1) ∈ Ts) (hs : (T j).1 = C) (hfin : (T j).2.2.2 = false ∨ ((T j).2.2.2 = true ∧ meth.name = "<init>" ∧ (T j).1 = own)) {ty : FieldType} (hd : parseFieldDescriptor (T j).2.2.1 = some ty) (hdg : decode cc pc = .ok (.putfield index, 3))
    {H : Heap} {locs : List Loc} {hp : DH} {q : DE} {ad : Nat → Nat} {c0 cells slots : Nat} {v : AV} {ls : Array Slot} {rest : List Value} (hq : hp[c0]? = some q) (hci : q.1 = ci) (hjl : j < q.2.length) (hP : va_P X.1 vwCl (dW X ad hp) H) (hD : va_D A (dW X ad hp)) (hS : va_S A H0 H locs) (hn : narrow ty (zv ad v) = zv ad v) (hfit : fits ty (zv ad v) = true)
    (kk : ∀ (H1 : Heap) (locs1 : List Loc), va_P X.1 vwCl (dW X ad (hp.set c0 (q.1, q.2.set j v))) H1 → va_D A (dW X ad (hp.set c0 (q.1, q.2.set j v))) → va_S A H0 H1 locs1 → W p l e R s m args below meth c H1 locs1 cells slots Q (F0 m (pc + 3) ls rest)) : W p l e R s m args below meth c H locs cells slots Q (F0 m pc ls (zv ad v :: .ref (ad c0) :: rest)) := by
  have he := dW_at X ad hq
  rw [dE_obj X ad hci hC.2.2] at he
  have hl : c0 < hp.length := (List.getElem?_eq_some_iff.mp hq).1
  have e1 : (dW X ad hp).set c0 (ad c0, .inr (ci, (q.2.map (zv ad)).set j (zv ad v))) = dW X ad (hp.set c0 (q.1, q.2.set j v)) := by
    rw [← dW_set X ad hl, dE_obj X ad (q := (q.1, q.2.set j v)) hci hC.2.2, List.map_set]
  rcases hfin with hfin | ⟨hfin, hinit, hdecl⟩
  · refine va_put (D := X.1) (ci := ci) (C := C) (T := T) (N := N) hexec hb hts hin ty0 hty hnm hown hK.1 hP hD hS c0 he hC.1 j hj (hts _ hlink) (fun x hx => by rw [hs] at hx; exact hx) hfin hd hn hfit (by rw [List.length_map]; exact hjl) hdg (fun H1 locs1 hP1 hD1 hS1 => ?_)
    rw [e1] at hP1 hD1
    exact kk H1 locs1 hP1 hD1 hS1
  · refine va_putF (D := X.1) (ci := ci) (C := C) (T := T) (N := N) hexec hb hts hin ty0 hty hnm hown hK.1 hP hD hS c0 he hC.1 j hj (hts _ hlink) (fun x hx => by rw [hs] at hx; exact hx) hfin hinit hdecl hd hn hfit (by rw [List.length_map]; exact hjl) hdg (fun H1 locs1 hP1 hD1 hS1 => ?_)
    rw [e1] at hP1 hD1
    exact kk H1 locs1 hP1 hD1 hS1
theorem y_putI (hexec : p.tables.exec = Jvm.exec) (hb : c.code = cc) (hts : ∀ w ∈ Ts, w.before args s = true) (hown : s.vm.findClass own = some m.cls) (hK : zK X s) {C : String} {T : u_T} {N ci index : Nat} (hC : zCl ci C T N) (hin : ∀ w ∈ u_ws C T N, w ∈ Ts) (ty0 : Nat → FieldType) (hty : ∀ k, k < N → parseFieldDescriptor (T k).2.2.1 = some (ty0 k)) (hnm : ∀ a, a < N → ∀ b, b < N → a ≠ b → (T a).2.1 ≠ (T b).2.1) (j : Nat) (hj : j < N) (hlink : (Cond.fieldLink own index C (T j).2.1 (T j).2.2.1) ∈ Ts) (hs : (T j).1 = C) (hfin : (T j).2.2.2 = false ∨ ((T j).2.2.2 = true ∧ meth.name = "<init>" ∧ (T j).1 = own)) (hd : parseFieldDescriptor (T j).2.2.1 = some .int) (hdg : decode cc pc = .ok (.putfield index, 3)) : yS p l e R s m args below meth c Q X nL b sb ad0 A H0 res pc (d_putI (pc + 3) ci j) := by
  intro k lsA stA hp hk h ad H locs ls cells slots h1 h2 h3 hP hD hS hL
  unfold d_putI at h
  split at h
  · rename_i x c0 st'
    split at h
    · rename_i q hq
      split at h
      · rename_i hci
        exact yput (v := .inl x) hexec hb hts hown hK hC hin ty0 hty hnm j hj hlink hs hfin hd hdg hq hci.1 hci.2 hP hD hS rfl rfl (fun H1 locs1 hP1 hD1 hS1 => hk _ _ _ _ h ad H1 locs1 ls cells slots (by rw [List.length_set]; exact h1) (by rw [dsl_set hq _ (by rw [List.length_set])]; exact h2) h3 hP1 hD1 hS1 hL)
      · cases h
    · cases h
  · cases h
theorem zref_ok {ad : Nat → Nat} {r : Option Nat} {ty : FieldType} (hty : (∃ n, ty = .object n) ∨ ∃ t, ty = .array t) : narrow ty (zv ad (.inr r)) = zv ad (.inr r) ∧ fits ty (zv ad (.inr r)) = true := by
  rcases hty with ⟨n, rfl⟩ | ⟨t, rfl⟩ <;> cases r <;> exact ⟨rfl, rfl⟩
theorem y_putR (hexec : p.tables.exec = Jvm.exec) (hb : c.code = cc) (hts : ∀ w ∈ Ts, w.before args s = true) (hown : s.vm.findClass own = some m.cls) (hK : zK X s) {C : String} {T : u_T} {N ci index : Nat} (hC : zCl ci C T N) (hin : ∀ w ∈ u_ws C T N, w ∈ Ts) (ty0 : Nat → FieldType) (hty : ∀ k, k < N → parseFieldDescriptor (T k).2.2.1 = some (ty0 k)) (hnm : ∀ a, a < N → ∀ b, b < N → a ≠ b → (T a).2.1 ≠ (T b).2.1) (j : Nat) (hj : j < N) (hlink : (Cond.fieldLink own index C (T j).2.1 (T j).2.2.1) ∈ Ts) (hs : (T j).1 = C) (hfin : (T j).2.2.2 = false ∨ ((T j).2.2.2 = true ∧ meth.name = "<init>" ∧ (T j).1 = own)) (ty : FieldType) (hd : parseFieldDescriptor (T j).2.2.1 = some ty) (hr : (∃ n, ty = .object n) ∨ ∃ t, ty = .array t) (hdg : decode cc pc = .ok (.putfield index, 3)) : yS p l e R s m args below meth c Q X nL b sb ad0 A H0 res pc (d_putR (pc + 3) ci j) := by
  intro k lsA stA hp hk h ad H locs ls cells slots h1 h2 h3 hP hD hS hL
  unfold d_putR at h
  split at h
  · rename_i x c0 st'
    split at h
    · rename_i q hq
      split at h
      · rename_i hci
        exact yput (v := .inr x) hexec hb hts hown hK hC hin ty0 hty hnm j hj hlink hs hfin hd hdg hq hci.1 hci.2 hP hD hS (zref_ok hr).1 (zref_ok hr).2 (fun H1 locs1 hP1 hD1 hS1 => hk _ _ _ _ h ad H1 locs1 ls cells slots (by rw [List.length_set]; exact h1) (by rw [dsl_set hq _ (by rw [List.length_set])]; exact h2) h3 hP1 hD1 hS1 hL)
      · cases h
    · cases h
  · cases h
theorem y_len (hexec : p.tables.exec = Jvm.exec) (hb : c.code = cc) (hK : zK X s) (hdg : decode cc pc = .ok (.arraylength, 1)) : yS p l e R s m args below meth c Q X nL b sb ad0 A H0 res pc (d_len (pc + 1)) := by
  intro k lsA stA hp hk h ad H locs ls cells slots h1 h2 h3 hP hD hS hL
  unfold d_len at h
  split at h
  · rename_i c0 st'
    split at h
    · rename_i q hq
      split at h
      · rename_i hci
        have he := dW_at X ad hq
        rw [dE_int X ad hci] at he
        exact va_alen hexec hb hK.1 hP c0 0 he (ty := .int) rfl rfl hdg (hk _ _ _ _ h ad H locs ls cells slots h1 h2 h3 hP hD hS hL)
      · cases h
    · cases h
  · cases h
theorem y_iast (hexec : p.tables.exec = Jvm.exec) (hb : c.code = cc) (hK : zK X s) (hdg : decode cc pc = .ok (.iastore, 1)) : yS p l e R s m args below meth c Q X nL b sb ad0 A H0 res pc (d_iast (pc + 1)) := by
  intro k lsA stA hp hk h ad H locs ls cells slots h1 h2 h3 hP hD hS hL
  unfold d_iast at h
  split at h
  · rename_i x i c0 st'
    split at h
    · rename_i q hq
      split at h
      · rename_i hci
        split at h
        · cases h
        · rename_i hin
          have he := dW_at X ad hq
          rw [dE_int X ad hci] at he
          have hl : c0 < hp.length := (List.getElem?_eq_some_iff.mp hq).1
          refine va_iast hexec hb hK.1 hP hD hS c0 0 he rfl hin hdg (fun H1 locs1 hP1 hD1 hS1 => ?_)
          have hlt : i.toNatClampNeg < q.2.length := by omega
          have e1 : (dW X ad hp).set c0 (ad c0, .inl (X.2.2.1, q.2.length, .inl (upd (fun i => dI (q.2.getD i (.inl 0))) i.toNatClampNeg x))) = dW X ad (hp.set c0 (q.1, q.2.set i.toNatClampNeg (.inl x))) := by
            rw [← dW_set X ad hl, dE_int X ad (q := (q.1, q.2.set i.toNatClampNeg (.inl x))) hci]
            have e2 : upd (fun i => dI (q.2.getD i (.inl 0))) i.toNatClampNeg x = fun j => dI ((q.2.set i.toNatClampNeg (.inl x)).getD j (.inl 0)) := by
              funext j
              rw [List.getD_eq_getElem?_getD, List.getElem?_set]
              by_cases hj : i.toNatClampNeg = j
              · subst hj
                rw [if_pos rfl, if_pos hlt]
                simp [upd, dI]
              · rw [if_neg hj]
                simp [upd, Ne.symm hj, List.getD_eq_getElem?_getD]
            rw [e2, List.length_set]
          rw [e1] at hP1 hD1
          exact hk _ _ _ _ h ad H1 locs1 ls cells slots (by rw [List.length_set]; exact h1) (by rw [dsl_set hq _ (by rw [List.length_set])]; exact h2) h3 hP1 hD1 hS1 hL
      · cases h
    · cases h
  · cases h
theorem y_aast (hexec : p.tables.exec = Jvm.exec) (hb : c.code = cc) (hK : zK X s) (hdg : decode cc pc = .ok (.aastore, 1)) : yS p l e R s m args below meth c Q X nL b sb ad0 A H0 res pc (d_aast (pc + 1)) := by
  intro k lsA stA hp hk h ad H locs ls cells slots h1 h2 h3 hP hD hS hL
  unfold d_aast at h
  split at h
  · rename_i v i c0 st'
    split at h
    · rename_i q w hq hw
      split at h
      · rename_i hci
        split at h
        · cases h
        · rename_i hin
          have he := dW_at X ad hq
          rw [dE_ref X ad hci.1] at he
          have hv := dW_at X ad hw
          rw [dE_obj X ad hci.2 (by decide)] at hv
          have hl : c0 < hp.length := (List.getElem?_eq_some_iff.mp hq).1
          refine va_astq (r := (RX5, TX5, 13)) hexec hb hK.1 hP hD hS c0 2 v 5 he rfl hv rfl hin hdg (fun H1 locs1 hP1 hD1 hS1 => ?_)
          have hlt : i.toNatClampNeg < q.2.length := by omega
          have e1 : (dW X ad hp).set c0 (ad c0, .inl (X.2.2.2.2, q.2.length, .inr (.inr (.inr (.inr (va_up (fun i => (dRf (q.2.getD i (.inr none))).map ad) i.toNatClampNeg (some (ad v)))))))) = dW X ad (hp.set c0 (q.1, q.2.set i.toNatClampNeg (.inr (some v)))) := by
            rw [← dW_set X ad hl, dE_ref X ad (q := (q.1, q.2.set i.toNatClampNeg (.inr (some v)))) hci.1]
            have e2 : va_up (fun i => (dRf (q.2.getD i (.inr none))).map ad) i.toNatClampNeg (some (ad v)) = fun j => (dRf ((q.2.set i.toNatClampNeg (.inr (some v))).getD j (.inr none))).map ad := by
              funext j
              rw [List.getD_eq_getElem?_getD, List.getElem?_set]
              by_cases hj : i.toNatClampNeg = j
              · subst hj
                rw [if_pos rfl, if_pos hlt]
                simp [va_up, dRf]
              · rw [if_neg hj]
                simp [va_up, Ne.symm hj, List.getD_eq_getElem?_getD]
            rw [e2, List.length_set]
          rw [e1] at hP1 hD1
          exact hk _ _ _ _ h ad H1 locs1 ls cells slots (by rw [List.length_set]; exact h1) (by rw [dsl_set hq _ (by rw [List.length_set])]; exact h2) h3 hP1 hD1 hS1 hL
      · cases h
    · cases h
  · cases h
theorem wfA_spec {ls : List (Option AV)} {st : List AV} {hp : DH} (h : wfA ls st hp = true) : wfh hp = true ∧ wfl hp.length ls = true ∧ wfs hp.length st = true := by
  unfold wfA at h
  rw [Bool.and_eq_true, Bool.and_eq_true] at h
  exact ⟨h.1.1, h.1.2, h.2⟩
theorem up_old (ad : Nat → Nat) (n q : Nat) : ∀ i, i < n → va_up ad n q i = ad i := fun i hi => by unfold va_up; rw [if_neg (by omega)]
theorem up_new (ad : Nat → Nat) (n q : Nat) : zv (va_up ad n q) (.inr (some n)) = .ref q := by
  show Value.ref (va_up ad n q n) = _
  unfold va_up
  rw [if_pos rfl]
theorem y_new (hexec : p.tables.exec = Jvm.exec) (hb : c.code = cc) (hts : ∀ w ∈ Ts, w.before args s = true) (hown : s.vm.findClass own = some m.cls) (hK : zK X s) {C : String} {T : u_T} {N ci index : Nat} (hC : zCl ci C T N) (hin : ∀ w ∈ u_ws C T N, w ∈ Ts) (ty : Nat → FieldType) (hty : ∀ k, k < N → parseFieldDescriptor (T k).2.2.1 = some (ty k)) (hcl : Cond.classLink own index C ∈ Ts) (hinst : Cond.instantiable C N ∈ Ts) (hini : Cond.initialized C ∈ Ts) (dv : List AV) (hw : ∀ n, wfs n dv = true) (hlen : dv.length = N) (hfs : ∀ (ad : Nat → Nat) j, j < N → defaultValue (ty j) = vp_V (dv.map (zv ad)) j) {lc lsl : Nat} (hlc : lc ≤ b + R.cells) (hls : lsl ≤ sb + R.slots) (hA : ∀ q, H0.size ≤ q → A q) (hdg : decode cc pc = .ok (.new index, 3)) : yS p l e R s m args below meth c Q X nL b sb ad0 A H0 res pc (d_new (pc + 3) ci dv lc lsl) := by
  intro k lsA stA hp hk h ad H locs ls cells slots h1 h2 h3 hP hD hS hL
  unfold d_new at h
  split at h
  · rename_i hg
    obtain ⟨hwf, hl1, hl2⟩ := hg
    obtain ⟨w1, w2, w3⟩ := wfA_spec hwf
    refine va_new (D := X.1) (ci := ci) (fs := dv.map (zv ad)) (C := C) (T := T) (N := N) hexec hb hts hin ty hty hown (hts _ hcl) (hts _ hinst) (hts _ hini) hK.1 hP hD hS hA hC.1 (hfs ad) (by omega) (by omega) hdg (fun q H1 hP1 hD1 hS1 => ?_)
    have e1 := dW_push X ad (ci, dv) q w1 (hw _)
    rw [dE_obj X ad (q := (ci, dv)) rfl hC.2.2] at e1
    rw [e1] at hP1 hD1
    have ha := up_old ad hp.length q
    have h5 := hk _ _ _ _ h (va_up ad hp.length q) H1 locs ls (cells + 1) (slots + N) (by rw [List.length_append]; show cells + 1 + b = hp.length + 1; omega) (by rw [dsl_push]; show slots + N + sb = dsl hp + dv.length; omega) (fun i hi => by rw [ha i (by omega)]; exact h3 i hi) hP1 hD1 hS1 (zL_wf w2 ha hL)
    rw [List.map_cons, up_new, zvs_wf w3 ha] at h5
    exact h5
  · cases h
theorem y_newa (hexec : p.tables.exec = Jvm.exec) (hb : c.code = cc) (hts : ∀ w ∈ Ts, w.before args s = true) (hK : zK X s) (atype : ArrayType) (ty : FieldType) (kd t0 : Nat) (hk0 : (kd = 10 ∧ ty = .int ∧ t0 = 0) ∨ (kd = 11 ∧ ty = .boolean ∧ t0 = 1)) (hat : newarray.typeOf atype = ty) (harr : Cond.arrayClass (newarray.typeOf atype) ∈ Ts) {lc lsl : Nat} (hlc : lc ≤ b + R.cells) (hls : lsl ≤ sb + R.slots) (hA : ∀ q, H0.size ≤ q → A q) (hdg : decode cc pc = .ok (.newarray atype, 2)) : yS p l e R s m args below meth c Q X nL b sb ad0 A H0 res pc (d_newa (pc + 2) kd (.inl 0) lc lsl) := by
  intro k lsA stA hp hk h ad H locs ls cells slots h1 h2 h3 hP hD hS hL
  unfold d_newa at h
  split at h
  · rename_i n st'
    split at h
    · cases h
    · rename_i hn
      split at h
      · rename_i hg
        obtain ⟨hwf, hl1, hl2, hl3⟩ := hg
        obtain ⟨w1, w2, w3⟩ := wfA_spec hwf
        refine va_newa (D := X.1) (cl := vwCl) (tys := zT X) (a0 := (n.toNatClampNeg, .inl (fun _ => 0))) hexec hb (hts _ harr) hat hK.1 hP hD hS hA (fun cA => ?_) hn rfl ?_ (by omega) (by omega) hdg (fun q cA H1 hK1 hP1 hD1 hS1 => ?_)
        · rw [vp_cell_i]
          rcases hk0 with ⟨-, rfl, -⟩ | ⟨-, rfl, -⟩ <;> rfl
        · have hc : componentBytes ty ≤ 4 := by rcases hk0 with ⟨-, rfl, -⟩ | ⟨-, rfl, -⟩ <;> decide
          exact Nat.le_trans (Nat.mul_le_mul_left _ hc) hl3
        · have hcA : cA = (if kd = 10 then X.2.2.1 else X.2.2.2.1) := by
            have r1 := (hK1.2 3 (cA, ty) rfl).2
            rcases hk0 with ⟨rfl, rfl, -⟩ | ⟨rfl, rfl, -⟩
            · have r2 := (hK.1.2 0 (X.2.2.1, .int) rfl).2
              exact Option.some.inj (r1.symm.trans r2)
            · have r2 := (hK.1.2 1 (X.2.2.2.1, .boolean) rfl).2
              exact Option.some.inj (r1.symm.trans r2)
          have hdE : dE X ad (kd, List.replicate n.toNatClampNeg (.inl 0)) = .inl (cA, n.toNatClampNeg, .inl (fun _ => 0)) := by
            have ez : (fun i => dI ((List.replicate n.toNatClampNeg (Sum.inl 0 : AV)).getD i (.inl 0))) = fun _ => (0 : Int32) := by
              funext i
              rw [List.getD_eq_getElem?_getD, List.getElem?_replicate]
              split <;> rfl
            rcases hk0 with ⟨rfl, -, -⟩ | ⟨rfl, -, -⟩
            · unfold dE
              rw [if_pos rfl]
              show Sum.inl (X.2.2.1, (List.replicate n.toNatClampNeg (Sum.inl 0 : AV)).length, Sum.inl (fun i => dI ((List.replicate n.toNatClampNeg (Sum.inl 0 : AV)).getD i (.inl 0)))) = _
              rw [ez, List.length_replicate, hcA]
              rfl
            · unfold dE
              rw [if_neg (fun h9 : (11 : Nat) = 10 => by omega), if_pos rfl]
              show Sum.inl (X.2.2.2.1, (List.replicate n.toNatClampNeg (Sum.inl 0 : AV)).length, Sum.inl (fun i => dI ((List.replicate n.toNatClampNeg (Sum.inl 0 : AV)).getD i (.inl 0)))) = _
              rw [ez, List.length_replicate, hcA]
              rfl
          have hwr : wfs hp.length (List.replicate n.toNatClampNeg (.inl 0 : AV)) = true := List.all_eq_true.mpr (fun v hv => by rw [(List.mem_replicate.mp hv).2]; rfl)
          have e1 := dW_push X ad (kd, List.replicate n.toNatClampNeg (.inl 0)) q w1 hwr
          rw [hdE] at e1
          rw [e1] at hP1 hD1
          have ha := up_old ad hp.length q
          have h5 := hk _ _ _ _ h (va_up ad hp.length q) H1 locs ls (cells + 1) (slots + n.toNatClampNeg) (by rw [List.length_append]; show cells + 1 + b = hp.length + 1; omega) (by rw [dsl_push, List.length_replicate]; omega) (fun i hi => by rw [ha i (by omega)]; exact h3 i hi) hP1 hD1 hS1 (zL_wf w2 ha hL)
          rw [List.map_cons, up_new, zvs_wf w3 ha] at h5
          exact h5
      · cases h
  · cases h
theorem y_newq (hexec : p.tables.exec = Jvm.exec) (hb : c.code = cc) (hts : ∀ w ∈ Ts, w.before args s = true) (hown : s.vm.findClass own = some m.cls) (hK : zK X s) {index : Nat} (hcl : Cond.classLink own index "VoiceForm$Slot" ∈ Ts) (hover : va_AO "VoiceForm$Slot" s) {lc lsl : Nat} (hlc : lc ≤ b + R.cells) (hls : lsl ≤ sb + R.slots) (hA : ∀ q, H0.size ≤ q → A q) (hdg : decode cc pc = .ok (.anewarray index, 3)) : yS p l e R s m args below meth c Q X nL b sb ad0 A H0 res pc (d_newa (pc + 3) 12 (.inr none) lc lsl) := by
  intro k lsA stA hp hk h ad H locs ls cells slots h1 h2 h3 hP hD hS hL
  unfold d_newa at h
  split at h
  · rename_i n st'
    split at h
    · cases h
    · rename_i hn
      split at h
      · rename_i hg
        obtain ⟨hwf, hl1, hl2, hl3⟩ := hg
        obtain ⟨w1, w2, w3⟩ := wfA_spec hwf
        refine va_newq (D := X.1) (cl := vwCl) (tys := zT X) hexec hb hown (hts _ hcl) hover hK.1 hP hD hS hA hn rfl hl3 (by omega) (by omega) hdg (fun q cA H1 hK1 hP1 hD1 hS1 => ?_)
        have hcA : cA = X.2.2.2.2 := by
          obtain ⟨_, _, -, -, -, r1⟩ := (hK1.2 3 (cA, .object "VoiceForm$Slot") rfl).2
          obtain ⟨_, _, -, -, -, r2⟩ := (hK.1.2 2 (X.2.2.2.2, .object "VoiceForm$Slot") rfl).2
          exact Option.some.inj (r1.symm.trans r2)
        have hdE : dE X ad (12, List.replicate n.toNatClampNeg (.inr none)) = .inl (cA, n.toNatClampNeg, .inr (.inr (.inr (.inr (fun _ => none))))) := by
          have ez : (fun i => (dRf ((List.replicate n.toNatClampNeg (Sum.inr none : AV)).getD i (.inr none))).map ad) = fun _ => (none : Option Nat) := by
            funext i
            rw [List.getD_eq_getElem?_getD, List.getElem?_replicate]
            split <;> rfl
          rw [dE_ref X ad rfl]
          show Sum.inl (X.2.2.2.2, (List.replicate n.toNatClampNeg (Sum.inr none : AV)).length, Sum.inr (Sum.inr (Sum.inr (Sum.inr (fun i => (dRf ((List.replicate n.toNatClampNeg (Sum.inr none : AV)).getD i (.inr none))).map ad))))) = _
          rw [ez, List.length_replicate, hcA]
        have hwr : wfs hp.length (List.replicate n.toNatClampNeg (.inr none : AV)) = true := List.all_eq_true.mpr (fun v hv => by rw [(List.mem_replicate.mp hv).2]; rfl)
        have e1 := dW_push X ad (12, List.replicate n.toNatClampNeg (.inr none)) q w1 hwr
        rw [hdE] at e1
        rw [e1] at hP1 hD1
        have ha := up_old ad hp.length q
        have h5 := hk _ _ _ _ h (va_up ad hp.length q) H1 locs ls (cells + 1) (slots + n.toNatClampNeg) (by rw [List.length_append]; show cells + 1 + b = hp.length + 1; omega) (by rw [dsl_push, List.length_replicate]; omega) (fun i hi => by rw [ha i (by omega)]; exact h3 i hi) hP1 hD1 hS1 (zL_wf w2 ha hL)
        rw [List.map_cons, up_new, zvs_wf w3 ha] at h5
        exact h5
      · cases h
  · cases h
theorem y_obj (hexec : p.tables.exec = Jvm.exec) (hb : c.code = cc) (hts : ∀ w ∈ Ts, w.before args s = true) (hml : c.maxLocals = nL) (hown : s.vm.findClass own = some m.cls) {idx : Nat} (hlink : Cond.methodLink own idx Lib.objectInit ∈ Ts) (hinst : Cond.instanceMethod Lib.objectInit ∈ Ts) (hcode : Cond.code Lib.objectInit ⟨#[0xb1]⟩ 1 none ∈ Ts) (hR : 1 ≤ R.frames ∧ 20 ≤ R.locals) (hdg : decode cc pc = .ok (.invokespecial idx, 3)) : yS p l e R s m args below meth c Q X nL b sb ad0 A H0 res pc (d_obj (pc + 3)) := by
  intro k lsA stA hp hk h ad H locs ls cells slots h1 h2 h3 hP hD hS hL
  unfold d_obj at h
  split at h
  · rename_i c0 st'
    split at h
    · rename_i hlen
      refine W.objInit hexec hb hown (hts _ hlink) (hts _ hinst) (hts _ hcode) rfl (by rw [hml]; exact hL.1.1) rfl hdg hR.1 ?_ ?_
      · show 2 * 0 + ((st'.map (zv ad)).map fun v => v.category).sum + 12 ≤ R.locals
        rw [zv_cats]
        omega
      · exact hk _ _ _ _ h ad H locs ls cells slots h1 h2 h3 hP hD hS hL
    · cases h
  · cases h
theorem dA_in {H : Heap} {locs : List Loc} {ad : Nat → Nat} {hp : DH} (hA : ∀ q, H0.size ≤ q → A q) (hD : va_D A (dW X ad hp)) (hS : va_S A H0 H locs) : ∀ q, dA ad hp H.size q → A q := by
  rintro q (⟨i, hi, rfl⟩ | h)
  · have he := dW_at X ad (List.getElem?_eq_getElem hi)
    exact hD.2 i _ he
  · exact hA q (Nat.le_trans hS.1 h)
theorem ycall {mc ms cells slots : Nat} {H : Heap} {locs : List Loc} {ls : Array Slot} {st0 rest : List Value} {a : Array Value} {ad : Nat → Nat} {hp hp' : DH} (hA : ∀ q, H0.size ≤ q → A q) (hr : va_Run p l e R s m args below meth c H locs cells slots mc ms (F0 m pc ls st0) rest (yQ X ad hp hp' H.size a) (dA ad hp H.size)) (hD : va_D A (dW X ad hp)) (hS : va_S A H0 H locs)
    (kk : ∀ (ad' : Nat → Nat) (H1 : Heap) (locs1 : List Loc), (∀ i, i < hp.length → ad' i = ad i) → va_P X.1 vwCl (dW X ad' hp') H1 → va_D A (dW X ad' hp') → va_S A H0 H1 locs1 → W p l e R s m args below meth c H1 locs1 (cells + mc) (slots + ms) Q (F0 m (pc + 3) ls rest)) : W p l e R s m args below meth c H locs cells slots Q (F0 m pc ls st0) := by
  have hZ := dA_in hA hD hS
  intro T hT XX
  obtain ⟨v1, st₀, t, T', L, h0, X', hL, e1, e2, ⟨⟨ad', ha, hv, hP1, hD1, hK1⟩, hz, hk⟩, st⟩ := hr T hT XX
  have hv' : v1 = none := Outcome.returned.inj hv
  subst hv'
  rw [h0] at hz hk
  obtain ⟨t2, a1, b1⟩ := kk ad' T'.heap (locs ++ L) ha (by rw [e1]; exact hP1) (hD1.weaken (fun _ q _ h => hZ q.1 h))
    ⟨Nat.le_trans hS.1 (by rw [e1]; exact hz), fun q h1 h2 => by rw [e1, hk q (Nat.lt_of_lt_of_le h1 hS.1) (fun z => h2 (hZ q z))]; exact hS.2.1 q h1 h2, fun q hq => by
      rcases List.mem_append.mp hq with h | h
      · exact hS.2.2 q h
      · exact hZ _ (hL q h)⟩ T' rfl X'
  exact ⟨t2, st t2 a1, b1⟩
theorem yblind {ad : Nat → Nat} {hp : DH} {sz : Nat} {as : List Value} : FrameBlind (va_Pc as (yPre X ad hp sz)) := fun a U g mk q => ⟨q.1, q.2.1, q.2.2.1, q.2.2.2.1, zK.same (u := U) (U := U.calling g mk a) rfl q.2.2.2.2⟩
theorem ycallk {mc ms kk lc lsl nx : Nat} {sem : List AV → DH → Option DH} {y : MethodName} {ws : List Cond} {rm : Room} (hM : yM l X y ws rm mc ms sem) (hK : zK X s) (hA : ∀ q, H0.size ≤ q → A q) (hlc : lc ≤ b + R.cells) (hls : lsl ≤ sb + R.slots) (hnx : nx = pc + 3)
    (hrun : ∀ (ad : Nat → Nat) (H : Heap) (locs : List Loc) (ls : Array Slot) (cells slots : Nat) (stA : List AV) (hp hp' : DH), sem (stA.take kk).reverse hp = some hp' → kk ≤ stA.length → (stA.drop kk).length ≤ 8 → cells + mc ≤ R.cells ∧ slots + ms ≤ R.slots → ls.size = nL → va_P X.1 vwCl (dW X ad hp) H → va_D (fun _ => True) (dW X ad hp) →
      Met l y ws rm (va_Pc ((stA.take kk).reverse.map (zv ad)) (yPre X ad hp H.size)) (yQ X ad hp hp' H.size) mc ms (dA ad hp H.size) → (∀ U : State, U.heap = H → s.WarmedH U.vm → va_Pc ((stA.take kk).reverse.map (zv ad)) (yPre X ad hp H.size) (((stA.take kk).reverse.map (zv ad)).toArray) U) →
      va_Run p l e R s m args below meth c H locs cells slots mc ms (F0 m pc ls (stA.map (zv ad))) ((stA.drop kk).map (zv ad)) (yQ X ad hp hp' H.size ((stA.take kk).reverse.map (zv ad)).toArray) (dA ad hp H.size)) : yS p l e R s m args below meth c Q X nL b sb ad0 A H0 res pc (d_call nx kk sem mc ms lc lsl) := by
  subst hnx
  intro k lsA stA hp hk h ad H locs ls cells slots h1 h2 h3 hP hD hS hL
  unfold d_call at h
  split at h
  · rename_i hg
    obtain ⟨g1, g2, g3, g4, g5, g6⟩ := hg
    obtain ⟨hp', e1, e2⟩ := Option.bind_eq_some_iff.mp h
    obtain ⟨m1, m2, m3⟩ := hM _ hp hp' ad H.size e1
    refine ycall hA (hrun ad H locs ls cells slots stA hp hp' e1 g1 g2 ⟨by omega, by omega⟩ hL.1.1 hP (hD.weaken (fun _ _ _ _ => trivial)) m3 (fun U hU hW => ⟨rfl, by rw [hU], by rw [hU]; exact hP, hD.weaken (fun _ _ _ _ => trivial), zK.warm hW hK⟩)) hD hS (fun ad' H1 locs1 ha hP1 hD1 hS1 => ?_)
    have h5 := hk _ _ _ _ e2 ad' H1 locs1 ls (cells + mc) (slots + ms) (by omega) (by omega) (fun i hi => by rw [ha i (by omega)]; exact h3 i hi) hP1 hD1 hS1 (zL_wf g5 ha hL)
    rw [zvs_wf g6 ha] at h5
    exact h5
  · cases h
theorem take_stack {stA : List AV} {kk : Nat} (ad : Nat → Nat) : stA.map (zv ad) = ((stA.take kk).reverse.map (zv ad)).reverse ++ (stA.drop kk).map (zv ad) := by
  rw [List.map_reverse, List.reverse_reverse, ← List.map_append, List.take_append_drop]
def semI (sem : List AV → DH → Option DH) : List AV → DH → Option DH := fun as hp => match as with
  | .inr (some c0) :: as' => sem (.inr (some c0) :: as') hp
  | _ => none
def semV (ci : Nat) (sem : List AV → DH → Option DH) : List AV → DH → Option DH := fun as hp => match as with
  | .inr (some c0) :: as' => (match hp[c0]? with
    | some q => if q.1 = ci then sem (.inr (some c0) :: as') hp else none
    | none => none)
  | _ => none
theorem yMsI {mc ms : Nat} {sem : List AV → DH → Option DH} {y : MethodName} {ws : List Cond} {rm : Room} (hM : yM l X y ws rm mc ms sem) : yM l X y ws rm mc ms (semI sem) := by
  intro as hp hp' ad sz h
  unfold semI at h
  split at h
  · exact hM _ hp hp' ad sz h
  · cases h
theorem yMsV {mc ms ci : Nat} {sem : List AV → DH → Option DH} {y : MethodName} {ws : List Cond} {rm : Room} (hM : yM l X y ws rm mc ms sem) : yM l X y ws rm mc ms (semV ci sem) := by
  intro as hp hp' ad sz h
  unfold semV at h
  split at h
  · split at h
    · split at h
      · exact hM _ hp hp' ad sz h
      · cases h
    · cases h
  · cases h
/-- a constructor is called -/
theorem y_callI (hexec : p.tables.exec = Jvm.exec) (hb : c.code = cc) (hts : ∀ w ∈ Ts, w.before args s = true) (hml : c.maxLocals = nL) (hown : s.vm.findClass own = some m.cls) (hK : zK X s) (hA : ∀ q, H0.size ≤ q → A q) {mc ms lc lsl index n : Nat} (hlc : lc ≤ b + R.cells) (hls : lsl ≤ sb + R.slots) {sem : List AV → DH → Option DH} {y : MethodName} {ws : List Cond} {rm : Room} (hM : yM l X y ws rm mc ms sem) {bytes : ByteArray} {maxL : Nat} (cw : CallB R s args own index y bytes maxL none ws rm mc ms n ∧ y.name = "<init>" ∧ (Cond.instanceMethod y).before args s = true) (hdg : decode cc pc = .ok (.invokespecial index, 3)) : yS p l e R s m args below meth c Q X nL b sb ad0 A H0 res pc (d_call (pc + 3) (n + 1) (semI sem) mc ms lc lsl) := by
  refine ycallk (kk := n + 1) (yMsI hM) hK hA hlc hls rfl (fun ad H locs ls cells slots stB hp1 hp' he g1 g2 g3 g4 hP hD hMet hPre => ?_)
  unfold semI at he
  split at he
  · rename_i c0 as' hst
    have hlen : as'.length = n := by
      have h9 := congrArg List.length hst
      rw [List.length_reverse, List.length_take] at h9
      simp only [List.length_cons] at h9
      omega
    have hstk : stB.map (zv ad) = (as'.map (zv ad)).reverse ++ Value.ref (ad c0) :: (stB.drop (n + 1)).map (zv ad) := by
      rw [take_stack ad (kk := n + 1), hst, List.map_cons, List.reverse_cons, List.append_assoc]
      rfl
    rw [hst] at hMet hPre ⊢
    exact va_runI (As := as'.map (zv ad)) (rest := (stB.drop (n + 1)).map (zv ad)) ⟨hexec, hb, hml, hown, hts⟩ hMet cw ⟨yblind, hPre⟩ rfl (by rw [List.length_map]; exact hlen) g4 hstk (lv_room (by rw [zv_cats]; exact g2)) hdg g3
  · cases he
theorem y_callV (hexec : p.tables.exec = Jvm.exec) (hb : c.code = cc) (hts : ∀ w ∈ Ts, w.before args s = true) (hml : c.maxLocals = nL) (hown : s.vm.findClass own = some m.cls) (hK : zK X s) (hA : ∀ q, H0.size ≤ q → A q) {mc ms lc lsl index n ci : Nat} (hlc : lc ≤ b + R.cells) (hls : lsl ≤ sb + R.slots) {C : String} {T : u_T} {N : Nat} (hC : zCl ci C T N) {sem : List AV → DH → Option DH} {y : MethodName} {ws : List Cond} {rm : Room} (hM : yM l X y ws rm mc ms sem) {bytes : ByteArray} {maxL : Nat} {ret : Option FieldType} (cw : CallW R s args own C index y bytes maxL ret ws rm mc ms n) (hdg : decode cc pc = .ok (.invokevirtual index, 3)) : yS p l e R s m args below meth c Q X nL b sb ad0 A H0 res pc (d_call (pc + 3) (n + 1) (semV ci sem) mc ms lc lsl) := by
  refine ycallk (kk := n + 1) (yMsV hM) hK hA hlc hls rfl (fun ad H locs ls cells slots stB hp1 hp' he g1 g2 g3 g4 hP hD hMet hPre => ?_)
  unfold semV at he
  split at he
  · rename_i c0 as' hst
    split at he
    · rename_i q hq
      split at he
      · rename_i hci
        have hlen : as'.length = n := by
          have h9 := congrArg List.length hst
          rw [List.length_reverse, List.length_take] at h9
          simp only [List.length_cons] at h9
          omega
        have hstk : stB.map (zv ad) = (as'.map (zv ad)).reverse ++ Value.ref (ad c0) :: (stB.drop (n + 1)).map (zv ad) := by
          rw [take_stack ad (kk := n + 1), hst, List.map_cons, List.reverse_cons, List.append_assoc]
          rfl
        have hw := dW_at X ad hq
        rw [dE_obj X ad hci hC.2.2] at hw
        rw [hst] at hMet hPre ⊢
        exact va_runV (As := as'.map (zv ad)) (rest := (stB.drop (n + 1)).map (zv ad)) ⟨hexec, hb, hml, hown, hts⟩ hMet cw ⟨yblind, va_recv hK.1 hP (ci := ci) (q0 := c0) hC.1 hw, hPre⟩ rfl (by rw [List.length_map]; exact hlen) g4 hstk (lv_room (by rw [zv_cats]; exact g2)) hdg g3
      · cases he
    · cases he
  · cases he
theorem y_callS (hexec : p.tables.exec = Jvm.exec) (hb : c.code = cc) (hts : ∀ w ∈ Ts, w.before args s = true) (hml : c.maxLocals = nL) (hown : s.vm.findClass own = some m.cls) (hK : zK X s) (hA : ∀ q, H0.size ≤ q → A q) {mc ms lc lsl index n : Nat} (hlc : lc ≤ b + R.cells) (hls : lsl ≤ sb + R.slots) {sem : List AV → DH → Option DH} {y : MethodName} {ws : List Cond} {rm : Room} (hM : yM l X y ws rm mc ms sem) {bytes : ByteArray} {maxL : Nat} {ret : Option FieldType} (cw : CallB R s args own index y bytes maxL ret ws rm mc ms n ∧ (Cond.static y).before args s = true) (hdg : decode cc pc = .ok (.invokestatic index, 3)) : yS p l e R s m args below meth c Q X nL b sb ad0 A H0 res pc (d_call (pc + 3) n sem mc ms lc lsl) := by
  refine ycallk (kk := n) hM hK hA hlc hls rfl (fun ad H locs ls cells slots stB hp1 hp' he g1 g2 g3 g4 hP hD hMet hPre => ?_)
  exact va_runS (As := (stB.take n).reverse.map (zv ad)) (rest := (stB.drop n).map (zv ad)) ⟨hexec, hb, hml, hown, hts⟩ hMet cw ⟨yblind, hPre⟩ rfl (by rw [List.length_map, List.length_reverse, List.length_take]; omega) g4 (take_stack ad) (lv_room (by rw [zv_cats]; exact g2)) hdg g3
theorem y_vret {hp0 : DH} {mc ms : Nat} (hexec : p.tables.exec = Jvm.exec) (hb : c.code = cc) (hr : meth.sig.returnType = none) (hK : zK X s) (hlocks : meth.locks = false) (hb1 : res.length = hp0.length + mc) (hb2 : dsl res = dsl hp0 + ms) (hdg : decode cc pc = .ok (.return_, 1)) : yS p l e R s m args below meth c (MQ below (yQ X ad0 hp0 res s.heap.size) args s mc ms (dA ad0 hp0 s.heap.size)) X nL hp0.length (dsl hp0) ad0 (dA ad0 hp0 s.heap.size) s.heap res pc d_vret := by
  intro k lsA stA hp hk h ad H locs ls cells slots h1 h2 h3 hP hD hS hL
  unfold d_vret at h
  split at h
  · have h := Option.some.inj h
    subst h
    obtain rfl : cells = mc := by omega
    obtain rfl : slots = ms := by omega
    exact W.vret hexec hb hr (fun t ht hW => ⟨⟨ad, h3, rfl, by rw [ht]; exact hP, hD, zK.warm hW hK⟩, hS.F ht⟩) hS.2.2 hdg
  · cases h
end MK
def ylook (L : List (Nat × DA)) (pc : Nat) : Option DA := match L with
  | [] => none
  | q :: L => if pc = q.1 then some q.2 else ylook L pc
theorem ylook_mem {L : List (Nat × DA)} {pc : Nat} {a : DA} (h : ylook L pc = some a) : (pc, a) ∈ L := by
  induction L with
  | nil => cases h
  | cons q L ih =>
    unfold ylook at h
    split at h
    · rename_i hq
      have := Option.some.inj h
      subst this
      subst hq
      exact List.mem_cons_self
    · exact List.mem_cons_of_mem _ (ih h)
/-- a constructor's meaning: its table, run from its first instruction; it makes mc cells of ms places -/
def ysem (tab : Nat → Nat → List (Nat × DA)) (maxL F nA mc ms : Nat) : List AV → DH → Option DH := fun as hp =>
  if as.length ≤ nA then (match drun (ylook (tab (hp.length + mc) (dsl hp + ms))) F 0 (as.map some ++ List.replicate (maxL - as.length) none) [] hp with
    | some hp' => if hp'.length = hp.length + mc ∧ dsl hp' = dsl hp + ms then some hp' else none
    | none => none) else none
theorem yMet {l : Launch} {X : XC} {y : MethodName} {ws ws' : List Cond} {rm : Room} {cc : ByteArray} {maxL : Nat} {ret : Option FieldType} (tab : Nat → Nat → List (Nat × DA)) (F nA mc ms : Nat) (hy : plainName y.cls = true) (hw : ws = Cond.code y cc maxL ret :: ws') (hn : nA ≤ maxL)
    (h : ∀ (p : Program) (e : Env) (s : State) (m : MethodId) (args : Array Value) (below : List Frame) (meth : Method) (c : Code) (res hp0 : DH) (ad0 : Nat → Nat), zC X y ws cc maxL ret p s m args meth c → (y.name = "<init>" → meth.name = "<init>") → res.length = hp0.length + mc → dsl res = dsl hp0 + ms → (∀ q, s.heap.size ≤ q → dA ad0 hp0 s.heap.size q) → ∀ q ∈ tab (hp0.length + mc) (dsl hp0 + ms), yS p l e (headSpec ws rm).room s m args below meth c (MQ below (yQ X ad0 hp0 res s.heap.size) args s mc ms (dA ad0 hp0 s.heap.size)) X maxL hp0.length (dsl hp0) ad0 (dA ad0 hp0 s.heap.size) s.heap res q.1 q.2) : yM l X y ws rm mc ms (ysem tab maxL F nA mc ms) := by
  intro as hp hp' ad sz hsem
  unfold ysem at hsem
  split at hsem
  · rename_i hlen
    split at hsem
    · rename_i hp1 hd
      split at hsem
      · rename_i hc
        obtain rfl := Option.some.inj hsem
        refine ⟨hc.1, hc.2, Met.ofW (cc := cc) (maxL := maxL) (ret := ret) hy hw ?_⟩
        intro p e s m args below meth c s₁ B hml hv
        obtain ⟨rfl, rfl, hP, hD, hK⟩ := hv
        have hl := zH_entry ad as (n := maxL) (Nat.le_trans hlen hn)
        rw [lg_entry_eq]
        have hC : zC X y ws cc maxL ret p s m (as.map (zv ad)).toArray meth c := ⟨B.exec, B.bytes, B.returns, atoms_spec (ws := ws) B.pre, findClass_of_methodNamed B.named, hml, B.notSynchronized, hK⟩
        have hin : y.name = "<init>" → meth.name = "<init>" := fun e9 => by rw [← e9]; exact (name_of_methodNamed B.named B.method).1
        have hD' : va_D (dA ad hp s.heap.size) (dW X ad hp) := by
          refine ⟨hD.1, fun k q hk => ?_⟩
          have hkl : k < hp.length := by
            have := (List.getElem?_eq_some_iff.mp hk).1
            rwa [dW_len] at this
          have h9 := dW_at X ad (List.getElem?_eq_getElem hkl)
          rw [h9] at hk
          have := Option.some.inj hk
          subst this
          exact Or.inl ⟨k, hkl, rfl⟩
        exact yrun (ylook (tab (hp.length + mc) (dsl hp + ms))) (fun pc a ha => h p e s m _ below meth c hp1 hp ad hC hin hc.1 hc.2 (fun q hq => Or.inr hq) _ (ylook_mem ha)) F 0 _ [] hp hd ad s.heap [] _ 0 0 (by omega) (by omega) (fun _ _ => rfl) hP hD' va_S.rf hl
      · cases hsem
    · cases hsem
  · cases hsem
