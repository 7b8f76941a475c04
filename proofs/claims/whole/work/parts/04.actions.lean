/-! The actions, and that each is sound: 'zS pc a' says that at pc the action a is what the method's instruction does. -/
def a_next (nx : Nat) (f : List AV → Option (List AV)) : AI := fun k ls st M => match f st with
  | some st' => k nx ls st' M
  | none => none
def a_push (nx : Nat) (v : AV) : AI := fun k ls st M => k nx ls (v :: st) M
def a_bin (nx : Nat) (f : Int32 → Int32 → Int32) : AI := fun k ls st M => match st with
  | .inl y :: .inl x :: st' => k nx ls (.inl (f x y) :: st') M
  | _ => none
def a_div (nx : Nat) : AI := fun k ls st M => match st with
  | .inl y :: .inl x :: st' => if y = 0 then none else k nx ls (.inl (x / y) :: st') M
  | _ => none
def a_rem (nx : Nat) : AI := fun k ls st M => match st with
  | .inl y :: .inl x :: st' => if y = 0 then none else k nx ls (.inl (x - x / y * y) :: st') M
  | _ => none
def a_iload (nx i : Nat) : AI := fun k ls st M => match ls[i]? with
  | some (some (.inl x)) => k nx ls (.inl x :: st) M
  | _ => none
def a_aload (nx i : Nat) : AI := fun k ls st M => match ls[i]? with
  | some (some (.inr r)) => k nx ls (.inr r :: st) M
  | _ => none
def a_istore (nx i : Nat) : AI := fun k ls st M => match st with
  | .inl x :: st' => if i < ls.length then k nx (ls.set i (some (.inl x))) st' M else none
  | _ => none
def a_astore (nx i : Nat) : AI := fun k ls st M => match st with
  | .inr r :: st' => if i < ls.length then k nx (ls.set i (some (.inr r))) st' M else none
  | _ => none
def a_iinc (nx i : Nat) (n : Int32) : AI := fun k ls st M => match ls[i]? with
  | some (some (.inl x)) => k nx (ls.set i (some (.inl (x + n)))) st M
  | _ => none
def a_goto (t : Nat) : AI := fun k ls st M => k t ls st M
def a_dup (nx : Nat) : AI := fun k ls st M => match st with
  | v :: st' => k nx ls (v :: v :: st') M
  | _ => none
def a_dup2 (nx : Nat) : AI := fun k ls st M => match st with
  | v :: w :: st' => k nx ls (v :: w :: v :: w :: st') M
  | _ => none
def a_pop (nx : Nat) : AI := fun k ls st M => match st with
  | _ :: st' => k nx ls st' M
  | _ => none
def a_if_eq (nx t : Nat) : AI := fun k ls st M => match st with
  | .inl x :: st' => if x = 0 then k t ls st' M else k nx ls st' M
  | _ => none
def a_if_ne (nx t : Nat) : AI := fun k ls st M => match st with
  | .inl x :: st' => if x = 0 then k nx ls st' M else k t ls st' M
  | _ => none
def a_if_lt (nx t : Nat) : AI := fun k ls st M => match st with
  | .inl x :: st' => if x < 0 then k t ls st' M else k nx ls st' M
  | _ => none
def a_if_ge (nx t : Nat) : AI := fun k ls st M => match st with
  | .inl x :: st' => if 0 ≤ x then k t ls st' M else k nx ls st' M
  | _ => none
def a_if_gt (nx t : Nat) : AI := fun k ls st M => match st with
  | .inl x :: st' => if 0 < x then k t ls st' M else k nx ls st' M
  | _ => none
def a_if_le (nx t : Nat) : AI := fun k ls st M => match st with
  | .inl x :: st' => if x ≤ 0 then k t ls st' M else k nx ls st' M
  | _ => none
def a_c_eq (nx t : Nat) : AI := fun k ls st M => match st with
  | .inl y :: .inl x :: st' => if x = y then k t ls st' M else k nx ls st' M
  | _ => none
def a_c_ne (nx t : Nat) : AI := fun k ls st M => match st with
  | .inl y :: .inl x :: st' => if x = y then k nx ls st' M else k t ls st' M
  | _ => none
def a_c_lt (nx t : Nat) : AI := fun k ls st M => match st with
  | .inl y :: .inl x :: st' => if x < y then k t ls st' M else k nx ls st' M
  | _ => none
def a_c_ge (nx t : Nat) : AI := fun k ls st M => match st with
  | .inl y :: .inl x :: st' => if y ≤ x then k t ls st' M else k nx ls st' M
  | _ => none
def a_c_gt (nx t : Nat) : AI := fun k ls st M => match st with
  | .inl y :: .inl x :: st' => if y < x then k t ls st' M else k nx ls st' M
  | _ => none
def a_c_le (nx t : Nat) : AI := fun k ls st M => match st with
  | .inl y :: .inl x :: st' => if x ≤ y then k t ls st' M else k nx ls st' M
  | _ => none
def a_null (nx t : Nat) : AI := fun k ls st M => match st with
  | .inr none :: st' => k t ls st' M
  | .inr (some _) :: st' => k nx ls st' M
  | _ => none
def a_nonnull (nx t : Nat) : AI := fun k ls st M => match st with
  | .inr none :: st' => k nx ls st' M
  | .inr (some _) :: st' => k t ls st' M
  | _ => none
def a_switch (cs : List (Int32 × Nat)) (d : Nat) : AI := fun k ls st M => match st with
  | .inl x :: st' => cs.foldr (fun q r => if x = q.1 then k q.2 ls st' M else r) (k d ls st' M)
  | _ => none
def a_getI (nx ci j : Nat) : AI := fun k ls st M => match st with
  | .inr (some c) :: st' => if zkd c = ci then k nx ls (.inl (M c j) :: st') M else none
  | _ => none
def a_getR (nx ci : Nat) (f : Nat → Nat) : AI := fun k ls st M => match st with
  | .inr (some c) :: st' => if zkd c = ci then k nx ls (.inr (some (f c)) :: st') M else none
  | _ => none
def a_put (nx ci j : Nat) : AI := fun k ls st M => match st with
  | .inl x :: .inr (some c) :: st' => if zkd c = ci then k nx ls st' (st2 M c j x) else none
  | _ => none
def a_putZ (nx ci j : Nat) : AI := fun k ls st M => match st with
  | .inl x :: .inr (some c) :: st' => if zkd c = ci then (if x = 0 ∨ x = 1 then k nx ls st' (st2 M c j x) else none) else none
  | _ => none
def a_ald (nx kd : Nat) : AI := fun k ls st M => match st with
  | .inl i :: .inr (some c) :: st' => if zkd c = kd then (if i < 0 ∨ zln c ≤ i.toNatClampNeg then none else k nx ls (.inl (M c i.toNatClampNeg) :: st') M) else none
  | _ => none
def a_aald (nx : Nat) : AI := fun k ls st M => match st with
  | .inl i :: .inr (some c) :: st' => if c = 6 then (if i < 0 ∨ 12 ≤ i.toNatClampNeg then none else k nx ls (.inr (some (i.toNatClampNeg + 44)) :: st') M) else none
  | _ => none
def a_ast (nx : Nat) : AI := fun k ls st M => match st with
  | .inl x :: .inl i :: .inr (some c) :: st' => if zkd c = 10 then (if i < 0 ∨ zln c ≤ i.toNatClampNeg then none else k nx ls st' (st2 M c i.toNatClampNeg x)) else none
  | _ => none
def a_zst (nx : Nat) : AI := fun k ls st M => match st with
  | .inl x :: .inl i :: .inr (some c) :: st' => if zkd c = 11 then (if i < 0 ∨ zln c ≤ i.toNatClampNeg then none else (if x = 0 ∨ x = 1 then k nx ls st' (st2 M c i.toNatClampNeg x) else none)) else none
  | _ => none
def a_len (nx : Nat) : AI := fun k ls st M => match st with
  | .inr (some c) :: st' => if 10 ≤ zkd c ∧ zkd c ≤ 12 then k nx ls (.inl (Int32.ofNat (zln c)) :: st') M else none
  | _ => none
def a_callV (nx n ci : Nat) (sem : List AV → MM → Option AR) : AI := fun k ls st M => match st.drop n with
  | .inr (some c) :: st' => if zkd c = ci then (if st'.length ≤ 8 then (sem (.inr (some c) :: (st.take n).reverse) M).bind (fun r => k nx ls (r.1.toList ++ st') r.2) else none) else none
  | _ => none
def a_callS (nx n : Nat) (sem : List AV → MM → Option AR) : AI := fun k ls st M =>
  if n ≤ st.length then (if (st.drop n).length ≤ 8 then (sem (st.take n).reverse M).bind (fun r => k nx ls (r.1.toList ++ st.drop n) r.2) else none) else none
def a_min (nx : Nat) : AI := fun k ls st M => match st with
  | .inl y :: .inl x :: st' => if st'.length ≤ 8 then k nx ls (.inl (if y < x then y else x) :: st') M else none
  | _ => none
def a_max (nx : Nat) : AI := fun k ls st M => match st with
  | .inl y :: .inl x :: st' => if st'.length ≤ 8 then k nx ls (.inl (if x < y then y else x) :: st') M else none
  | _ => none
def a_iret : AI := fun _ _ st M => match st with
  | [.inl x] => some (some (.inl x), M)
  | _ => none
def a_zret : AI := fun _ _ st M => match st with
  | [.inl x] => if x = 0 ∨ x = 1 then some (some (.inl x), M) else none
  | _ => none
def a_aret : AI := fun _ _ st M => match st with
  | [.inr r] => some (some (.inr r), M)
  | _ => none
def a_vret : AI := fun _ _ st M => match st with
  | [] => some (none, M)
  | _ => none
section ACT
variable {p : Program} {l : Launch} {e : Env} {R : Room} {s : State} {m : MethodId} {args : Array Value} {below : List Frame} {meth : Method} {c : Code} {cells slots : Nat} {Q : State → Prop}
variable {X : XC} {nL : Nat} {A : Nat → Prop} {H0 : Heap} {cc : ByteArray} {pc : Nat} {res : AR}
/-- the machine stands at pc -/
def zG (p : Program) (l : Launch) (e : Env) (R : Room) (s : State) (m : MethodId) (args : Array Value) (below : List Frame) (meth : Method) (c : Code) (cells slots : Nat) (Q : State → Prop) (X : XC) (nL : Nat) (A : Nat → Prop) (H0 : Heap) (pc : Nat) (lsA : List (Option AV)) (stA : List AV) (M : MM) : Prop :=
  ∀ (H : Heap) (locs : List Loc) (ls : Array Slot), zI X M H → va_S A H0 H locs → zH X.2.1 nL lsA ls → W p l e R s m args below meth c H locs cells slots Q (F0 m pc ls (stA.map (zv X.2.1)))
def zS (p : Program) (l : Launch) (e : Env) (R : Room) (s : State) (m : MethodId) (args : Array Value) (below : List Frame) (meth : Method) (c : Code) (cells slots : Nat) (Q : State → Prop) (X : XC) (nL : Nat) (A : Nat → Prop) (H0 : Heap) (res : AR) (pc : Nat) (a : AI) : Prop :=
  ∀ (k : KT) (lsA : List (Option AV)) (stA : List AV) (M : MM), (∀ pc' lsA' stA' M', k pc' lsA' stA' M' = some res → zG p l e R s m args below meth c cells slots Q X nL A H0 pc' lsA' stA' M') → a k lsA stA M = some res → zG p l e R s m args below meth c cells slots Q X nL A H0 pc lsA stA M
theorem zrun (tab : Nat → Option AI) (h : ∀ pc a, tab pc = some a → zS p l e R s m args below meth c cells slots Q X nL A H0 res pc a) : ∀ (n pc : Nat) (lsA : List (Option AV)) (stA : List AV) (M : MM), mrun tab n pc lsA stA M = some res → zG p l e R s m args below meth c cells slots Q X nL A H0 pc lsA stA M := by
  intro n
  induction n with
  | zero => intro pc lsA stA M h; cases h
  | succ n ih =>
    intro pc lsA stA M h1
    unfold mrun at h1
    split at h1
    · rename_i a ha
      exact h pc a ha _ lsA stA M ih h1
    · cases h1
theorem s_push (v : AV) (nx : Nat) (hx : ∀ (H : Heap) (locs : List Loc) (ls : Array Slot) (rest : List Value), W p l e R s m args below meth c H locs cells slots Q (F0 m nx ls (zv X.2.1 v :: rest)) → W p l e R s m args below meth c H locs cells slots Q (F0 m pc ls rest)) : zS p l e R s m args below meth c cells slots Q X nL A H0 res pc (a_push nx v) := by
  intro k lsA stA M hk h H locs ls hI hS hL
  exact hx H locs ls _ (hk _ _ _ _ h H locs ls hI hS hL)
theorem s_iconst (hexec : p.tables.exec = Jvm.exec) (hb : c.code = cc) {n : Int} (v : Int32) (hdg : decode cc pc = .ok (.iconst n, 1)) (hv : Int32.ofInt n = v) : zS p l e R s m args below meth c cells slots Q X nL A H0 res pc (a_push (pc + 1) (.inl v)) :=
  s_push _ _ fun _ _ _ _ h => lv_iconst hexec hb hdg hv h
theorem s_bipush (hexec : p.tables.exec = Jvm.exec) (hb : c.code = cc) {n : Int} (v : Int32) (hdg : decode cc pc = .ok (.bipush n, 2)) (hv : (Int8.ofInt n).toInt32 = v) : zS p l e R s m args below meth c cells slots Q X nL A H0 res pc (a_push (pc + 2) (.inl v)) :=
  s_push _ _ fun _ _ _ _ h => lv_bipush hexec hb hdg hv h
theorem s_sipush (hexec : p.tables.exec = Jvm.exec) (hb : c.code = cc) {n : Int} (v : Int32) (hdg : decode cc pc = .ok (.sipush n, 3)) (hv : (Int16.ofInt n).toInt32 = v) : zS p l e R s m args below meth c cells slots Q X nL A H0 res pc (a_push (pc + 3) (.inl v)) :=
  s_push _ _ fun _ _ _ _ h => lv_sipush hexec hb hdg hv h
theorem s_ldc (hexec : p.tables.exec = Jvm.exec) (hb : c.code = cc) {own : String} {index : Nat} (v : Int32) (hown : s.vm.findClass own = some m.cls) (hconst : (Jvm.Cond.constant own index v).before args s = true) (hdg : decode cc pc = .ok (.ldc index, 2)) : zS p l e R s m args below meth c cells slots Q X nL A H0 res pc (a_push (pc + 2) (.inl v)) :=
  s_push _ _ fun _ _ _ _ h => lv_ldc hexec hb hown hconst hdg h
theorem s_bin (f : Int32 → Int32 → Int32) (nx : Nat) (hx : ∀ (H : Heap) (locs : List Loc) (ls : Array Slot) (rest : List Value) (x y : Int32), W p l e R s m args below meth c H locs cells slots Q (F0 m nx ls (.int (f x y) :: rest)) → W p l e R s m args below meth c H locs cells slots Q (F0 m pc ls (.int y :: .int x :: rest))) : zS p l e R s m args below meth c cells slots Q X nL A H0 res pc (a_bin nx f) := by
  intro k lsA stA M hk h H locs ls hI hS hL
  unfold a_bin at h
  split at h
  · exact hx H locs ls _ _ _ (hk _ _ _ _ h H locs ls hI hS hL)
  · cases h
theorem s_iadd (hexec : p.tables.exec = Jvm.exec) (hb : c.code = cc) (hdg : decode cc pc = .ok (.iadd, 1)) : zS p l e R s m args below meth c cells slots Q X nL A H0 res pc (a_bin (pc + 1) (fun x y => x + y)) :=
  s_bin _ _ fun _ _ _ _ _ _ h => lv_iadd hexec hb hdg h
theorem s_isub (hexec : p.tables.exec = Jvm.exec) (hb : c.code = cc) (hdg : decode cc pc = .ok (.isub, 1)) : zS p l e R s m args below meth c cells slots Q X nL A H0 res pc (a_bin (pc + 1) (fun x y => x - y)) :=
  s_bin _ _ fun _ _ _ _ _ _ h => lv_isub hexec hb hdg h
theorem s_imul (hexec : p.tables.exec = Jvm.exec) (hb : c.code = cc) (hdg : decode cc pc = .ok (.imul, 1)) : zS p l e R s m args below meth c cells slots Q X nL A H0 res pc (a_bin (pc + 1) (fun x y => x * y)) :=
  s_bin _ _ fun _ _ _ _ _ _ h => lv_imul hexec hb hdg h
theorem s_ior (hexec : p.tables.exec = Jvm.exec) (hb : c.code = cc) (hdg : decode cc pc = .ok (.ior, 1)) : zS p l e R s m args below meth c cells slots Q X nL A H0 res pc (a_bin (pc + 1) (fun x y => x ||| y)) :=
  s_bin _ _ fun _ _ _ _ _ _ h => lv_ior hexec hb hdg h
theorem s_iand (hexec : p.tables.exec = Jvm.exec) (hb : c.code = cc) (hdg : decode cc pc = .ok (.iand, 1)) : zS p l e R s m args below meth c cells slots Q X nL A H0 res pc (a_bin (pc + 1) (fun x y => x &&& y)) :=
  s_bin _ _ fun _ _ _ _ _ _ h => lv_iand hexec hb hdg h
theorem s_ishl (hexec : p.tables.exec = Jvm.exec) (hb : c.code = cc) (hdg : decode cc pc = .ok (.ishl, 1)) : zS p l e R s m args below meth c cells slots Q X nL A H0 res pc (a_bin (pc + 1) (fun x y => x <<< (y &&& 31))) :=
  s_bin _ _ fun _ _ _ _ _ _ h => lv_ishl hexec hb hdg h
theorem s_idiv (hexec : p.tables.exec = Jvm.exec) (hb : c.code = cc) (hdg : decode cc pc = .ok (.idiv, 1)) : zS p l e R s m args below meth c cells slots Q X nL A H0 res pc (a_div (pc + 1)) := by
  intro k lsA stA M hk h H locs ls hI hS hL
  unfold a_div at h
  split at h
  · split at h
    · cases h
    · rename_i hne
      exact lv_idiv hexec hb hdg hne (hk _ _ _ _ h H locs ls hI hS hL)
  · cases h
theorem s_irem (hexec : p.tables.exec = Jvm.exec) (hb : c.code = cc) (hdg : decode cc pc = .ok (.irem, 1)) : zS p l e R s m args below meth c cells slots Q X nL A H0 res pc (a_rem (pc + 1)) := by
  intro k lsA stA M hk h H locs ls hI hS hL
  unfold a_rem at h
  split at h
  · split at h
    · cases h
    · rename_i hne
      exact lv_irem hexec hb hdg hne (hk _ _ _ _ h H locs ls hI hS hL)
  · cases h
theorem s_iload_n (hexec : p.tables.exec = Jvm.exec) (hb : c.code = cc) {i : Fin 4} (j : Nat) (hdg : decode cc pc = .ok (.iload_n i, 1)) (hi : (i : Nat) = j) : zS p l e R s m args below meth c cells slots Q X nL A H0 res pc (a_iload (pc + 1) j) := by
  intro k lsA stA M hk h H locs ls hI hS hL
  unfold a_iload at h
  split at h
  · rename_i x hx
    exact lv_iload_n hexec hb hdg hi (zH_at hL hx) (hk _ _ _ _ h H locs ls hI hS hL)
  · cases h
theorem s_iload (hexec : p.tables.exec = Jvm.exec) (hb : c.code = cc) {j : Nat} (hdg : decode cc pc = .ok (.iload j, 2)) : zS p l e R s m args below meth c cells slots Q X nL A H0 res pc (a_iload (pc + 2) j) := by
  intro k lsA stA M hk h H locs ls hI hS hL
  unfold a_iload at h
  split at h
  · rename_i x hx
    exact lv_iload hexec hb hdg (zH_at hL hx) (hk _ _ _ _ h H locs ls hI hS hL)
  · cases h
theorem s_aload_n (hexec : p.tables.exec = Jvm.exec) (hb : c.code = cc) {i : Fin 4} (j : Nat) (hdg : decode cc pc = .ok (.aload_n i, 1)) (hi : (i : Nat) = j) : zS p l e R s m args below meth c cells slots Q X nL A H0 res pc (a_aload (pc + 1) j) := by
  intro k lsA stA M hk h H locs ls hI hS hL
  unfold a_aload at h
  split at h
  · rename_i r hx
    rcases r with _ | r
    · exact lv_aload_nN hexec hb hdg hi (zH_at hL hx) (hk _ _ _ _ h H locs ls hI hS hL)
    · exact lv_aload_n hexec hb hdg hi (zH_at hL hx) (hk _ _ _ _ h H locs ls hI hS hL)
  · cases h
theorem s_aload (hexec : p.tables.exec = Jvm.exec) (hb : c.code = cc) {j : Nat} (hdg : decode cc pc = .ok (.aload j, 2)) : zS p l e R s m args below meth c cells slots Q X nL A H0 res pc (a_aload (pc + 2) j) := by
  intro k lsA stA M hk h H locs ls hI hS hL
  unfold a_aload at h
  split at h
  · rename_i r hx
    rcases r with _ | r
    · exact lv_aloadN hexec hb hdg (zH_at hL hx) (hk _ _ _ _ h H locs ls hI hS hL)
    · exact lv_aload hexec hb hdg (zH_at hL hx) (hk _ _ _ _ h H locs ls hI hS hL)
  · cases h
theorem s_istore_n (hexec : p.tables.exec = Jvm.exec) (hb : c.code = cc) {i : Fin 4} (j : Nat) (hdg : decode cc pc = .ok (.istore_n i, 1)) (hi : (i : Nat) = j) : zS p l e R s m args below meth c cells slots Q X nL A H0 res pc (a_istore (pc + 1) j) := by
  intro k lsA stA M hk h H locs ls hI hS hL
  unfold a_istore at h
  split at h
  · split at h
    · rename_i hj
      exact lv_istore_n hexec hb hdg hi hL.1 (hL.2 ▸ hj) rfl (fun ls' h' => hk _ _ _ _ h H locs ls' hI hS (zH_set hL h'))
    · cases h
  · cases h
theorem s_istore (hexec : p.tables.exec = Jvm.exec) (hb : c.code = cc) {j : Nat} (hdg : decode cc pc = .ok (.istore j, 2)) : zS p l e R s m args below meth c cells slots Q X nL A H0 res pc (a_istore (pc + 2) j) := by
  intro k lsA stA M hk h H locs ls hI hS hL
  unfold a_istore at h
  split at h
  · split at h
    · rename_i hj
      exact lv_istore hexec hb hdg hL.1 (hL.2 ▸ hj) rfl (fun ls' h' => hk _ _ _ _ h H locs ls' hI hS (zH_set hL h'))
    · cases h
  · cases h
theorem s_astore_n (hexec : p.tables.exec = Jvm.exec) (hb : c.code = cc) {i : Fin 4} (j : Nat) (hdg : decode cc pc = .ok (.astore_n i, 1)) (hi : (i : Nat) = j) : zS p l e R s m args below meth c cells slots Q X nL A H0 res pc (a_astore (pc + 1) j) := by
  intro k lsA stA M hk h H locs ls hI hS hL
  unfold a_astore at h
  split at h
  · split at h
    · rename_i r _ hj
      rcases r with _ | r
      · exact lv_astore_nN hexec hb hdg hi hL.1 (hL.2 ▸ hj) rfl (fun ls' h' => hk _ _ _ _ h H locs ls' hI hS (zH_set (a := .inr none) hL h'))
      · exact lv_astore_n hexec hb hdg hi hL.1 (hL.2 ▸ hj) rfl (fun ls' h' => hk _ _ _ _ h H locs ls' hI hS (zH_set (a := .inr (some r)) hL h'))
    · cases h
  · cases h
theorem s_astore (hexec : p.tables.exec = Jvm.exec) (hb : c.code = cc) {j : Nat} (hdg : decode cc pc = .ok (.astore j, 2)) : zS p l e R s m args below meth c cells slots Q X nL A H0 res pc (a_astore (pc + 2) j) := by
  intro k lsA stA M hk h H locs ls hI hS hL
  unfold a_astore at h
  split at h
  · split at h
    · rename_i r _ hj
      rcases r with _ | r
      · exact lv_astoreN hexec hb hdg hL.1 (hL.2 ▸ hj) rfl (fun ls' h' => hk _ _ _ _ h H locs ls' hI hS (zH_set (a := .inr none) hL h'))
      · exact lv_astore hexec hb hdg hL.1 (hL.2 ▸ hj) rfl (fun ls' h' => hk _ _ _ _ h H locs ls' hI hS (zH_set (a := .inr (some r)) hL h'))
    · cases h
  · cases h
theorem s_iinc (hexec : p.tables.exec = Jvm.exec) (hb : c.code = cc) {i : Nat} {n : Int} (v : Int32) (hdg : decode cc pc = .ok (.iinc i n, 3)) (hv : Int32.ofInt n = v) : zS p l e R s m args below meth c cells slots Q X nL A H0 res pc (a_iinc (pc + 3) i v) := by
  intro k lsA stA M hk h H locs ls hI hS hL
  unfold a_iinc at h
  split at h
  · rename_i x hx
    obtain ⟨q, hq⟩ := List.getElem?_of_mem ((zL_mem X.2.1 lsA i (.int x)).mpr ⟨.inl x, hx, rfl⟩)
    exact lv_iinc hexec hb hdg hL.1 hq (by rw [hv]) (hL.2 ▸ (List.getElem?_eq_some_iff.mp hx).1) rfl (fun ls' h' => hk _ _ _ _ h H locs ls' hI hS (zH_set (a := .inl (x + v)) hL h'))
  · cases h
theorem s_goto (hexec : p.tables.exec = Jvm.exec) (hb : c.code = cc) {off : Int} (tgt : Nat) (hdg : decode cc pc = .ok (.goto off, 3)) (ht : (pc : Int) + off = (tgt : Int)) : zS p l e R s m args below meth c cells slots Q X nL A H0 res pc (a_goto tgt) := by
  intro k lsA stA M hk h H locs ls hI hS hL
  exact lv_goto hexec hb hdg ht (hk _ _ _ _ h H locs ls hI hS hL)
theorem s_dup (hexec : p.tables.exec = Jvm.exec) (hb : c.code = cc) (hdg : decode cc pc = .ok (.dup, 1)) : zS p l e R s m args below meth c cells slots Q X nL A H0 res pc (a_dup (pc + 1)) := by
  intro k lsA stA M hk h H locs ls hI hS hL
  unfold a_dup at h
  split at h
  · exact lv_dup hexec hb hdg (zv_cat _ _) (hk _ _ _ _ h H locs ls hI hS hL)
  · cases h
theorem s_dup2 (hexec : p.tables.exec = Jvm.exec) (hb : c.code = cc) (hdg : decode cc pc = .ok (.dup2, 1)) : zS p l e R s m args below meth c cells slots Q X nL A H0 res pc (a_dup2 (pc + 1)) := by
  intro k lsA stA M hk h H locs ls hI hS hL
  unfold a_dup2 at h
  split at h
  · exact lv_dup2_11 hexec hb hdg (zv_cat _ _) (zv_cat _ _) (hk _ _ _ _ h H locs ls hI hS hL)
  · cases h
theorem s_pop (hexec : p.tables.exec = Jvm.exec) (hb : c.code = cc) (hdg : decode cc pc = .ok (.pop, 1)) : zS p l e R s m args below meth c cells slots Q X nL A H0 res pc (a_pop (pc + 1)) := by
  intro k lsA stA M hk h H locs ls hI hS hL
  unfold a_pop at h
  split at h
  · exact lv_pop hexec hb hdg (zv_cat _ _) (hk _ _ _ _ h H locs ls hI hS hL)
  · cases h
theorem s_if_eq (hexec : p.tables.exec = Jvm.exec) (hb : c.code = cc) {off : Int} (tgt : Nat) (hdg : decode cc pc = .ok (.ifCond .eq off, 3)) (ht : (pc : Int) + off = (tgt : Int)) : zS p l e R s m args below meth c cells slots Q X nL A H0 res pc (a_if_eq (pc + 3) tgt) := by
  intro k lsA stA M hk h H locs ls hI hS hL
  unfold a_if_eq at h
  split at h
  · rename_i x _
    refine lv_if_eq hexec hb hdg ht (fun q => ?_) (fun q => ?_)
    · rw [if_pos q] at h
      exact hk _ _ _ _ h H locs ls hI hS hL
    · rw [if_neg q] at h
      exact hk _ _ _ _ h H locs ls hI hS hL
  · cases h
theorem s_if_ne (hexec : p.tables.exec = Jvm.exec) (hb : c.code = cc) {off : Int} (tgt : Nat) (hdg : decode cc pc = .ok (.ifCond .ne off, 3)) (ht : (pc : Int) + off = (tgt : Int)) : zS p l e R s m args below meth c cells slots Q X nL A H0 res pc (a_if_ne (pc + 3) tgt) := by
  intro k lsA stA M hk h H locs ls hI hS hL
  unfold a_if_ne at h
  split at h
  · rename_i x _
    refine lv_if_ne hexec hb hdg ht (fun q => ?_) (fun q => ?_)
    · rw [if_neg q] at h
      exact hk _ _ _ _ h H locs ls hI hS hL
    · rw [if_pos q] at h
      exact hk _ _ _ _ h H locs ls hI hS hL
  · cases h
theorem s_if_lt (hexec : p.tables.exec = Jvm.exec) (hb : c.code = cc) {off : Int} (tgt : Nat) (hdg : decode cc pc = .ok (.ifCond .lt off, 3)) (ht : (pc : Int) + off = (tgt : Int)) : zS p l e R s m args below meth c cells slots Q X nL A H0 res pc (a_if_lt (pc + 3) tgt) := by
  intro k lsA stA M hk h H locs ls hI hS hL
  unfold a_if_lt at h
  split at h
  · rename_i x _
    refine lv_if_lt hexec hb hdg ht (fun q => ?_) (fun q => ?_)
    · rw [if_pos q] at h
      exact hk _ _ _ _ h H locs ls hI hS hL
    · rw [if_neg q] at h
      exact hk _ _ _ _ h H locs ls hI hS hL
  · cases h
theorem s_if_ge (hexec : p.tables.exec = Jvm.exec) (hb : c.code = cc) {off : Int} (tgt : Nat) (hdg : decode cc pc = .ok (.ifCond .ge off, 3)) (ht : (pc : Int) + off = (tgt : Int)) : zS p l e R s m args below meth c cells slots Q X nL A H0 res pc (a_if_ge (pc + 3) tgt) := by
  intro k lsA stA M hk h H locs ls hI hS hL
  unfold a_if_ge at h
  split at h
  · rename_i x _
    refine lv_if_ge hexec hb hdg ht (fun q => ?_) (fun q => ?_)
    · rw [if_pos q] at h
      exact hk _ _ _ _ h H locs ls hI hS hL
    · rw [if_neg q] at h
      exact hk _ _ _ _ h H locs ls hI hS hL
  · cases h
theorem s_if_gt (hexec : p.tables.exec = Jvm.exec) (hb : c.code = cc) {off : Int} (tgt : Nat) (hdg : decode cc pc = .ok (.ifCond .gt off, 3)) (ht : (pc : Int) + off = (tgt : Int)) : zS p l e R s m args below meth c cells slots Q X nL A H0 res pc (a_if_gt (pc + 3) tgt) := by
  intro k lsA stA M hk h H locs ls hI hS hL
  unfold a_if_gt at h
  split at h
  · rename_i x _
    refine lv_if_gt hexec hb hdg ht (fun q => ?_) (fun q => ?_)
    · rw [if_pos q] at h
      exact hk _ _ _ _ h H locs ls hI hS hL
    · rw [if_neg q] at h
      exact hk _ _ _ _ h H locs ls hI hS hL
  · cases h
theorem s_if_le (hexec : p.tables.exec = Jvm.exec) (hb : c.code = cc) {off : Int} (tgt : Nat) (hdg : decode cc pc = .ok (.ifCond .le off, 3)) (ht : (pc : Int) + off = (tgt : Int)) : zS p l e R s m args below meth c cells slots Q X nL A H0 res pc (a_if_le (pc + 3) tgt) := by
  intro k lsA stA M hk h H locs ls hI hS hL
  unfold a_if_le at h
  split at h
  · rename_i x _
    refine lv_if_le hexec hb hdg ht (fun q => ?_) (fun q => ?_)
    · rw [if_pos q] at h
      exact hk _ _ _ _ h H locs ls hI hS hL
    · rw [if_neg q] at h
      exact hk _ _ _ _ h H locs ls hI hS hL
  · cases h
theorem s_c_eq (hexec : p.tables.exec = Jvm.exec) (hb : c.code = cc) {off : Int} (tgt : Nat) (hdg : decode cc pc = .ok (.if_icmp .eq off, 3)) (ht : (pc : Int) + off = (tgt : Int)) : zS p l e R s m args below meth c cells slots Q X nL A H0 res pc (a_c_eq (pc + 3) tgt) := by
  intro k lsA stA M hk h H locs ls hI hS hL
  unfold a_c_eq at h
  split at h
  · rename_i y x _
    refine lv_icmp_eq hexec hb hdg ht (fun q => ?_) (fun q => ?_)
    · rw [if_pos q] at h
      exact hk _ _ _ _ h H locs ls hI hS hL
    · rw [if_neg q] at h
      exact hk _ _ _ _ h H locs ls hI hS hL
  · cases h
theorem s_c_ne (hexec : p.tables.exec = Jvm.exec) (hb : c.code = cc) {off : Int} (tgt : Nat) (hdg : decode cc pc = .ok (.if_icmp .ne off, 3)) (ht : (pc : Int) + off = (tgt : Int)) : zS p l e R s m args below meth c cells slots Q X nL A H0 res pc (a_c_ne (pc + 3) tgt) := by
  intro k lsA stA M hk h H locs ls hI hS hL
  unfold a_c_ne at h
  split at h
  · rename_i y x _
    refine lv_icmp_ne hexec hb hdg ht (fun q => ?_) (fun q => ?_)
    · rw [if_neg q] at h
      exact hk _ _ _ _ h H locs ls hI hS hL
    · rw [if_pos q] at h
      exact hk _ _ _ _ h H locs ls hI hS hL
  · cases h
theorem s_c_lt (hexec : p.tables.exec = Jvm.exec) (hb : c.code = cc) {off : Int} (tgt : Nat) (hdg : decode cc pc = .ok (.if_icmp .lt off, 3)) (ht : (pc : Int) + off = (tgt : Int)) : zS p l e R s m args below meth c cells slots Q X nL A H0 res pc (a_c_lt (pc + 3) tgt) := by
  intro k lsA stA M hk h H locs ls hI hS hL
  unfold a_c_lt at h
  split at h
  · rename_i y x _
    refine lv_icmp_lt hexec hb hdg ht (fun q => ?_) (fun q => ?_)
    · rw [if_pos q] at h
      exact hk _ _ _ _ h H locs ls hI hS hL
    · rw [if_neg q] at h
      exact hk _ _ _ _ h H locs ls hI hS hL
  · cases h
theorem s_c_ge (hexec : p.tables.exec = Jvm.exec) (hb : c.code = cc) {off : Int} (tgt : Nat) (hdg : decode cc pc = .ok (.if_icmp .ge off, 3)) (ht : (pc : Int) + off = (tgt : Int)) : zS p l e R s m args below meth c cells slots Q X nL A H0 res pc (a_c_ge (pc + 3) tgt) := by
  intro k lsA stA M hk h H locs ls hI hS hL
  unfold a_c_ge at h
  split at h
  · rename_i y x _
    refine lv_icmp_ge hexec hb hdg ht (fun q => ?_) (fun q => ?_)
    · rw [if_pos q] at h
      exact hk _ _ _ _ h H locs ls hI hS hL
    · rw [if_neg q] at h
      exact hk _ _ _ _ h H locs ls hI hS hL
  · cases h
theorem s_c_gt (hexec : p.tables.exec = Jvm.exec) (hb : c.code = cc) {off : Int} (tgt : Nat) (hdg : decode cc pc = .ok (.if_icmp .gt off, 3)) (ht : (pc : Int) + off = (tgt : Int)) : zS p l e R s m args below meth c cells slots Q X nL A H0 res pc (a_c_gt (pc + 3) tgt) := by
  intro k lsA stA M hk h H locs ls hI hS hL
  unfold a_c_gt at h
  split at h
  · rename_i y x _
    refine lv_icmp_gt hexec hb hdg ht (fun q => ?_) (fun q => ?_)
    · rw [if_pos q] at h
      exact hk _ _ _ _ h H locs ls hI hS hL
    · rw [if_neg q] at h
      exact hk _ _ _ _ h H locs ls hI hS hL
  · cases h
theorem s_c_le (hexec : p.tables.exec = Jvm.exec) (hb : c.code = cc) {off : Int} (tgt : Nat) (hdg : decode cc pc = .ok (.if_icmp .le off, 3)) (ht : (pc : Int) + off = (tgt : Int)) : zS p l e R s m args below meth c cells slots Q X nL A H0 res pc (a_c_le (pc + 3) tgt) := by
  intro k lsA stA M hk h H locs ls hI hS hL
  unfold a_c_le at h
  split at h
  · rename_i y x _
    refine lv_icmp_le hexec hb hdg ht (fun q => ?_) (fun q => ?_)
    · rw [if_pos q] at h
      exact hk _ _ _ _ h H locs ls hI hS hL
    · rw [if_neg q] at h
      exact hk _ _ _ _ h H locs ls hI hS hL
  · cases h
end ACT
