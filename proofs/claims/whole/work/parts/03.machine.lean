/-! A small machine over the cells of the two systems: its actions, and that each is what the instruction does. -/
abbrev AV : Type := Int32 ⊕ Option Nat
abbrev MM : Type := Nat → Nat → Int32
abbrev AR : Type := Option AV × MM
abbrev KT : Type := Nat → List (Option AV) → List AV → MM → Option AR
abbrev AI : Type := KT → List (Option AV) → List AV → MM → Option AR
def zv (ad : Nat → Nat) : AV → Value
  | .inl x => .int x
  | .inr none => .null
  | .inr (some c) => .ref (ad c)
theorem zv_cat (ad : Nat → Nat) (v : AV) : (zv ad v).category = 1 := by
  rcases v with x | _ | c <;> rfl
theorem zv_cats (ad : Nat → Nat) (st : List AV) : ((st.map (zv ad)).map fun v => v.category).sum = st.length := by
  induction st with
  | nil => rfl
  | cons a st ih =>
    show (zv ad a).category + ((st.map (zv ad)).map fun v => v.category).sum = st.length + 1
    rw [ih, zv_cat]
    omega
/-- one place of one cell anew -/
def st2 (M : MM) (c j : Nat) (x : Int32) : MM := fun c' j' => if c' = c then (if j' = j then x else M c' j') else M c' j'
def mrun (tab : Nat → Option AI) : Nat → KT
  | 0 => fun _ _ _ _ => none
  | n + 1 => fun pc ls st M => match tab pc with
    | some a => a (mrun tab n) ls st M
    | none => none
/-! the shape: kinds 0 .. 9 as in vwCl, 10 ints, 11 booleans, 12 references; 99 none -/
def zN : Nat := 68
def zkd : Nat → Nat
  | 0 => 8
  | 1 => 1
  | 2 => 2
  | 3 => 4
  | 4 => 6
  | 5 => 10
  | 6 => 12
  | 7 => 10
  | 8 => 10
  | 9 => 10
  | 10 => 7
  | 11 => 10
  | 12 => 10
  | 13 => 0
  | 14 => 3
  | 15 => 7
  | 16 => 10
  | 17 => 10
  | 18 => 10
  | 19 => 9
  | 20 => 10
  | 21 => 10
  | 22 => 10
  | 23 => 11
  | 24 => 11
  | 25 => 10
  | 26 => 10
  | 27 => 10
  | 28 => 10
  | 29 => 11
  | 30 => 11
  | 31 => 10
  | 32 => 10
  | 33 => 10
  | 34 => 10
  | 35 => 10
  | 36 => 10
  | 37 => 10
  | 38 => 10
  | 39 => 10
  | 40 => 10
  | 41 => 10
  | 42 => 10
  | 43 => 10
  | c + 44 => if c < 12 then 5 else if c < 24 then 10 else 99
def zln : Nat → Nat
  | 5 => 6
  | 6 => 12
  | 7 => 32
  | 8 => 32
  | 9 => 8
  | 11 => 2
  | 12 => 2
  | 16 => 360
  | 17 => 360
  | 18 => 20
  | 20 => 12
  | 21 => 12
  | 22 => 12
  | 23 => 12
  | 24 => 12
  | 25 => 72
  | 26 => 12
  | 27 => 12
  | 28 => 12
  | 29 => 12
  | 30 => 12
  | 31 => 6
  | 32 => 8
  | 33 => 32
  | 34 => 32
  | 35 => 2
  | 36 => 2
  | 37 => 2
  | 38 => 8
  | 39 => 8
  | 40 => 20
  | 41 => 2
  | 42 => 2
  | 43 => 9
  | _ => 6
def zpt : Nat → Nat → Option Nat
  | 0, 0 => some 1
  | 0, 1 => some 2
  | 0, 2 => some 3
  | 0, 3 => some 4
  | 0, 4 => some 5
  | 1, 0 => some 6
  | 2, 0 => some 7
  | 2, 1 => some 8
  | 2, 2 => some 9
  | 3, 0 => some 1
  | 3, 1 => some 2
  | 3, 2 => some 10
  | 3, 3 => some 13
  | 4, 0 => some 1
  | 4, 1 => some 3
  | 4, 2 => some 14
  | 6, i => if i < 12 then some (i + 44) else none
  | 10, 0 => some 11
  | 10, 1 => some 12
  | 13, 0 => some 15
  | 14, 0 => some 18
  | 15, 0 => some 16
  | 15, 1 => some 17
  | 19, 1 => some 20
  | 19, 2 => some 21
  | 19, 3 => some 22
  | 19, 4 => some 23
  | 19, 5 => some 24
  | 19, 6 => some 25
  | 19, 7 => some 26
  | 19, 8 => some 27
  | 19, 9 => some 28
  | 19, 10 => some 29
  | 19, 11 => some 30
  | 19, 15 => some 31
  | 19, 17 => some 32
  | 19, 18 => some 33
  | 19, 19 => some 34
  | 19, 20 => some 35
  | 19, 21 => some 36
  | 19, 22 => some 37
  | 19, 23 => some 38
  | 19, 25 => some 39
  | 19, 35 => some 40
  | 19, 38 => some 41
  | 19, 39 => some 42
  | 19, 40 => some 43
  | c + 44, 4 => if c < 12 then some (c + 56) else none
  | _, _ => none
def znf : Nat → Nat
  | 0 => 3
  | 1 => 2
  | 2 => 4
  | 3 => 2
  | 4 => 7
  | 5 => 13
  | 6 => 13
  | 7 => 2
  | 8 => 8
  | 9 => 41
  | _ => 0
abbrev XC : Type := va_G × (Nat → Nat) × ClassId × ClassId × ClassId
def zfs (ad : Nat → Nat) (c : Nat) (row : Nat → Int32) : List Value := (List.range (znf (zkd c))).map (fun j => match zpt c j with
  | some c' => .ref (ad c')
  | none => .int (row j))
def zE (X : XC) (c : Nat) (row : Nat → Int32) : va_E :=
  if zkd c = 10 then .inl (X.2.2.1, zln c, .inl row) else if zkd c = 11 then .inl (X.2.2.2.1, zln c, .inl row) else if zkd c = 12 then .inl (X.2.2.2.2, zln c, .inr (.inr (.inr (.inr (fun i => (zpt c i).map X.2.1))))) else .inr (zkd c, zfs X.2.1 c row)
def zW (X : XC) (M : MM) : va_W := (List.range zN).map (fun c => (X.2.1 c, zE X c (M c)))
def zT (X : XC) : List (ClassId × FieldType) := [(X.2.2.1, .int), (X.2.2.2.1, .boolean), (X.2.2.2.2, .object "VoiceForm$Slot")]
def zA (X : XC) : Nat → Prop := fun q => ∃ c, c < zN ∧ q = X.2.1 c
def zI (X : XC) (M : MM) (H : Heap) : Prop := va_P X.1 vwCl (zW X M) H ∧ va_D (zA X) (zW X M)
def zF (U : State) : Prop := (va_Fw RX1 zxW yX1_numberOf U ∧ va_Fw RX5 zxW yX5_numberOf U) ∧ va_Nw (.methodLinkNest RX0 61 yX9_isWithin RX9) U ∧ va_Nw (.methodLinkNest RX1 25 yX9_isName RX9) U ∧ va_Nw (.methodLinkNest RX1 75 yX9_oneIf RX9) U ∧ va_AO "VoiceForm$Slot" U
def zK (X : XC) (U : State) : Prop := va_K X.1 vwCl (zT X) U ∧ zF U
theorem zK.warm {X : XC} {u U : State} (hW : u.WarmedH U.vm) (h : zK X u) : zK X U := ⟨va_K.moved hW.alike h.1, ⟨va_Fw.moved ⟨by decide, by decide⟩ hW.alike h.2.1.1, va_Fw.moved ⟨by decide, by decide⟩ hW.alike h.2.1.2⟩, va_Nw.warmM hW h.2.2.1, va_Nw.warmM hW h.2.2.2.1, va_Nw.warmM hW h.2.2.2.2.1, va_AO.moved hW.alike h.2.2.2.2.2⟩
theorem zK.same {X : XC} {u U : State} (hv : u.vm = U.vm) (h : zK X u) : zK X U := by
  have ha : u.vm.Alike U.vm := by rw [hv]; exact Vm.Alike.refl _
  exact ⟨va_K.moved ha h.1, ⟨va_Fw.moved ⟨by decide, by decide⟩ ha h.2.1.1, va_Fw.moved ⟨by decide, by decide⟩ ha h.2.1.2⟩, va_Nw.same rfl hv h.2.2.1, va_Nw.same rfl hv h.2.2.2.1, va_Nw.same rfl hv h.2.2.2.2.1, va_AO.moved ha h.2.2.2.2.2⟩
def zP (X : XC) (M : MM) (U : State) : Prop := zI X M U.heap ∧ zK X U
def zQ (X : XC) (v : Option AV) (M' : MM) : Array Value → State → Outcome → State → Prop := fun _ st oc t => oc = .returned (v.map (zv X.2.1)) ∧ zP X M' t ∧ va_F (zA X) st t
def zM (l : Launch) (X : XC) (y : MethodName) (ws : List Cond) (rm : Room) (sem : List AV → MM → Option AR) : Prop :=
  ∀ (as : List AV) (M : MM) (v : Option AV) (M' : MM), sem as M = some (v, M') → Met l y ws rm (va_Pc (as.map (zv X.2.1)) (zP X M)) (zQ X v M') 0 0 (zA X)
theorem zW_len (X : XC) (M : MM) : (zW X M).length = zN := by simp [zW]
theorem zW_at (X : XC) (M : MM) {c : Nat} (h : c < zN) : (zW X M)[c]? = some (X.2.1 c, zE X c (M c)) := by
  simp [zW, h]
theorem zkd_lt {c : Nat} (h : zkd c < 13) : c < zN := by
  rcases Nat.lt_or_ge c zN with h1 | h1
  · exact h1
  · exfalso
    obtain ⟨d, rfl⟩ : ∃ d, c = d + 44 := ⟨c - 44, by unfold zN at h1; omega⟩
    have h2 : ¬ d < 12 := by unfold zN at h1; omega
    have h3 : ¬ d < 24 := by unfold zN at h1; omega
    have e : zkd (d + 44) = if d < 12 then 5 else if d < 24 then 10 else 99 := rfl
    rw [e, if_neg h2, if_neg h3] at h
    omega
theorem zW_set (X : XC) (M : MM) {c : Nat} (h : c < zN) (row : Nat → Int32) (M' : MM) (h1 : M' c = row) (h2 : ∀ c', c' ≠ c → M' c' = M c') : (zW X M).set c (X.2.1 c, zE X c row) = zW X M' := by
  apply List.ext_getElem?
  intro i
  rw [List.getElem?_set]
  by_cases hi : c = i
  · subst hi
    rw [if_pos rfl, zW_len, if_pos h, zW_at X M' h, h1]
  · rw [if_neg hi]
    by_cases hl : i < zN
    · rw [zW_at X M hl, zW_at X M' hl, h2 i (Ne.symm hi)]
    · rw [List.getElem?_eq_none (by rw [zW_len]; omega), List.getElem?_eq_none (by rw [zW_len]; omega)]
theorem st2_row (M : MM) (c j : Nat) (x : Int32) : st2 M c j x c = upd (M c) j x := by
  funext j'
  simp [st2, upd]
theorem st2_ne (M : MM) (c j : Nat) (x : Int32) (c' : Nat) (h : c' ≠ c) : st2 M c j x c' = M c' := by
  funext j'
  simp [st2, h]
theorem zE_int (X : XC) {c : Nat} (h : zkd c = 10) (row : Nat → Int32) : zE X c row = .inl (X.2.2.1, zln c, .inl row) := by unfold zE; rw [if_pos h]
theorem zE_bool (X : XC) {c : Nat} (h : zkd c = 11) (row : Nat → Int32) : zE X c row = .inl (X.2.2.2.1, zln c, .inl row) := by unfold zE; rw [if_neg (by rw [h]; decide), if_pos h]
theorem zE_ref (X : XC) {c : Nat} (h : zkd c = 12) (row : Nat → Int32) : zE X c row = .inl (X.2.2.2.2, zln c, .inr (.inr (.inr (.inr (fun i => (zpt c i).map X.2.1))))) := by unfold zE; rw [if_neg (by rw [h]; decide), if_neg (by rw [h]; decide), if_pos h]
theorem zE_obj (X : XC) {c : Nat} (h : zkd c < 10) (row : Nat → Int32) : zE X c row = .inr (zkd c, zfs X.2.1 c row) := by unfold zE; rw [if_neg (by omega), if_neg (by omega), if_neg (by omega)]
/-! locals -/
def zL (ad : Nat → Nat) (ls : List (Option AV)) : List (Nat × Value) := (List.range ls.length).filterMap (fun i => match ls[i]? with
  | some (some v) => some (i, zv ad v)
  | _ => none)
theorem zL_mem (ad : Nat → Nat) (ls : List (Option AV)) (i : Nat) (v : Value) : (i, v) ∈ zL ad ls ↔ ∃ a, ls[i]? = some (some a) ∧ v = zv ad a := by
  unfold zL
  rw [List.mem_filterMap]
  constructor
  · rintro ⟨j, -, h⟩
    split at h
    · rename_i a ha
      simp only [Option.some.injEq, Prod.mk.injEq] at h
      obtain ⟨rfl, rfl⟩ := h
      exact ⟨a, ha, rfl⟩
    · cases h
  · rintro ⟨a, ha, rfl⟩
    refine ⟨i, ?_, by rw [ha]⟩
    rw [List.mem_range]
    exact (List.getElem?_eq_some_iff.mp ha).1
def zH (ad : Nat → Nat) (nL : Nat) (lsA : List (Option AV)) (ls : Array Slot) : Prop := lv_has ls nL (zL ad lsA) ∧ lsA.length = nL
theorem zH_at {ad : Nat → Nat} {nL : Nat} {lsA : List (Option AV)} {ls : Array Slot} (h : zH ad nL lsA ls) {i : Nat} {a : AV} (hi : lsA[i]? = some (some a)) : ls[i]? = some (.val (zv ad a)) := h.1.2.2 (i, zv ad a) ((zL_mem ad lsA i _).mpr ⟨a, hi, rfl⟩)
theorem zH_set {ad : Nat → Nat} {nL : Nat} {lsA : List (Option AV)} {ls ls' : Array Slot} {i : Nat} {a : AV} (h : zH ad nL lsA ls) (h' : lv_has ls' nL ((i, zv ad a) :: (zL ad lsA).filter (fun q => !(q.1 == i) && !(q.1 + 1 == i && q.2.category == 2)))) : zH ad nL (lsA.set i (some a)) ls' := by
  refine ⟨⟨h'.1, h'.2.1, fun q hq => ?_⟩, by rw [List.length_set]; exact h.2⟩
  obtain ⟨j, v⟩ := q
  obtain ⟨b, hb, rfl⟩ := (zL_mem ad _ j v).mp hq
  refine h'.2.2 _ ?_
  rw [List.getElem?_set] at hb
  by_cases hij : i = j
  · subst hij
    rw [if_pos rfl] at hb
    split at hb
    · simp only [Option.some.injEq] at hb
      subst hb
      exact List.mem_cons_self
    · cases hb
  · rw [if_neg hij] at hb
    refine List.mem_cons_of_mem _ (List.mem_filter.mpr ⟨(zL_mem ad lsA j _).mpr ⟨b, hb, rfl⟩, ?_⟩)
    have h1 : (j == i) = false := by simp; omega
    simp [h1, zv_cat]
