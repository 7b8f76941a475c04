/-! One place, said of all offers. -/
abbrev OO : Type := Nat → Nat → Int → Nat → Prop
def PD (O : OO) (D : Nat → Nat → T2) : Prop := ∀ q, q ≤ 16 → ∀ s, s < 10 → P2 (O q s) (D q s)
def smx (ck : Nat) : Nat := if ck = 0 then 1 else 10
/-- what a word, at the cost x beyond the noise, makes of what stands at fr with F, at to with the sum s' -/
def stp (n ck fr to w : Nat) (x : Int) (F : Nat → Int → Nat → Prop) (s' : Nat) : Int → Nat → Prop := fun c k => ∃ s0, s0 < smx ck ∧ (s0 + gw n ck w (fr / 2) (to / 2 - fr / 2)) % 10 = s' ∧ shO (F s0) x (10 ^ (to / 2 - fr / 2)) (hrn w (to / 2 - fr / 2) 0) c k
def grO (n ck fr to w : Nat) (x : Int) (O : OO) : OO := fun q s' c k => O q s' c k ∨ (q = to ∧ stp n ck fr to w x (O fr) s' c k)
theorem PD_grow {n ck fr to w : Nat} {x : Int} {O : OO} {D : Nat → Nat → T2} (h : PD O D) (hft : fr < to) (hto : to ≤ 16) : PD (grO n ck fr to w x O) (growD n ck fr to w x D) := by
  intro q hq s hs
  by_cases hqt : q = to
  · subst hqt
    have h1 := P2_grow (x := x) (W := gw n ck w (fr / 2) (q / 2 - fr / 2)) (f := 10 ^ (q / 2 - fr / 2)) (p := hrn w (q / 2 - fr / 2) 0) (sm := smx ck) (by omega) (Nat.pow_pos (by decide)) (fun s' => O q s') (fun s' => O fr s') D (fun s' hs' => h q hq s' hs') (fun s' hs' => h fr (by omega) s' hs') (by unfold smx; split <;> omega) s hs
    refine P2_congr h1 (fun c k => ?_)
    constructor
    · rintro (a | a)
      · exact Or.inl a
      · exact Or.inr ⟨rfl, a⟩
    · rintro (a | ⟨-, a⟩)
      · exact Or.inl a
      · exact Or.inr a
  · rw [growD_ne hqt]
    refine P2_congr (h q hq s hs) (fun c k => ⟨Or.inl, fun a => ?_⟩)
    rcases a with a | ⟨e, -⟩
    · exact a
    · exact absurd e hqt
def wdO (n ck q wd : Nat) (x : Int) (O : OO) : OO := fun t s' c k => O t s' c k ∨ (nxt n q wd = some t ∧ stp n ck q t wd x (O q) s' c k)
theorem PD_word {n ck q wd : Nat} {x : Int} {O : OO} {D : Nat → Nat → T2} (hn : n ≤ 8) (h : PD O D) : PD (wdO n ck q wd x O) (wordD n ck q wd x D) := by
  unfold wordD
  cases hx : nxt n q wd with
  | none =>
    intro t ht s hs
    refine P2_congr (h t ht s hs) (fun c k => ⟨Or.inl, fun a => ?_⟩)
    rcases a with a | ⟨e, -⟩
    · exact a
    · rw [hx] at e; cases e
  | some t0 =>
    have hs0 := nxt_spec hx
    have h1 := PD_grow (n := n) (ck := ck) (w := wd) (x := x) h hs0.1 (by omega)
    intro t ht s hs
    refine P2_congr (h1 t ht s hs) (fun c k => ?_)
    constructor
    · rintro (a | ⟨rfl, a⟩)
      · exact Or.inl a
      · exact Or.inr ⟨hx, a⟩
    · rintro (a | ⟨e, a⟩)
      · exact Or.inl a
      · rw [hx] at e
        cases e
        exact Or.inr ⟨rfl, a⟩
def innO (n ck q : Nat) (wd : Nat → Nat) (ex : Nat → Int) (m i : Nat) (O : OO) : OO := fun t s' c k => O t s' c k ∨ ∃ i', i ≤ i' ∧ i' < i + m ∧ nxt n q (wd i') = some t ∧ stp n ck q t (wd i') (ex i') (O q) s' c k
theorem PD_congr {O O' : OO} {D : Nat → Nat → T2} (h : PD O D) (he : ∀ q s c k, O q s c k ↔ O' q s c k) : PD O' D := fun q hq s hs => P2_congr (h q hq s hs) (fun c k => he q s c k)
theorem stp_congr {n ck fr to w : Nat} {x : Int} {F F' : Nat → Int → Nat → Prop} (h : ∀ s c k, F s c k ↔ F' s c k) {s' : Nat} {c : Int} {k : Nat} : stp n ck fr to w x F s' c k ↔ stp n ck fr to w x F' s' c k := by
  constructor
  · rintro ⟨s0, a, b, c0, k0, q, e⟩
    exact ⟨s0, a, b, c0, k0, (h _ _ _).mp q, e⟩
  · rintro ⟨s0, a, b, c0, k0, q, e⟩
    exact ⟨s0, a, b, c0, k0, (h _ _ _).mpr q, e⟩
theorem PD_inn {n ck q : Nat} {wd : Nat → Nat} {ex : Nat → Int} (hn : n ≤ 8) : ∀ m i (O : OO) (D : Nat → Nat → T2), PD O D → PD (innO n ck q wd ex m i O) (innD n ck q wd ex m i D) := by
  intro m
  induction m with
  | zero =>
    intro i O D h
    refine PD_congr h (fun t s c k => ⟨Or.inl, fun a => ?_⟩)
    rcases a with a | ⟨i', a, b, -⟩
    · exact a
    · omega
  | succ m ih =>
    intro i O D h
    have h1 := ih (i + 1) _ _ (PD_word (ck := ck) (q := q) (wd := wd i) (x := ex i) hn h)
    have hq : ∀ s c k, wdO n ck q (wd i) (ex i) O q s c k ↔ O q s c k := fun s c k => ⟨fun a => by
      rcases a with a | ⟨e, -⟩
      · exact a
      · have := (nxt_spec e).1
        omega, Or.inl⟩
    refine PD_congr h1 (fun t s c k => ?_)
    constructor
    · rintro ((a | ⟨e, a⟩) | ⟨i', a1, a2, e, a⟩)
      · exact Or.inl a
      · exact Or.inr ⟨i, Nat.le_refl _, by omega, e, a⟩
      · exact Or.inr ⟨i', by omega, by omega, e, (stp_congr hq).mp a⟩
    · rintro (a | ⟨i', a1, a2, e, a⟩)
      · exact Or.inl (Or.inl a)
      · by_cases hi : i' = i
        · subst hi
          exact Or.inl (Or.inr ⟨e, a⟩)
        · exact Or.inr ⟨i', by omega, by omega, e, (stp_congr hq).mpr a⟩
/-- what stands behind one more place, by its words at the stands below r -/
def plcO (n ck : Nat) (wd : Nat → Nat) (ex : Nat → Int) (cn r : Nat) (O : OO) : OO := fun t s' c k => O t s' c k ∨ ∃ q i, q < r ∧ i < cn ∧ nxt n q (wd i) = some t ∧ stp n ck q t (wd i) (ex i) (O q) s' c k
theorem PD_plc {n ck cn : Nat} {wd : Nat → Nat} {ex : Nat → Int} (hn : n ≤ 8) : ∀ r (O : OO) (D : Nat → Nat → T2), PD O D → PD (plcO n ck wd ex cn r O) (plcD n ck wd ex cn r D) := by
  intro r
  induction r with
  | zero =>
    intro O D h
    refine PD_congr h (fun t s c k => ⟨Or.inl, fun a => ?_⟩)
    rcases a with a | ⟨q, i, a, -⟩
    · exact a
    · omega
  | succ q ih =>
    intro O D h
    have h1 := ih _ _ (PD_inn (ck := ck) (q := q) (wd := wd) (ex := ex) hn cn 0 O D h)
    have hq : ∀ q', q' ≤ q → ∀ s c k, innO n ck q wd ex cn 0 O q' s c k ↔ O q' s c k := fun q' hq' s c k => ⟨fun a => by
      rcases a with a | ⟨i', -, -, e, -⟩
      · exact a
      · have := (nxt_spec e).1
        omega, Or.inl⟩
    refine PD_congr h1 (fun t s c k => ?_)
    constructor
    · rintro ((a | ⟨i', -, a2, e, a⟩) | ⟨q', i, b1, b2, e, a⟩)
      · exact Or.inl a
      · exact Or.inr ⟨q, i', by omega, by omega, e, a⟩
      · exact Or.inr ⟨q', i, by omega, b2, e, (stp_congr (hq q' (by omega))).mp a⟩
    · rintro (a | ⟨q', i, b1, b2, e, a⟩)
      · exact Or.inl (Or.inl a)
      · by_cases hqq : q' = q
        · subst hqq
          exact Or.inl (Or.inr ⟨i, Nat.zero_le _, by omega, e, a⟩)
        · exact Or.inr ⟨q', i, by omega, b2, e, (stp_congr (hq q' (by omega))).mpr a⟩
