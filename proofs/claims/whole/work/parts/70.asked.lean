/-! FIELDS that are ASKED FOR. -/
def askn (G : Nat → Nat → Nat) (vl : Nat → Option Nat) : Nat → Nat → Nat
  | 0, _ => 1
  | n + 1, f => if G 5 f = 0 then 1 else if vl (G 5 f - 1) = some (G 6 f) then askn G vl n (G 5 f - 1) else 0
def ak (G : Nat → Nat → Nat) (vl : Nat → Option Nat) (f : Nat) : Nat := askn G vl (f + 1) f
theorem need_lt {F : Nat} {G wd : Nat → Nat → Nat} (hG : GW F G wd) {f : Nat} (hf : f < F) (h : G 5 f ≠ 0) : G 5 f - 1 < f := by
  have := (hG.2 f hf).2.2.2.2.2.2.2.1
  omega
theorem askn_irr {F : Nat} {G wd : Nat → Nat → Nat} (hG : GW F G wd) (vl : Nat → Option Nat) : ∀ n m f, f < F → f < n → f < m → askn G vl n f = askn G vl m f := by
  intro n
  induction n with
  | zero => intro m f _ h; omega
  | succ n ih =>
    intro m f hf h1 h2
    obtain ⟨m', rfl⟩ : ∃ m', m = m' + 1 := ⟨m - 1, by omega⟩
    unfold askn
    by_cases h0 : G 5 f = 0
    · rw [if_pos h0, if_pos h0]
    · have := need_lt hG hf h0
      rw [if_neg h0, if_neg h0, ih m' _ (by omega) (by omega) (by omega)]
theorem ak_eq {F : Nat} {G wd : Nat → Nat → Nat} (hG : GW F G wd) (vl : Nat → Option Nat) {f : Nat} (hf : f < F) : ak G vl f = if G 5 f = 0 then 1 else if vl (G 5 f - 1) = some (G 6 f) then ak G vl (G 5 f - 1) else 0 := by
  show (if G 5 f = 0 then 1 else if vl (G 5 f - 1) = some (G 6 f) then askn G vl f (G 5 f - 1) else 0) = _
  by_cases h0 : G 5 f = 0
  · rw [if_pos h0, if_pos h0]
  · have := need_lt hG hf h0
    rw [if_neg h0, if_neg h0]
    unfold ak
    rw [askn_irr hG vl f (G 5 f - 1 + 1) (G 5 f - 1) (by omega) (by omega) (by omega)]
theorem askn_le (G : Nat → Nat → Nat) (vl : Nat → Option Nat) : ∀ n f, askn G vl n f ≤ 1 := by
  intro n
  induction n with
  | zero => intro f; exact Nat.le_refl _
  | succ n ih =>
    intro f
    unfold askn
    split
    · exact Nat.le_refl _
    · split
      · exact ih _
      · exact Nat.zero_le _
theorem ak_le (G : Nat → Nat → Nat) (vl : Nat → Option Nat) (f : Nat) : ak G vl f ≤ 1 := askn_le G vl _ _
theorem ak_congr {F : Nat} {G wd : Nat → Nat → Nat} (hG : GW F G wd) {vl vl' : Nat → Option Nat} : ∀ f, f < F → (∀ g, g < f → vl g = vl' g) → ak G vl f = ak G vl' f := by
  intro f
  induction f using Nat.strongRecOn with
  | ind f ih =>
    intro hf h
    rw [ak_eq hG vl hf, ak_eq hG vl' hf]
    by_cases h0 : G 5 f = 0
    · rw [if_pos h0, if_pos h0]
    · have hn := need_lt hG hf h0
      rw [if_neg h0, if_neg h0, h _ hn, ih _ hn (by omega) (fun g hg => h g (by omega))]
/-- the reference's needs and values -/
def VM (M : MM) (F : Nat) (G : Nat → Nat → Nat) (vl : Nat → Option Nat) : Prop := ∀ f, f < F → M 26 f = sI (G 5 f) ∧ M 27 f = nI (G 6 f) ∧ M 28 f = oI (vl f) ∧ ∀ v, vl f = some v → v < 100000000
theorem p_isAsked {M : MM} {F : Nat} {G wd : Nat → Nat → Nat} {vl : Nat → Option Nat} (hG : GW F G wd) (hV : VM M F G vl) {f : Nat} (hf : f < F) : mX10_isAsked [.inr (some 19), .inl (nI f)] M = some (some (.inl (nI (ak G vl f))), M) := by
  have hF := hG.1
  have key : ∀ n g (x1 : Int32), g < n → g < F → gX10_isAsked 2 [some (.inr (some 19)), some (.inl x1), some (.inl (nI g))] [] M = some (some (.inl (nI (ak G vl g))), M) := by
    intro n
    induction n with
    | zero => intro g x1 h; omega
    | succ n ih =>
      intro g x1 h1 hg
      obtain ⟨v1, v2, v3, v4⟩ := hV g hg
      have gg := gI (c := g) (N := 12) (by omega) (by omega)
      rw [eX10_isAsked_2, q_cl (show g < 2147483648 by omega), if_neg gg, v1, ak_eq hG vl hg]
      by_cases h0 : G 5 g = 0
      · rw [h0, if_pos (show sI 0 < 0 by decide), if_pos rfl]
        rfl
      · have hn := need_lt hG hg h0
        obtain ⟨u1, u2, u3, u4⟩ := hV (G 5 g - 1) (by omega)
        have b6 := (hG.2 g hg).2.2.2.2.2.2.2.2.1
        have es : sI (G 5 g) = nI (G 5 g - 1) := by
          obtain ⟨q, hq⟩ : ∃ q, G 5 g = q + 1 := ⟨G 5 g - 1, by omega⟩
          rw [hq]
          rfl
        have gn := gI (c := G 5 g - 1) (N := 12) (by omega) (by omega)
        rw [es, if_neg (by rw [L0, q_lt (by omega) (by omega)]; omega), if_neg gg, q_cl (show G 5 g - 1 < 2147483648 by omega), if_neg gn, if_neg gg, u3, v2, if_neg h0]
        cases hv : vl (G 5 g - 1) with
        | none =>
          rw [if_neg (by show ¬ (-nI 1 : Int32) = nI (G 6 g); rw [q_em1 (by omega)]; exact fun h => h), if_neg (by intro h; cases h)]
          rfl
        | some v =>
          have hv8 := u4 v hv
          by_cases he : v = G 6 g
          · rw [if_pos (by show nI v = nI (G 6 g); rw [he]), if_neg gg, if_pos (by rw [he])]
            exact ih (G 5 g - 1) x1 (by omega) (by omega)
          · rw [if_neg (by show ¬ nI v = nI (G 6 g); rw [q_eq (by omega) (by omega)]; exact he), if_neg (fun e => he (Option.some.inj e))]
            rfl
  rw [iX10_isAsked, eX10_isAsked_0]
  exact key (f + 1) f _ (by omega) hf
/-! open FIELDS -/
def hv (o : Option Nat) : Nat := if o = none then 0 else 1
def opn (G : Nat → Nat → Nat) (vl : Nat → Option Nat) (sk : Nat → Nat) (f : Nat) : Nat := if ak G vl f = 1 ∧ vl f = none ∧ sk f = 0 then 1 else 0
def SK (M : MM) (F : Nat) (sk : Nat → Nat) : Prop := ∀ f, f < F → M 30 f = nI (sk f) ∧ sk f ≤ 1
theorem oI_neg {o : Option Nat} (h : ∀ v, o = some v → v < 2147483648) : (oI o < 0) = (o = none) := by
  apply propext
  cases o with
  | none => exact ⟨fun _ => rfl, fun _ => by decide⟩
  | some v =>
    have := h v rfl
    show nI v < 0 ↔ _
    rw [L0, q_lt (by omega) (by omega)]
    exact ⟨fun h => by omega, fun h => by cases h⟩
theorem oI_nneg {o : Option Nat} (h : ∀ v, o = some v → v < 2147483648) : (0 ≤ oI o) = (o ≠ none) := by
  apply propext
  cases o with
  | none => exact ⟨fun h => absurd h (by decide), fun h => absurd rfl h⟩
  | some v =>
    have := h v rfl
    show 0 ≤ nI v ↔ _
    rw [L0, q_le (by omega) (by omega)]
    exact ⟨fun _ h => (by cases h), fun _ => Nat.zero_le _⟩
theorem p_isOpen10 {M : MM} {F : Nat} {G wd : Nat → Nat → Nat} {vl : Nat → Option Nat} {sk : Nat → Nat} (hG : GW F G wd) (hV : VM M F G vl) (hK : SK M F sk) {f : Nat} (hf : f < F) : mX10_isOpen [.inr (some 19), .inl (nI f)] M = some (some (.inl (nI (opn G vl sk f))), M) := by
  have hF := hG.1
  have gf := gI (c := f) (N := 12) (by omega) (by omega)
  obtain ⟨v1, v2, v3, v4⟩ := hV f hf
  have hal := ak_le G vl f
  have hs := (hK f hf).2
  rw [iX10_isOpen, eX10_isOpen_0, p_isAsked hG hV hf]
  simp only [bnd1, Option.toList_some, List.cons_append, List.nil_append, eX10_isOpen_5]
  rw [q_cl (show f < 2147483648 by omega), v3, (hK f hf).1]
  unfold opn
  by_cases h1 : ak G vl f = 1
  · rw [h1, if_neg (show ¬ nI 1 = 0 by decide), if_neg gf]
    cases hv : vl f with
    | some v =>
      have := v4 v hv
      rw [if_pos (show (0 : Int32) ≤ oI (some v) from nI_le (Nat.zero_le v) (by omega)), if_neg (fun e => by cases e.2.1)]
      rfl
    | none =>
      rw [if_neg (show ¬ (0 : Int32) ≤ oI none by decide), if_neg gf]
      by_cases h2 : sk f = 0
      · rw [h2, if_pos (show nI 0 = 0 from rfl), if_pos ⟨rfl, rfl, rfl⟩]
        rfl
      · rw [if_neg (by rw [L0, q_eq (by omega) (by omega)]; exact h2), if_neg (fun e => h2 e.2.2)]
        rfl
  · rw [show ak G vl f = 0 by omega, if_pos (show nI 0 = 0 from rfl), if_neg (fun e => by omega)]
    rfl
/-- THE NEXT behind f -/
def nxB (F : Nat) (G : Nat → Nat → Nat) (vl : Nat → Option Nat) (sk : Nat → Nat) (f : Nat) : Option Nat := match fnd (opn G vl sk) 1 (f + 1) (F - (f + 1)) with
  | some g => some g
  | none => fnd (opn G vl sk) 1 0 F
theorem opn_le (G : Nat → Nat → Nat) (vl : Nat → Option Nat) (sk : Nat → Nat) (f : Nat) : opn G vl sk f ≤ 1 := by
  unfold opn
  split <;> omega
theorem opn_01 {G : Nat → Nat → Nat} {vl : Nat → Option Nat} {sk : Nat → Nat} {f : Nat} (h : ¬ opn G vl sk f = 1) : opn G vl sk f = 0 := by
  have := opn_le G vl sk f
  omega
theorem p_nextBehind10 {M : MM} {F : Nat} {G wd : Nat → Nat → Nat} {vl : Nat → Option Nat} {sk : Nat → Nat} (hG : GW F G wd) (hV : VM M F G vl) (hK : SK M F sk) (h0 : M 19 0 = nI F) {f : Nat} (hf : f < F) : mX10_nextBehind [.inr (some 19), .inl (nI f)] M = some (some (.inl (oI (nxB F G vl sk f))), M) := by
  have hF := hG.1
  have k30 : ∀ m i (x1 : Int32), i + m = F → gX10_nextBehind 30 [some (.inr (some 19)), some (.inl x1), some (.inl (nI i))] [] M = some (some (.inl (oI (fnd (opn G vl sk) 1 i m))), M) := by
    intro m
    induction m with
    | zero =>
      intro i x1 hi
      rw [eX10_nextBehind_30, h0, if_pos (nI_le (show F ≤ i by omega) (by omega))]
      rfl
    | succ m ih =>
      intro i x1 hi
      rw [eX10_nextBehind_30, h0, if_neg (by rw [q_le (by omega) (by omega)]; omega), p_isOpen10 hG hV hK (by omega)]
      simp only [bnd1, Option.toList_some, List.cons_append, List.nil_append, eX10_nextBehind_43]
      unfold fnd
      by_cases ho : opn G vl sk i = 1
      · rw [ho, if_neg (show ¬ nI 1 = 0 by decide), if_pos rfl]
        rfl
      · rw [opn_01 ho, if_pos (show nI 0 = 0 from rfl), if_neg (by decide), L1, q_add]
        exact ih (i + 1) x1 (by omega)
  have k4 : ∀ q0 : Option Nat, (∀ x1 : Int32, gX10_nextBehind 30 [some (.inr (some 19)), some (.inl x1), some (.inl (nI 0))] [] M = some (some (.inl (oI q0)), M)) → ∀ m i (x1 : Int32), i + m = F → gX10_nextBehind 4 [some (.inr (some 19)), some (.inl x1), some (.inl (nI i))] [] M = some (some (.inl (oI (match fnd (opn G vl sk) 1 i m with | some g => some g | none => q0))), M) := by
    intro q0 hq0 m
    induction m with
    | zero =>
      intro i x1 hi
      rw [eX10_nextBehind_4, h0, if_pos (nI_le (show F ≤ i by omega) (by omega)), L0, hq0 x1]
      rfl
    | succ m ih =>
      intro i x1 hi
      rw [eX10_nextBehind_4, h0, if_neg (by rw [q_le (by omega) (by omega)]; omega), p_isOpen10 hG hV hK (by omega)]
      simp only [bnd1, Option.toList_some, List.cons_append, List.nil_append, eX10_nextBehind_17]
      unfold fnd
      by_cases ho : opn G vl sk i = 1
      · rw [ho, if_neg (show ¬ nI 1 = 0 by decide), if_pos rfl]
        rfl
      · rw [opn_01 ho, if_pos (show nI 0 = 0 from rfl), if_neg (by decide), L1, q_add]
        exact ih (i + 1) x1 (by omega)
  rw [iX10_nextBehind, eX10_nextBehind_0, L1, q_add]
  exact k4 _ (fun x1 => k30 F 0 x1 (by omega)) (F - (f + 1)) (f + 1) _ (by omega)
/-! the class -/
/-- values, and whether they are HEARD BACK or SKIPPED -/
def DX (M : MM) (F : Nat) (vl : Nat → Option Nat) (hb sk : Nat → Nat) : Prop := ∀ f, f < F → M (f + 44) 9 = nI (hv (vl f)) ∧ (∀ v, vl f = some v → M (f + 44) 10 = nI v) ∧ M (f + 44) 11 = nI (hb f) ∧ M (f + 44) 12 = nI (sk f)
def AX (M : MM) (n : Nat) (G : Nat → Nat → Nat) (vl : Nat → Option Nat) : Prop := ∀ f, f < n → M (f + 44) 8 = nI (ak G vl f)
theorem p_isOpen5 {M : MM} {f : Nat} {a : Nat} {o : Option Nat} (hf : f < 12) (h8 : M (f + 44) 8 = nI a) (h9 : M (f + 44) 9 = nI (hv o)) (ha : a ≤ 1) : mX5_isOpen [.inr (some (f + 44))] M = some (some (.inl (nI (if a = 1 ∧ o = none then 1 else 0))), M) := by
  have hz := zkd_slot hf
  rw [iX5_isOpen, eX5_isOpen_0, if_pos hz, h8, if_pos hz, h9]
  by_cases h1 : a = 1
  · rw [h1, if_neg (show ¬ nI 1 = 0 by decide)]
    cases o with
    | none => rw [if_pos (show nI (hv none) = 0 from rfl), if_pos ⟨rfl, rfl⟩]; rfl
    | some v => rw [if_neg (show ¬ nI (hv (some v)) = 0 by show ¬ nI 1 = 0; decide), if_neg (fun e => by cases e.2)]; rfl
  · rw [show a = 0 by omega, if_pos (show nI 0 = 0 from rfl), if_neg (fun e => by omega)]
    rfl
theorem p_firstToCome {M : MM} {F : Nat} {G wd : Nat → Nat → Nat} {vl : Nat → Option Nat} {hb sk : Nat → Nat} (hG : GW F G wd) (h1 : M 1 1 = nI F) (hA : AX M F G vl) (hD : DX M F vl hb sk) (hs : ∀ f, f < F → sk f ≤ 1) {a : Nat} (ha : a ≤ 12) : mX1_firstToCome [.inr (some 1), .inl (nI a)] M = some (some (.inl (oI (fnd (opn G vl sk) 1 a (F - a)))), M) := by
  have hF := hG.1
  have key : ∀ m i (x1 : Int32), m = F - i → i ≤ 12 → gX1_firstToCome 6 [some (.inr (some 1)), some (.inl x1), some (.inl (nI i))] [] M = some (some (.inl (oI (fnd (opn G vl sk) 1 i m))), M) := by
    intro m
    induction m with
    | zero =>
      intro i x1 hi h12
      rw [eX1_firstToCome_6, h1, if_pos (nI_le (show F ≤ i by omega) (by omega))]
      rfl
    | succ m ih =>
      intro i x1 hi h12
      have hiF : i < F := by omega
      obtain ⟨d1, d2, d3, d4⟩ := hD i hiF
      have gi := gI (c := i) (N := 12) (by omega) (by omega)
      have hz := zkd_slot (i := i) (by omega)
      have hal := ak_le G vl i
      have hsi := hs i hiF
      rw [eX1_firstToCome_6, h1, if_neg (by rw [q_le (by omega) (by omega)]; omega), if_neg (by rw [L12, q_le (by omega) (by omega)]; omega), q_cl (show i < 2147483648 by omega), if_neg gi, if_pos hz, p_isOpen5 (by omega) (hA i hiF) d1 hal]
      simp only [bnd1, Option.toList_some, List.cons_append, List.nil_append, eX1_firstToCome_32]
      unfold fnd
      by_cases ho : ak G vl i = 1 ∧ vl i = none
      · rw [if_pos ho, if_neg (show ¬ nI 1 = 0 by decide), q_cl (show i < 2147483648 by omega), if_neg gi, if_pos hz, d4]
        by_cases h2 : sk i = 0
        · rw [h2, if_pos (show nI 0 = 0 from rfl)]
          have : opn G vl sk i = 1 := by unfold opn; rw [if_pos ⟨ho.1, ho.2, h2⟩]
          rw [if_pos this]
          rfl
        · have : ¬ opn G vl sk i = 1 := by unfold opn; rw [if_neg (fun e => h2 e.2.2)]; decide
          rw [if_neg (by rw [L0, q_eq (by omega) (by omega)]; exact h2), if_neg this, L1, q_add]
          exact ih (i + 1) x1 (by omega) (by omega)
      · have : ¬ opn G vl sk i = 1 := by unfold opn; rw [if_neg (fun e => ho ⟨e.1, e.2.1⟩)]; decide
        rw [if_neg ho, if_pos (show nI 0 = 0 from rfl), if_neg this, L1, q_add]
        exact ih (i + 1) x1 (by omega) (by omega)
  rw [iX1_firstToCome, eX1_firstToCome_0, L0, if_neg (by rw [q_lt (by omega) (by omega)]; omega)]
  exact key (F - a) a _ rfl ha
theorem p_nextBehind1 {M : MM} {F : Nat} {G wd : Nat → Nat → Nat} {vl : Nat → Option Nat} {hb sk : Nat → Nat} (hG : GW F G wd) (h1 : M 1 1 = nI F) (hA : AX M F G vl) (hD : DX M F vl hb sk) (hs : ∀ f, f < F → sk f ≤ 1) {f : Nat} (hf : f < F) : mX1_nextBehind [.inr (some 1), .inl (nI f)] M = some (some (.inl (oI (nxB F G vl sk f))), M) := by
  have hF := hG.1
  rw [iX1_nextBehind, eX1_nextBehind_0, L1, q_add, p_firstToCome hG h1 hA hD hs (by omega)]
  simp only [bnd1, Option.toList_some, List.cons_append, List.nil_append, eX1_nextBehind_7]
  unfold nxB
  cases hx : fnd (opn G vl sk) 1 (f + 1) (F - (f + 1)) with
  | none =>
    rw [if_pos (show oI none = (-1 : Int32) from rfl), L0, p_firstToCome hG h1 hA hD hs (by omega)]
    simp only [bnd1, Option.toList_some, List.cons_append, List.nil_append, eX1_nextBehind_18, Nat.sub_zero]
  | some g =>
    have hg := fnd_some hx
    have e : ¬ oI (some g) = (-1 : Int32) := by
      show ¬ nI g = (-1 : Int32)
      rw [L1, q_m1e (by omega)]
      exact fun h => h
    rw [if_neg e]
