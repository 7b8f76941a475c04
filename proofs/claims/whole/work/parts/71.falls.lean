/-! VALUES that fall. -/
def uq {A : Type} (h : Nat → A) (i : Nat) (x : A) : Nat → A := fun j => if j = i then x else h j
theorem uq_at {A : Type} (h : Nat → A) (i : Nat) (x : A) : uq h i x i = x := if_pos rfl
theorem uq_ne {A : Type} (h : Nat → A) {i j : Nat} (x : A) (hj : j ≠ i) : uq h i x j = h j := if_neg hj
abbrev FS : Type := (Nat → Option Nat) × (Nat → Nat) × Nat
/-- m FIELDS from f on -/
def fll (G : Nat → Nat → Nat) : Nat → Nat → FS → FS
  | 0, _, S => S
  | m + 1, f, S => if S.1 f ≠ none ∧ ak G S.1 f = 0 then fll G m (f + 1) (uq S.1 f none, uq S.2.1 f 0, S.2.2 + 1) else fll G m (f + 1) S
theorem fll_inv {F : Nat} {G wd : Nat → Nat → Nat} (hG : GW F G wd) : ∀ m f (S : FS), f + m = F → (∀ g, g < f → S.1 g ≠ none → ak G S.1 g = 1) → (∀ g, g < F → (fll G m f S).1 g ≠ none → ak G (fll G m f S).1 g = 1) ∧ (∀ g, (fll G m f S).1 g = none ∨ (fll G m f S).1 g = S.1 g) ∧ (∀ g, ((fll G m f S).2.1 g = S.2.1 g ∧ (fll G m f S).1 g = S.1 g) ∨ ((fll G m f S).2.1 g = 0 ∧ (fll G m f S).1 g = none)) ∧ (∀ g, g < f → (fll G m f S).1 g = S.1 g) ∧ (fll G m f S).2.2 ≤ S.2.2 + m := by
  intro m
  induction m with
  | zero =>
    intro f S hf h
    refine ⟨fun g hg => h g (by omega), fun g => Or.inr rfl, fun g => Or.inl ⟨rfl, rfl⟩, fun g _ => rfl, Nat.le_refl _⟩
  | succ m ih =>
    intro f S hf h
    by_cases hc : S.1 f ≠ none ∧ ak G S.1 f = 0
    · have e : fll G (m + 1) f S = fll G m (f + 1) (uq S.1 f none, uq S.2.1 f 0, S.2.2 + 1) := by
        show (if S.1 f ≠ none ∧ ak G S.1 f = 0 then _ else _) = _
        rw [if_pos hc]
      rw [e]
      obtain ⟨i1, i2, i3, i4, i5⟩ := ih (f + 1) (uq S.1 f none, uq S.2.1 f 0, S.2.2 + 1) (by omega) (fun g hg hn => by
        dsimp only at hn ⊢
        by_cases hgf : g = f
        · rw [hgf, uq_at] at hn
          exact absurd rfl hn
        · rw [uq_ne _ _ hgf] at hn
          rw [← h g (by omega) hn]
          exact ak_congr hG g (by omega) (fun g' hg' => uq_ne _ _ (by omega)))
      refine ⟨i1, fun g => ?_, fun g => ?_, fun g hg => ?_, by dsimp only at i5; omega⟩
      · rcases i2 g with i | i
        · exact Or.inl i
        · dsimp only at i
          by_cases hgf : g = f
          · rw [hgf, uq_at] at i
            rw [hgf]
            exact Or.inl i
          · rw [uq_ne _ _ hgf] at i
            exact Or.inr i
      · rcases i3 g with ⟨i, j⟩ | i
        · dsimp only at i j
          by_cases hgf : g = f
          · rw [hgf, uq_at] at i j
            rw [hgf]
            exact Or.inr ⟨i, j⟩
          · rw [uq_ne _ _ hgf] at i j
            exact Or.inl ⟨i, j⟩
        · exact Or.inr i
      · rw [i4 g (by omega)]
        exact uq_ne _ _ (by omega)
    · have e : fll G (m + 1) f S = fll G m (f + 1) S := by
        show (if S.1 f ≠ none ∧ ak G S.1 f = 0 then _ else _) = _
        rw [if_neg hc]
      rw [e]
      obtain ⟨i1, i2, i3, i4, i5⟩ := ih (f + 1) S (by omega) (fun g hg hn => by
        by_cases hgf : g = f
        · rw [hgf] at hn ⊢
          have := ak_le G S.1 f
          have : ¬ ak G S.1 f = 0 := fun e => hc ⟨hn, e⟩
          omega
        · exact h g (by omega) hn)
      exact ⟨i1, i2, i3, fun g hg => i4 g (by omega), by omega⟩
/-- up to f0 nothing falls -/
theorem fll_keep {F : Nat} {G wd : Nat → Nat → Nat} (hG : GW F G wd) {f0 : Nat} : ∀ m f (S : FS), f + m = F → (∀ g, f ≤ g → g ≤ f0 → S.1 g ≠ none → ak G S.1 g = 1) → ∀ g, g ≤ f0 → (fll G m f S).1 g = S.1 g := by
  intro m
  induction m with
  | zero => intro f S _ _ g _; rfl
  | succ m ih =>
    intro f S hf h g hg
    by_cases hc : S.1 f ≠ none ∧ ak G S.1 f = 0
    · have hff : f0 < f := by
        rcases Nat.lt_or_ge f0 f with h1 | h1
        · exact h1
        · have := h f (Nat.le_refl _) h1 hc.1
          omega
      have e : fll G (m + 1) f S = fll G m (f + 1) (uq S.1 f none, uq S.2.1 f 0, S.2.2 + 1) := by
        show (if S.1 f ≠ none ∧ ak G S.1 f = 0 then _ else _) = _
        rw [if_pos hc]
      rw [e, ih (f + 1) _ (by omega) (fun g' a b => by omega) g hg]
      exact uq_ne _ _ (by omega)
    · have e : fll G (m + 1) f S = fll G m (f + 1) S := by
        show (if S.1 f ≠ none ∧ ak G S.1 f = 0 then _ else _) = _
        rw [if_neg hc]
      rw [e]
      exact ih (f + 1) S (by omega) (fun g' a b => h g' (by omega) b) g hg
/-- the class's isMetBy -/
theorem p_isMetBy {M : MM} {f q a : Nat} {o : Option Nat} {b : Nat} (hf : f < 12) (hq : q < 12) (h8 : M (q + 44) 8 = nI a) (ha : a ≤ 1) (h9 : M (q + 44) 9 = nI (hv o)) (h10 : ∀ v, o = some v → M (q + 44) 10 = nI v ∧ v < 100000000) (h7 : M (f + 44) 7 = nI b) (hb : b ≤ 6) : mX5_isMetBy [.inr (some (f + 44)), .inr (some (q + 44))] M = some (some (.inl (nI (if o = some b then a else 0))), M) := by
  have hz := zkd_slot hf
  have hzq := zkd_slot hq
  rw [iX5_isMetBy, eX5_isMetBy_0]
  dsimp only
  rw [if_pos hzq, h8, if_pos hzq, h9, if_pos hzq, if_pos hz, h7]
  by_cases h1 : a = 1
  · rw [h1, if_neg (show ¬ nI 1 = 0 by decide)]
    cases o with
    | none => rw [if_pos (show nI (hv none) = 0 from rfl), if_neg (fun e => by cases e)]; rfl
    | some v =>
      obtain ⟨e1, e2⟩ := h10 v rfl
      rw [if_neg (show ¬ nI (hv (some v)) = 0 by show ¬ nI 1 = 0; decide), e1]
      by_cases he : v = b
      · rw [if_pos (by rw [he]), if_pos (by rw [he])]; rfl
      · rw [if_neg (by rw [q_eq (by omega) (by omega)]; exact he), if_neg (fun e => he (Option.some.inj e))]; rfl
  · rw [show a = 0 by omega, if_pos (show nI 0 = 0 from rfl)]
    split <;> rfl
theorem st2_nj' (M : MM) {c j c' j' : Nat} {x : Int32} (h : j' ≠ j) : st2 M c j x c' j' = M c' j' := by
  by_cases hc : c' = c
  · rw [hc, st2_nj M h]
  · rw [st2_nc M hc]
/-- frame of the class's needs: asked, has a value, heard back -/
def FRk (F : Nat) (M M' : MM) : Prop := ∀ c' j, c' ≤ 43 ∨ (j ≠ 8 ∧ j ≠ 9 ∧ j ≠ 11) ∨ 44 + F ≤ c' → M' c' j = M c' j
theorem p_reckon {F : Nat} {G wd : Nat → Nat → Nat} {sk : Nat → Nat} (hG : GW F G wd) : ∀ m f (M : MM) (S : FS) (d3 : Option AV), f + m = F → SX M F G wd → AX M f G S.1 → DX M F S.1 S.2.1 sk → (∀ g v, g < F → S.1 g = some v → v < 100000000) → ∃ M' : MM, gX1_reckonNeeds 4 [some (.inr (some 1)), some (.inl (nI S.2.2)), some (.inl (nI f)), d3] [] M = some (some (.inl (nI (fll G m f S).2.2)), M') ∧ AX M' F G (fll G m f S).1 ∧ DX M' F (fll G m f S).1 (fll G m f S).2.1 sk ∧ FRk F M M' := by
  have hF := hG.1
  intro m
  induction m with
  | zero =>
    intro f M S d3 hf hS hA hD hv8
    obtain rfl : f = F := by omega
    refine ⟨M, ?_, hA, hD, fun _ _ _ => rfl⟩
    rw [eX1_reckonNeeds_4, hS.1, if_pos (nI_le (Nat.le_refl _) (by omega))]
    rfl
  | succ m ih =>
    intro f M S d3 hf hS hA hD hv8
    have hfF : f < F := by omega
    have gf := gI (c := f) (N := 12) (by omega) (by omega)
    have hz := zkd_slot (i := f) (by omega)
    obtain ⟨a1, a2, a3, a4, a5, a6, a7, a8⟩ := hS.2 f hfF
    obtain ⟨d1, d2, d3', d4⟩ := hD f hfF
    have b6 := (hG.2 f hfF).2.2.2.2.2.2.2.2.1
    have hal := ak_le G S.1 f
    -- how asked is found
    have h57 : gX1_reckonNeeds 4 [some (.inr (some 1)), some (.inl (nI S.2.2)), some (.inl (nI f)), d3] [] M = gX1_reckonNeeds 57 [some (.inr (some 1)), some (.inl (nI S.2.2)), some (.inl (nI f)), some (.inr (some (f + 44)))] [.inl (nI (ak G S.1 f)), .inr (some (f + 44))] M := by
      rw [eX1_reckonNeeds_4, hS.1, if_neg (by rw [q_le (by omega) (by omega)]; omega), if_neg (by rw [L12, q_le (by omega) (by omega)]; omega), q_cl (show f < 2147483648 by omega), if_neg gf, if_pos hz, if_pos hz, a6, ak_eq hG S.1 hfF]
      by_cases h0 : G 5 f = 0
      · rw [h0, if_pos (show sI 0 = (-1 : Int32) from rfl), if_pos rfl]
        rfl
      · have hn := need_lt hG hfF h0
        have es : sI (G 5 f) = oI (some (G 5 f - 1)) := by
          obtain ⟨q, hq⟩ : ∃ q, G 5 f = q + 1 := ⟨G 5 f - 1, by omega⟩
          rw [hq]
          rfl
        have e1 : ¬ sI (G 5 f) = (-1 : Int32) := by
          rw [es]
          show ¬ nI (G 5 f - 1) = (-1 : Int32)
          rw [L1, q_m1e (by omega)]
          exact fun h => h
        rw [if_neg e1, if_neg h0, es, p_slotAt hF hS.1 (fun g e => by cases e; omega)]
        simp only [bnd1, Option.toList_some, List.cons_append, List.nil_append, Option.map_some, eX1_reckonNeeds_46]
        rw [if_pos hz, p_isMetBy (f := f) (q := G 5 f - 1) (o := S.1 (G 5 f - 1)) (a := ak G S.1 (G 5 f - 1)) (b := G 6 f) (by omega) (by omega) (hA _ hn) (ak_le _ _ _) (hD _ (by omega)).1 (fun v e => ⟨(hD _ (by omega)).2.1 v e, hv8 _ v (by omega) e⟩) a7 b6]
        simp only [bnd1, Option.toList_some, List.cons_append, List.nil_append, eX1_reckonNeeds_49]
        have hy1 : (if S.1 (G 5 f - 1) = some (G 6 f) then ak G S.1 (G 5 f - 1) else 0) ≤ 1 := by
          have hal2 := ak_le G S.1 (G 5 f - 1)
          split <;> omega
        generalize (if S.1 (G 5 f - 1) = some (G 6 f) then ak G S.1 (G 5 f - 1) else 0) = y at hy1 ⊢
        rcases (show y = 0 ∨ y = 1 by omega) with rfl | rfl
        · rw [if_pos (show nI 0 = 0 from rfl)]
          rfl
        · rw [if_neg (show ¬ nI 1 = 0 by decide)]
          rfl
    have h01 : nI (ak G S.1 f) = 0 ∨ nI (ak G S.1 f) = 1 := by
      rcases (show ak G S.1 f = 0 ∨ ak G S.1 f = 1 by omega) with e | e
      · rw [e]; exact Or.inl rfl
      · rw [e]; exact Or.inr rfl
    have hS1 : SX (st2 M (f + 44) 8 (nI (ak G S.1 f))) F G wd := hS.fr (st2_nj' M (by decide)) (fun c j _ q => st2_nj' M (by omega)) hG
    have hA1 : AX (st2 M (f + 44) 8 (nI (ak G S.1 f))) (f + 1) G S.1 := fun g hg => by
      by_cases hgf : g = f
      · rw [hgf, st2_at]
      · rw [st2_nc M (by omega)]
        exact hA g (by omega)
    have hD1 : DX (st2 M (f + 44) 8 (nI (ak G S.1 f))) F S.1 S.2.1 sk := fun g hg => by
      obtain ⟨q1, q2, q3, q4⟩ := hD g hg
      exact ⟨(st2_nj' M (by decide)).trans q1, fun v e => (st2_nj' M (by decide)).trans (q2 v e), (st2_nj' M (by decide)).trans q3, (st2_nj' M (by decide)).trans q4⟩
    have hF1 : FRk F M (st2 M (f + 44) 8 (nI (ak G S.1 f))) := fun c' j q => by
      rcases q with q | q | q
      · exact st2_nc M (by omega)
      · exact st2_nj' M q.1
      · exact st2_nc M (by omega)
    rw [h57, eX1_reckonNeeds_57]
    dsimp only
    rw [if_pos hz, if_pos h01, if_pos hz, st2_nj' M (show 9 ≠ 8 by decide), d1]
    have nofall : ¬ (S.1 f ≠ none ∧ ak G S.1 f = 0) → ∃ M' : MM, gX1_reckonNeeds 4 [some (.inr (some 1)), some (.inl (nI S.2.2)), some (.inl (nI f + (1 : Int32))), some (.inr (some (f + 44)))] [] (st2 M (f + 44) 8 (nI (ak G S.1 f))) = some (some (.inl (nI (fll G (m + 1) f S).2.2)), M') ∧ AX M' F G (fll G (m + 1) f S).1 ∧ DX M' F (fll G (m + 1) f S).1 (fll G (m + 1) f S).2.1 sk ∧ FRk F M M' := fun hc => by
      have e : fll G (m + 1) f S = fll G m (f + 1) S := by
        show (if S.1 f ≠ none ∧ ak G S.1 f = 0 then _ else _) = _
        rw [if_neg hc]
      obtain ⟨M', i1, i2, i3, i4⟩ := ih (f + 1) _ S (some (.inr (some (f + 44)))) (by omega) hS1 hA1 hD1 hv8
      refine ⟨M', ?_, by rw [e]; exact i2, by rw [e]; exact i3, fun c' j q => by rw [i4 c' j q, hF1 c' j q]⟩
      rw [e, L1, q_add]
      exact i1
    cases hx : S.1 f with
    | none =>
      rw [if_pos (show nI (hv none) = 0 from rfl)]
      exact nofall (fun e => e.1 hx)
    | some v =>
      rw [if_neg (show ¬ nI (hv (some v)) = 0 by show ¬ nI 1 = 0; decide), if_pos hz, st2_at]
      by_cases h0 : ak G S.1 f = 0
      · have e : fll G (m + 1) f S = fll G m (f + 1) (uq S.1 f none, uq S.2.1 f 0, S.2.2 + 1) := by
          show (if S.1 f ≠ none ∧ ak G S.1 f = 0 then _ else _) = _
          rw [if_pos ⟨by rw [hx]; exact fun h => (by cases h), h0⟩]
        have hcg : ∀ g, g ≤ f → ak G (uq S.1 f none) g = ak G S.1 g := fun g hg => ak_congr hG g (by omega) (fun g' hg' => uq_ne _ _ (by omega))
        obtain ⟨M', i1, i2, i3, i4⟩ := ih (f + 1) (st2 (st2 (st2 M (f + 44) 8 (nI (ak G S.1 f))) (f + 44) 9 (nI 0)) (f + 44) 11 (nI 0)) (uq S.1 f none, uq S.2.1 f 0, S.2.2 + 1) (some (.inr (some (f + 44)))) (by omega) ((hS1.fr (st2_nj' _ (by decide)) (fun c j _ q => st2_nj' _ (by omega)) hG).fr (st2_nj' _ (by decide)) (fun c j _ q => st2_nj' _ (by omega)) hG) (fun g hg => by
            rw [st2_nj' _ (by decide), st2_nj' _ (by decide), hcg g (by omega)]
            exact hA1 g hg) (fun g hg => by
            obtain ⟨q1, q2, q3, q4⟩ := hD1 g hg
            dsimp only
            by_cases hgf : g = f
            · subst hgf
              rw [uq_at, uq_at]
              refine ⟨?_, fun v e => (by cases e), ?_, ?_⟩
              · rw [st2_nj' _ (by decide), st2_at]
                rfl
              · rw [st2_at]
              · rw [st2_nj' _ (by decide), st2_nj' _ (by decide)]
                exact q4
            · rw [uq_ne _ _ hgf, uq_ne _ _ hgf]
              refine ⟨?_, fun v e => ?_, ?_, ?_⟩
              · rw [st2_nc _ (by omega), st2_nc _ (by omega)]; exact q1
              · rw [st2_nc _ (by omega), st2_nc _ (by omega)]; exact q2 v e
              · rw [st2_nc _ (by omega), st2_nc _ (by omega)]; exact q3
              · rw [st2_nc _ (by omega), st2_nc _ (by omega)]; exact q4) (fun g v hg hv => by
            dsimp only at hv
            by_cases hgf : g = f
            · rw [hgf, uq_at] at hv
              cases hv
            · rw [uq_ne _ _ hgf] at hv
              exact hv8 g v hg hv)
        refine ⟨M', ?_, by rw [e]; exact i2, by rw [e]; exact i3, fun c' j q => ?_⟩
        · rw [if_pos (by rw [h0]; rfl), if_pos hz, if_pos hz, e, L0, L1, q_add, q_add]
          exact i1
        · rw [i4 c' j q]
          rcases q with q | q | q
          · rw [st2_nc _ (by omega), st2_nc _ (by omega)]
            exact hF1 c' j (Or.inl q)
          · rw [st2_nj' _ q.2.2, st2_nj' _ q.2.1]
            exact hF1 c' j (Or.inr (Or.inl q))
          · rw [st2_nc _ (by omega), st2_nc _ (by omega)]
            exact hF1 c' j (Or.inr (Or.inr q))
      · rw [if_neg (by rw [L0, q_eq (by omega) (by omega)]; exact h0)]
        exact nofall (fun e => h0 e.2)
