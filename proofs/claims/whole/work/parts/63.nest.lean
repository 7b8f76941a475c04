/-! readAll: all settings of the wheels. -/
theorem sI_sub (P : Nat) : nI P - nI 1 = sI P := by
  cases P with
  | zero => rfl
  | succ q => rw [q_sub (by omega)]; rfl
def FRA (M M' : MM) : Prop := ∀ c' j, c' ≠ 35 → c' ≠ 36 → c' ≠ 37 → c' ≠ 38 → c' ≠ 39 → ¬ (c' = 19 ∧ j = 24) → M' c' j = M c' j
theorem FRA.trans {M M1 M2 : MM} (h1 : FRA M M1) (h2 : FRA M1 M2) : FRA M M2 := fun c' j a b d e f g => (h2 c' j a b d e f g).trans (h1 c' j a b d e f g)
/-- what stands still while all is read -/
def LB (M : MM) (P : Nat) (c w k : Nat → Nat) (no od F : Nat) (G wd : Nat → Nat → Nat) (hd ls : Option Nat) : Prop := RHm M P c w k ∧ M 19 12 = nI no ∧ M 19 13 = nI od ∧ SM M F G wd ∧ M 19 29 = oI hd ∧ M 19 30 = oI ls
theorem LB.fr {M M' : MM} {P : Nat} {c w k : Nat → Nat} {no od F : Nat} {G wd : Nat → Nat → Nat} {hd ls : Option Nat} (h : LB M P c w k no od F G wd hd ls) (hf : FRA M M') : LB M' P c w k no od F G wd hd ls := by
  obtain ⟨h1, h2, h3, h4, h5, h6⟩ := h
  have f19 : ∀ j, j ≠ 24 → M' 19 j = M 19 j := fun j hj => hf 19 j (by decide) (by decide) (by decide) (by decide) (by decide) (fun e => hj e.2)
  have fc : ∀ c' j, c' ≠ 35 → c' ≠ 36 → c' ≠ 37 → c' ≠ 38 → c' ≠ 39 → c' ≠ 19 → M' c' j = M c' j := fun c' j a b d e f g => hf c' j a b d e f (fun q => g q.1)
  refine ⟨h1.congr (f19 16 (by decide)) (funext fun j => fc 32 j (by decide) (by decide) (by decide) (by decide) (by decide) (by decide)) (funext fun j => fc 33 j (by decide) (by decide) (by decide) (by decide) (by decide) (by decide)) (funext fun j => fc 34 j (by decide) (by decide) (by decide) (by decide) (by decide) (by decide)), (f19 12 (by decide)).trans h2, (f19 13 (by decide)).trans h3, h4.fr (f19 0 (by decide)) (fun c' j q1 q2 => fc c' j (by omega) (by omega) (by omega) (by omega) (by omega) (by omega)), (f19 29 (by decide)).trans h5, (f19 30 (by decide)).trans h6⟩
theorem p_one {P no od F : Nat} {c w k g : Nat → Nat} {G wd : Nat → Nat → Nat} {hd ls : Option Nat} {M : MM} {t : T2} (hW : WH P c w k) (hG : GW F G wd) (hhF : ∀ f, hd = some f → f < F) (hlF : ∀ f, ls = some f → f < F) (hno : no ≤ 99) (hod : od ≤ 99) (hL : LB M P c w k no od F G wd hd ls) (hg : WG M P c g) (hR : RM M t) (hok : okT t) (d2 d3 d4 : Option AV) : ∃ (M' : MM) (t' : T2) (e2 : Int32) (e4 : Option AV), gX10_readAll 43 [some (.inr (some 19)), some (.inl (nI 1)), d2, d3, d4] [] M = gX10_readAll 176 [some (.inr (some 19)), some (.inl (nI 1)), some (.inl e2), some (.inl (sI P)), e4] [] M' ∧ RM M' t' ∧ okT t' ∧ FRA M M' ∧ (∀ p, M' 39 p = M 39 p) ∧ ∀ A, P2 A t → P2 (fun cc key => A cc key ∨ ofr F G wd hd ls od (rowG c w g P) (costG c k g no P) cc key) t' := by
  have h8 := hW.1
  have hcl := costG_le (g := g) hW hno P (Nat.le_refl _)
  have hlen := rowG_len c w g P
  have f0 : FRA M (st2 M 19 24 (nI 0)) := fun c' j a b d e f q => by
    by_cases hc : c' = 19
    · subst hc
      rw [st2_nj _ (fun e => q ⟨rfl, e⟩)]
    · rw [st2_nc _ hc]
  have hL0 := hL.fr f0
  obtain ⟨M1, e4, g1, g2, g3⟩ := p_row (x1 := nI 1) (g := g) hW P 0 (st2 M 19 24 (nI 0)) d4 (by omega) hL0.1 hL0.2.1 (fun p hp => by rw [st2_nc _ (by decide)]; exact hg p hp) ⟨by rw [st2_at]; rfl, fun i hi => absurd hi (Nat.not_lt_zero _)⟩
  have f1 : FRA M M1 := fun c' j a b d e f q => by rw [g3 c' j e q, f0 c' j a b d e f q]
  have hL1 := hL.fr f1
  have hR1 : RM M1 t := by
    have cp : ∀ c', c' = 35 ∨ c' = 36 ∨ c' = 37 → ∀ j, M1 c' j = M c' j := fun c' hc j => by
      rw [g3 c' j (by omega) (by omega), st2_nc _ (by omega)]
    exact ⟨RM1_copy hR.1 (cp 37 (by omega) 0) (cp 35 (by omega) 0) (cp 36 (by omega) 0), RM1_copy hR.2 (cp 37 (by omega) 1) (cp 35 (by omega) 1) (cp 36 (by omega) 1)⟩
  obtain ⟨M2, t', i1, i2, i3, i4, i5⟩ := p_read (b := costG c k g no P) hG hL1.2.2.2.1 ⟨by omega, g2.1, g2.2⟩ hL1.2.2.2.2.1 hhF hL1.2.2.2.2.2 hlF hL1.2.2.1 hod (by omega) hR1 hok
  have f2 : FRA M M2 := fun c' j a b d e f q => by rw [i4 c' j a b d, f1 c' j a b d e f q]
  refine ⟨M2, t', nI (costG c k g no P), e4, ?_, i2, i3, f2, fun p => ?_, i5⟩
  · rw [eX10_readAll_43, if_neg (show ¬ nI 1 = 0 by decide), L0]
    refine Eq.trans g1 ?_
    rw [i1]
    simp only [bnd0, Option.toList_none, List.nil_append, eX10_readAll_169]
    rw [(hL.fr f2).1.1, L1, sI_sub]
  · rw [i4 39 p (by decide) (by decide) (by decide), g3 39 p (by decide) (fun e => by omega), st2_nc _ (by decide)]
/-- what the settings of the wheels offer of which Q holds -/
def CO (P : Nat) (c w k : Nat → Nat) (no F : Nat) (G wd : Nat → Nat → Nat) (hd ls : Option Nat) (od : Nat) (Q : (Nat → Nat) → Prop) : Int → Nat → Prop := fun cc key => ∃ g' : Nat → Nat, (∀ p, p < P → g' p ≤ c p) ∧ Q g' ∧ ofr F G wd hd ls od (rowG c w g' P) (costG c k g' no P) cc key
theorem p_nest {P no od F : Nat} {c w k : Nat → Nat} {G wd : Nat → Nat → Nat} {hd ls : Option Nat} (hW : WH P c w k) (hG : GW F G wd) (hhF : ∀ f, hd = some f → f < F) (hlF : ∀ f, ls = some f → f < F) (hno : no ≤ 99) (hod : od ≤ 99) : ∀ m j, j + m = P → ∀ (M : MM) (t : T2) (g : Nat → Nat) (d2 d3 d4 : Option AV), LB M P c w k no od F G wd hd ls → WG M P c g → (∀ p, j ≤ p → p < P → g p = 0) → RM M t → okT t → ∃ (M' : MM) (t' : T2) (e2 : Int32) (e4 : Option AV), gX10_readAll 43 [some (.inr (some 19)), some (.inl (nI 1)), d2, d3, d4] [] M = gX10_readAll 176 [some (.inr (some 19)), some (.inl (nI 1)), some (.inl e2), some (.inl (sI P)), e4] [] M' ∧ (∀ p, p < P → M' 39 p = nI (if p < j then g p else c p)) ∧ RM M' t' ∧ okT t' ∧ FRA M M' ∧ ∀ A, P2 A t → P2 (fun cc key => A cc key ∨ CO P c w k no F G wd hd ls od (fun g' => ∀ p, p < j → g' p = g p) cc key) t' := by
  have h8 := hW.1
  intro m
  induction m with
  | zero =>
    intro j hj M t g d2 d3 d4 hL hg hz hR hok
    obtain rfl : j = P := by omega
    obtain ⟨M', t', e2, e4, i1, i2, i3, i4, i5, i6⟩ := p_one hW hG hhF hlF hno hod hL hg hR hok d2 d3 d4
    refine ⟨M', t', e2, e4, i1, fun p hp => by rw [i5 p, if_pos hp]; exact (hg p hp).1, i2, i3, i4, fun A hA => P2_congr (i6 A hA) (fun cc key => ⟨fun q => ?_, fun q => ?_⟩)⟩
    · rcases q with q | q
      · exact Or.inl q
      · exact Or.inr ⟨g, fun p hp => (hg p hp).2, fun _ _ => rfl, q⟩
    · rcases q with q | ⟨g', -, q2, q3⟩
      · exact Or.inl q
      · rw [rowG_congr _ q2, costG_congr _ q2] at q3
        exact Or.inr q3
  | succ m ih =>
    intro j hj
    have hjP : j < P := by omega
    have h4 := (hW.2 j hjP).1
    have inner : ∀ n (M : MM) (t : T2) (g : Nat → Nat) (d2 d3 d4 : Option AV), g j + n = c j → LB M P c w k no od F G wd hd ls → WG M P c g → (∀ p, j < p → p < P → g p = 0) → RM M t → okT t → ∃ (M' : MM) (t' : T2) (e2 : Int32) (e4 : Option AV), gX10_readAll 43 [some (.inr (some 19)), some (.inl (nI 1)), d2, d3, d4] [] M = gX10_readAll 176 [some (.inr (some 19)), some (.inl (nI 1)), some (.inl e2), some (.inl (sI P)), e4] [] M' ∧ (∀ p, p < P → M' 39 p = nI (if p < j then g p else c p)) ∧ RM M' t' ∧ okT t' ∧ FRA M M' ∧ ∀ A, P2 A t → P2 (fun cc key => A cc key ∨ CO P c w k no F G wd hd ls od (fun g' => (∀ p, p < j → g' p = g p) ∧ g j ≤ g' j) cc key) t' := by
      intro n
      induction n with
      | zero =>
        intro M t g d2 d3 d4 hn hL hg hz hR hok
        obtain ⟨M', t', e2, e4, i1, i2, i3, i4, i5, i6⟩ := ih (j + 1) (by omega) M t g d2 d3 d4 hL hg (fun p a b => hz p (by omega) b) hR hok
        refine ⟨M', t', e2, e4, i1, fun p hp => ?_, i3, i4, i5, fun A hA => P2_congr (i6 A hA) (fun cc key => ⟨fun q => ?_, fun q => ?_⟩)⟩
        · rw [i2 p hp]
          by_cases h1 : p < j
          · rw [if_pos h1, if_pos (by omega)]
          · rw [if_neg h1]
            by_cases h2 : p < j + 1
            · obtain rfl : p = j := by omega
              rw [if_pos h2, show g p = c p by omega]
            · rw [if_neg h2]
        · rcases q with q | ⟨g', q1, q2, q3⟩
          · exact Or.inl q
          · exact Or.inr ⟨g', q1, ⟨fun p hp => q2 p (by omega), by rw [q2 j (by omega)]; exact Nat.le_refl _⟩, q3⟩
        · rcases q with q | ⟨g', q1, ⟨q2, q4⟩, q3⟩
          · exact Or.inl q
          · refine Or.inr ⟨g', q1, fun p hp => ?_, q3⟩
            by_cases h1 : p < j
            · exact q2 p h1
            · obtain rfl : p = j := by omega
              have := q1 p hjP
              omega
      | succ n ihn =>
        intro M t g d2 d3 d4 hn hL hg hz hR hok
        obtain ⟨M1, t1, e2, e4, i1, i2, i3, i4, i5, i6⟩ := ih (j + 1) (by omega) M t g d2 d3 d4 hL hg (fun p a b => hz p (by omega) b) hR hok
        have hL1 := hL.fr i5
        obtain ⟨M2, k1, k2, k3, k4⟩ := p_walk (P := P) (j := j + 1) (c := c) (x1 := nI 1) (x2 := e2) h8 (P - (j + 1)) P M1 e4 (by omega) (Nat.le_refl _) (fun p hp => ⟨(hL1.1.2 p hp).1, (hW.2 p hp).1⟩) (fun p a b => by rw [i2 p b, if_neg (by omega)])
        have gj := gI (c := j) (N := 8) (by omega) (by omega)
        have ej : M2 39 j = nI (g j) := by rw [k3 j (Or.inl (by omega)), i2 j hjP, if_pos (by omega)]
        have ec : M2 32 j = nI (c j) := by rw [k4 32 j (by decide)]; exact (hL1.1.2 j hjP).1
        have hjn : ¬ nI j < 0 := by rw [L0, q_lt (by omega) (by omega)]; omega
        have hstep : gX10_readAll 176 [some (.inr (some 19)), some (.inl (nI 1)), some (.inl e2), some (.inl (sI (j + 1))), e4] [] M2 = gX10_readAll 43 [some (.inr (some 19)), some (.inl (nI 1)), some (.inl e2), some (.inl (nI j)), e4] [] (st2 M2 39 j (nI (g j + 1))) := by
          have es : sI (j + 1) = nI j := rfl
          rw [es, eX10_readAll_176, if_neg hjn, q_cl (show j < 2147483648 by omega), if_neg gj, if_neg gj, ej, ec, if_neg (by rw [q_eq (by omega) (by omega)]; omega), if_neg hjn, eX10_readAll_217, if_neg (show ¬ (1 : Int32) = 0 by decide), q_cl (show j < 2147483648 by omega), if_neg gj, if_neg gj, ej, L1, q_add]
        have f2 : FRA M (st2 M2 39 j (nI (g j + 1))) := fun c' j' a b d e f q => by rw [st2_nc _ f, k4 c' j' f, i5 c' j' a b d e f q]
        have hR2 : RM (st2 M2 39 j (nI (g j + 1))) t1 := by
          have cp : ∀ c', c' = 35 ∨ c' = 36 ∨ c' = 37 → ∀ j', st2 M2 39 j (nI (g j + 1)) c' j' = M1 c' j' := fun c' hc j' => by
            rw [st2_nc _ (by omega), k4 c' j' (by omega)]
          exact ⟨RM1_copy i3.1 (cp 37 (by omega) 0) (cp 35 (by omega) 0) (cp 36 (by omega) 0), RM1_copy i3.2 (cp 37 (by omega) 1) (cp 35 (by omega) 1) (cp 36 (by omega) 1)⟩
        have hg2 : WG (st2 M2 39 j (nI (g j + 1))) P c (fun p => if p = j then g j + 1 else if p < j then g p else 0) := fun p hp => by
          by_cases h1 : p = j
          · subst h1
            rw [st2_at]
            dsimp only
            rw [if_pos rfl]
            exact ⟨rfl, by omega⟩
          · rw [st2_nj _ h1]
            dsimp only
            rw [if_neg h1]
            by_cases h2 : p < j
            · rw [if_pos h2, k3 p (Or.inl (by omega)), i2 p hp, if_pos (by omega)]
              exact ⟨rfl, (hg p hp).2⟩
            · rw [if_neg h2, k2 p (by omega) hp]
              exact ⟨rfl, Nat.zero_le _⟩
        obtain ⟨M3, t3, e2', e4', l1, l2, l3, l4, l5, l6⟩ := ihn (st2 M2 39 j (nI (g j + 1))) t1 (fun p => if p = j then g j + 1 else if p < j then g p else 0) (some (.inl e2)) (some (.inl (nI j))) e4 (by show (if j = j then g j + 1 else _) + n = c j; rw [if_pos rfl]; omega) (hL.fr f2) hg2 (fun p a b => by show (if p = j then _ else _) = 0; rw [if_neg (by omega), if_neg (by omega)]) hR2 i4
        refine ⟨M3, t3, e2', e4', ?_, fun p hp => ?_, l3, l4, f2.trans l5, fun A hA => P2_congr (l6 _ (i6 A hA)) (fun cc key => ⟨fun q => ?_, fun q => ?_⟩)⟩
        · rw [i1, k1, hstep]
          exact l1
        · rw [l2 p hp]
          by_cases h1 : p < j
          · rw [if_pos h1, if_pos h1, if_pos h1, if_neg (show ¬ p = j by omega)]
          · rw [if_neg h1, if_neg h1]
        · rcases q with (q | ⟨g', q1, q2, q3⟩) | ⟨g', q1, ⟨q2, q4⟩, q3⟩
          · exact Or.inl q
          · exact Or.inr ⟨g', q1, ⟨fun p hp => q2 p (by omega), by rw [q2 j (by omega)]; exact Nat.le_refl _⟩, q3⟩
          · refine Or.inr ⟨g', q1, ⟨fun p hp => ?_, ?_⟩, q3⟩
            · have := q2 p hp
              rw [if_neg (by omega), if_pos hp] at this
              exact this
            · rw [if_pos rfl] at q4
              omega
        · rcases q with q | ⟨g', q1, ⟨q2, q4⟩, q3⟩
          · exact Or.inl (Or.inl q)
          · by_cases h1 : g' j = g j
            · refine Or.inl (Or.inr ⟨g', q1, fun p hp => ?_, q3⟩)
              by_cases h2 : p < j
              · exact q2 p h2
              · obtain rfl : p = j := by omega
                exact h1
            · refine Or.inr ⟨g', q1, ⟨fun p hp => ?_, ?_⟩, q3⟩
              · rw [if_neg (by omega), if_pos hp]
                exact q2 p hp
              · rw [if_pos rfl]
                omega
    intro M t g d2 d3 d4 hL hg hz hR hok
    have hj0 := hz j (Nat.le_refl _) hjP
    obtain ⟨M', t', e2, e4, i1, i2, i3, i4, i5, i6⟩ := inner (c j) M t g d2 d3 d4 (by omega) hL hg (fun p a b => hz p (by omega) b) hR hok
    refine ⟨M', t', e2, e4, i1, i2, i3, i4, i5, fun A hA => P2_congr (i6 A hA) (fun cc key => ⟨fun q => ?_, fun q => ?_⟩)⟩
    · rcases q with q | ⟨g', q1, ⟨q2, q4⟩, q3⟩
      · exact Or.inl q
      · exact Or.inr ⟨g', q1, q2, q3⟩
    · rcases q with q | ⟨g', q1, q2, q3⟩
      · exact Or.inl q
      · exact Or.inr ⟨g', q1, ⟨q2, by omega⟩, q3⟩
theorem p_readAll {P no od F : Nat} {c w k : Nat → Nat} {G wd : Nat → Nat → Nat} {hd ls : Option Nat} {M : MM} (hW : WH P c w k) (hG : GW F G wd) (hhF : ∀ f, hd = some f → f < F) (hlF : ∀ f, ls = some f → f < F) (hno : no ≤ 99) (hod : od ≤ 99) (hL : LB M P c w k no od F G wd hd ls) : ∃ (M' : MM) (t' : T2), mX10_readAll [.inr (some 19)] M = some (none, M') ∧ RM M' t' ∧ okT t' ∧ FRA M M' ∧ P2 (CO P c w k no F G wd hd ls od (fun _ => True)) t' := by
  have h8 := hW.1
  -- the wheels begin at 0
  have init : ∀ m p (M1 : MM), p + m = P → M1 19 16 = nI P → ∃ M2 : MM, gX10_readAll 20 [some (.inr (some 19)), some (.inl (nI p)), none, none, none] [] M1 = gX10_readAll 43 [some (.inr (some 19)), some (.inl (nI 1)), none, none, none] [] M2 ∧ (∀ q, p ≤ q → q < P → M2 39 q = nI 0) ∧ (∀ q, q < p → M2 39 q = M1 39 q) ∧ ∀ c' j, c' ≠ 39 → M2 c' j = M1 c' j := by
    intro m
    induction m with
    | zero =>
      intro p M1 hp h16
      refine ⟨M1, ?_, fun q a b => by omega, fun _ _ => rfl, fun _ _ _ => rfl⟩
      rw [eX10_readAll_20, h16, if_pos (nI_le (show P ≤ p by omega) (by omega)), L1]
    | succ m ih =>
      intro p M1 hp h16
      have gp := gI (c := p) (N := 8) (by omega) (by omega)
      obtain ⟨M2, a1, a2, a3, a4⟩ := ih (p + 1) (st2 M1 39 p (nI 0)) (by omega) (by rw [st2_nc _ (by decide)]; exact h16)
      refine ⟨M2, ?_, fun q a b => ?_, fun q a => ?_, fun c' j q => by rw [a4 c' j q, st2_nc _ q]⟩
      · rw [eX10_readAll_20, h16, if_neg (by rw [q_le (by omega) (by omega)]; omega), q_cl (show p < 2147483648 by omega), if_neg gp, L1, q_add, L0]
        exact a1
      · by_cases he : q = p
        · rw [he, a3 p (by omega), st2_at]
        · exact a2 q (by omega) b
      · rw [a3 q (by omega), st2_nj _ (by omega)]
  rw [iX10_readAll, eX10_readAll_0, L0, p_set (by omega)]
  simp only [bnd0, Option.toList_none, List.nil_append, eX10_readAll_9]
  rw [L1, p_set (by omega)]
  simp only [bnd0, Option.toList_none, List.nil_append, eX10_readAll_18]
  generalize hM1 : st2 (st2 (st2 (st2 (st2 (st2 M 37 0 1000000) 35 0 (nI 0)) 36 0 (nI 0)) 37 1 1000000) 35 1 0) 36 1 0 = M1
  have f1 : FRA M M1 := fun c' j a b d e f q => by
    rw [← hM1]
    simp only [st2_nc _ a, st2_nc _ b, st2_nc _ d]
  have hR1 : RM M1 (none, none) := by
    rw [← hM1]
    constructor
    · show _ = _
      simp (disch := omega) only [st2_nc, st2_nj, st2_at]
      rfl
    · show _ = _
      simp (disch := omega) only [st2_nc, st2_nj, st2_at]
      rfl
  obtain ⟨M2, a1, a2, a3, a4⟩ := init P 0 M1 (by omega) (hL.fr f1).1.1
  have f2 : FRA M M2 := fun c' j a b d e f q => by rw [a4 c' j f, f1 c' j a b d e f q]
  have hR2 : RM M2 (none, none) := ⟨RM1_copy hR1.1 (a4 37 0 (by decide)) (a4 35 0 (by decide)) (a4 36 0 (by decide)), RM1_copy hR1.2 (a4 37 1 (by decide)) (a4 35 1 (by decide)) (a4 36 1 (by decide))⟩
  obtain ⟨M3, t', e2, e4, i1, i2, i3, i4, i5, i6⟩ := p_nest hW hG hhF hlF hno hod P 0 (by omega) M2 (none, none) (fun _ => 0) none none none (hL.fr f2) (fun p hp => ⟨a2 p (Nat.zero_le _) hp, Nat.zero_le _⟩) (fun _ _ _ => rfl) hR2 ⟨trivial, trivial, fun h => h⟩
  have hL3 := hL.fr (f2.trans i5)
  obtain ⟨M4, k1, k2, k3, k4⟩ := p_walk (P := P) (j := 0) (c := c) (x1 := nI 1) (x2 := e2) h8 P P M3 e4 (by omega) (Nat.le_refl _) (fun p hp => ⟨(hL3.1.2 p hp).1, (hW.2 p hp).1⟩) (fun p a b => by rw [i2 p b, if_neg (by omega)])
  refine ⟨M4, t', ?_, ⟨RM1_copy i3.1 (k4 37 0 (by decide)) (k4 35 0 (by decide)) (k4 36 0 (by decide)), RM1_copy i3.2 (k4 37 1 (by decide)) (k4 35 1 (by decide)) (k4 36 1 (by decide))⟩, i4, fun c' j a b d e f q => by rw [k4 c' j f, i5 c' j a b d e f q, f2 c' j a b d e f q], ?_⟩
  · refine Eq.trans a1 (i1.trans (k1.trans ?_))
    rw [eX10_readAll_176, if_pos (show sI 0 < 0 by decide), if_pos (show sI 0 < 0 by decide), eX10_readAll_217, if_pos rfl, eX10_readAll_43, if_pos rfl]
  · have h0 : P2 (fun _ _ => False) ((none, none) : T2) := fun _ _ h => h
    refine P2_congr (i6 _ h0) (fun cc key => ⟨fun q => ?_, fun q => ?_⟩)
    · rcases q with q | ⟨g', q1, -, q3⟩
      · exact q.elim
      · exact ⟨g', q1, trivial, q3⟩
    · obtain ⟨g', q1, -, q3⟩ := q
      exact Or.inr ⟨g', q1, fun p hp => absurd hp (Nat.not_lt_zero _), q3⟩
