/-! readAll: one row is built of the wheels. -/
def rowG (c w g : Nat → Nat) : Nat → List Nat
  | 0 => []
  | p + 1 => if g p < c p then rowG c w g p ++ [w (4 * p + g p)] else rowG c w g p
def costG (c k g : Nat → Nat) (no : Nat) : Nat → Nat
  | 0 => 0
  | p + 1 => costG c k g no p + (if g p < c p then k (4 * p + g p) else no)
theorem rowG_len (c w g : Nat → Nat) : ∀ p, (rowG c w g p).length ≤ p := by
  intro p
  induction p with
  | zero => exact Nat.le_refl _
  | succ p ih =>
    unfold rowG
    split
    · rw [List.length_append]; show _ + 1 ≤ _; omega
    · omega
theorem rowG_congr {c w g g' : Nat → Nat} : ∀ p, (∀ q, q < p → g q = g' q) → rowG c w g p = rowG c w g' p := by
  intro p
  induction p with
  | zero => intro _; rfl
  | succ p ih =>
    intro h
    unfold rowG
    rw [ih (fun q hq => h q (by omega)), h p (by omega)]
theorem costG_congr {c k g g' : Nat → Nat} {no : Nat} : ∀ p, (∀ q, q < p → g q = g' q) → costG c k g no p = costG c k g' no p := by
  intro p
  induction p with
  | zero => intro _; rfl
  | succ p ih =>
    intro h
    unfold costG
    rw [ih (fun q hq => h q (by omega)), h p (by omega)]
theorem costG_le {P : Nat} {c w k g : Nat → Nat} {no : Nat} (hW : WH P c w k) (hno : no ≤ 99) : ∀ p, p ≤ P → costG c k g no p ≤ 99 * p := by
  intro p
  induction p with
  | zero => intro _; exact Nat.le_refl _
  | succ p ih =>
    intro h
    have := ih (by omega)
    unfold costG
    split
    · rename_i h1
      have := ((hW.2 p (by omega)).2.1 (g p) h1).2
      omega
    · omega
theorem gl_app_l {l l' : List Nat} {k : Nat} (h : k < l.length) : gl (l ++ l') k = gl l k := by
  unfold gl
  rw [List.getD_eq_getElem?_getD, List.getD_eq_getElem?_getD, List.getElem?_append_left h]
theorem gl_app_r {l : List Nat} {x : Nat} : gl (l ++ [x]) l.length = x := by
  unfold gl
  rw [List.getD_eq_getElem?_getD, List.getElem?_append_right (Nat.le_refl _), Nat.sub_self]
  rfl
/-- the row so far -/
def RWp (M : MM) (l : List Nat) : Prop := M 19 24 = nI l.length ∧ ∀ k, k < l.length → gl l k ≤ 59 ∧ M 38 k = nI (gl l k)
def FR38 (M M' : MM) : Prop := ∀ c' j, c' ≠ 38 → ¬ (c' = 19 ∧ j = 24) → M' c' j = M c' j
/-- the wheels -/
def WG (M : MM) (P : Nat) (c g : Nat → Nat) : Prop := ∀ p, p < P → M 39 p = nI (g p) ∧ g p ≤ c p
theorem p_row {P no : Nat} {c w k g : Nat → Nat} {x1 : Int32} (hW : WH P c w k) : ∀ m p (M : MM) (d4 : Option AV), p + m = P → RHm M P c w k → M 19 12 = nI no → WG M P c g → RWp M (rowG c w g p) → ∃ (M' : MM) (e4 : Option AV), gX10_readAll 56 [some (.inr (some 19)), some (.inl x1), some (.inl (nI (costG c k g no p))), some (.inl (nI p)), d4] [] M = (mX10_read [.inr (some 19), .inl (nI (costG c k g no P))] M').bind (fun r => gX10_readAll 169 [some (.inr (some 19)), some (.inl x1), some (.inl (nI (costG c k g no P))), some (.inl (nI P)), e4] (r.1.toList ++ []) r.2) ∧ RWp M' (rowG c w g P) ∧ FR38 M M' := by
  have h8 := hW.1
  intro m
  induction m with
  | zero =>
    intro p M d4 hp hH hno hg hr
    obtain rfl : p = P := by omega
    refine ⟨M, d4, ?_, hr, fun _ _ _ _ => rfl⟩
    rw [eX10_readAll_56, hH.1, if_pos (nI_le (Nat.le_refl _) (by omega))]
  | succ m ih =>
    intro p M d4 hp hH hno hg hr
    have hpP : p < P := by omega
    obtain ⟨g1, g2⟩ := hg p hpP
    have h4 := (hW.2 p hpP).1
    have hlen := rowG_len c w g p
    have gp := gI (c := p) (N := 8) (by omega) (by omega)
    rw [eX10_readAll_56, hH.1, if_neg (by rw [q_le (by omega) (by omega)]; omega), q_cl (show p < 2147483648 by omega), if_neg gp, if_neg gp, g1, (hH.2 p hpP).1]
    by_cases hlt : g p < c p
    · have gi := gI (c := 4 * p + g p) (N := 32) (by omega) (by omega)
      obtain ⟨w1, w2⟩ := (hH.2 p hpP).2 (g p) hlt
      have w59 := ((hW.2 p hpP).2.1 (g p) hlt).1
      have gr := gI (c := (rowG c w g p).length) (N := 8) (by omega) (by omega)
      have er : rowG c w g (p + 1) = rowG c w g p ++ [w (4 * p + g p)] := by
        show (if g p < c p then rowG c w g p ++ [w (4 * p + g p)] else rowG c w g p) = _
        rw [if_pos hlt]
      have ec : costG c k g no (p + 1) = costG c k g no p + k (4 * p + g p) := by
        show costG c k g no p + (if g p < c p then k (4 * p + g p) else no) = _
        rw [if_pos hlt]
      rw [if_neg (by rw [q_eq (by omega) (by omega)]; omega), eX10_readAll_84, q_cl (show p < 2147483648 by omega), g1, L4, q_mul, q_add, q_cl (show 4 * p + g p < 2147483648 by omega), if_pos (show (0 : Int32) = 0 from rfl), if_neg gp, if_neg gi, if_pos (show (0 : Int32) = 0 from rfl), if_neg gp, if_neg gi, hr.1, q_cl (show (rowG c w g p).length < 2147483648 by omega), if_neg gr, w1, w2, st2_nc _ (by decide), hr.1, L1, q_add, q_add, q_add, ← ec]
      obtain ⟨M', e4, i1, i2, i3⟩ := ih (p + 1) (st2 (st2 M 38 (rowG c w g p).length (nI (w (4 * p + g p)))) 19 24 (nI ((rowG c w g p).length + 1))) (some (.inl 0)) (by omega) (hH.congr (by rw [st2_nj _ (by decide), st2_nc _ (by decide)]) (by funext j; rw [st2_nc _ (by decide), st2_nc _ (by decide)]) (by funext j; rw [st2_nc _ (by decide), st2_nc _ (by decide)]) (by funext j; rw [st2_nc _ (by decide), st2_nc _ (by decide)])) (by rw [st2_nj _ (by decide), st2_nc _ (by decide)]; exact hno) (fun q hq => by rw [st2_nc _ (by decide), st2_nc _ (by decide)]; exact hg q hq) (by
        rw [er]
        refine ⟨by rw [st2_at, List.length_append]; rfl, fun i hi => ?_⟩
        rw [st2_nc _ (by decide)]
        rw [List.length_append] at hi
        have hi : i < (rowG c w g p).length + 1 := hi
        by_cases he : i = (rowG c w g p).length
        · rw [he, gl_app_r, st2_at]
          exact ⟨w59, rfl⟩
        · rw [gl_app_l (by omega), st2_nj _ he]
          exact hr.2 i (by omega))
      refine ⟨M', e4, i1, i2, fun c' j q1 q2 => ?_⟩
      rw [i3 c' j q1 q2]
      by_cases hc : c' = 19
      · subst hc
        rw [st2_nj _ (fun e => q2 ⟨rfl, e⟩), st2_nc _ q1]
      · rw [st2_nc _ hc, st2_nc _ q1]
    · have er : rowG c w g (p + 1) = rowG c w g p := by
        show (if g p < c p then rowG c w g p ++ [w (4 * p + g p)] else rowG c w g p) = _
        rw [if_neg hlt]
      have ec : costG c k g no (p + 1) = costG c k g no p + no := by
        show costG c k g no p + (if g p < c p then k (4 * p + g p) else no) = _
        rw [if_neg hlt]
      rw [if_pos (by rw [show g p = c p by omega]), eX10_readAll_84, if_neg (show ¬ (1 : Int32) = 0 by decide), if_neg (show ¬ (1 : Int32) = 0 by decide), hno, L1, q_add, q_add, ← ec]
      obtain ⟨M', e4, i1, i2, i3⟩ := ih (p + 1) M (some (.inl (nI 1))) (by omega) hH hno hg (by rw [er]; exact hr)
      exact ⟨M', e4, i1, i2, i3⟩
/-! the wheels turn -/
theorem p_walk {P j : Nat} {c : Nat → Nat} {x1 x2 : Int32} (h8 : P ≤ 8) : ∀ m r (M : MM) (d4 : Option AV), r = j + m → r ≤ P → (∀ p, p < P → M 32 p = nI (c p) ∧ c p ≤ 4) → (∀ p, j ≤ p → p < r → M 39 p = nI (c p)) → ∃ M' : MM, gX10_readAll 176 [some (.inr (some 19)), some (.inl x1), some (.inl x2), some (.inl (sI r)), d4] [] M = gX10_readAll 176 [some (.inr (some 19)), some (.inl x1), some (.inl x2), some (.inl (sI j)), d4] [] M' ∧ (∀ p, j ≤ p → p < r → M' 39 p = nI 0) ∧ (∀ p, p < j ∨ r ≤ p → M' 39 p = M 39 p) ∧ ∀ c' j', c' ≠ 39 → M' c' j' = M c' j' := by
  intro m
  induction m with
  | zero =>
    intro r M d4 hr hP hc hg
    obtain rfl : r = j := by omega
    exact ⟨M, rfl, fun p a b => by omega, fun _ _ => rfl, fun _ _ _ => rfl⟩
  | succ m ih =>
    intro r M d4 hr hP hc hg
    obtain ⟨r', rfl⟩ : ∃ r', r = r' + 1 := ⟨j + m, by omega⟩
    have gp := gI (c := r') (N := 8) (by omega) (by omega)
    have e1 : ¬ nI r' < 0 := by rw [L0, q_lt (by omega) (by omega)]; omega
    obtain ⟨M', i1, i2, i3, i4⟩ := ih r' (st2 M 39 r' (nI 0)) d4 (by omega) (by omega) (fun p hp => by rw [st2_nc _ (by decide)]; exact hc p hp) (fun p a b => by rw [st2_nj _ (by omega)]; exact hg p a (by omega))
    refine ⟨M', ?_, fun p a b => ?_, fun p a => ?_, fun c' j' q => by rw [i4 c' j' q, st2_nc _ q]⟩
    · have es : sI (r' + 1) = nI r' := rfl
      rw [es, eX10_readAll_176, if_neg e1, q_cl (show r' < 2147483648 by omega), if_neg gp, if_neg gp, hg r' (by omega) (by omega), (hc r' (by omega)).1, if_pos rfl, if_neg gp, L1, sI_pred, L0]
      exact i1
    · by_cases he : p = r'
      · rw [i3 p (Or.inr (by omega)), he, st2_at]
      · exact i2 p a (by omega)
    · rw [i3 p (by omega), st2_nj _ (by omega)]
