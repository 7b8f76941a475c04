/-! The class's read: what it offers. -/
def DSx (P no od s n ck : Nat) (c w k : Nat → Nat) : Int → Nat → Prop := fun cc key => ∃ x v, QD n ck s no c w k P (2 * n) 0 x v ∧ cc = (P * no : Nat) + x + (if s = 0 then 0 else (od : Int)) ∧ key = key2 s v
theorem P2_insM {A : Int → Nat → Prop} {t : T2} (h : P2 A t) (o : Option (Int × Nat)) (P no od s : Nat) : P2 (fun cc key => A cc key ∨ ∃ x v, o = some (x, v) ∧ cc = (P * no : Nat) + x + (if s = 0 then 0 else (od : Int)) ∧ key = key2 s v) (insM t o P no od s) := by
  cases o with
  | none =>
    refine P2_congr h (fun cc key => ⟨Or.inl, fun q => ?_⟩)
    rcases q with q | ⟨x, v, e, -⟩
    · exact q
    · cases e
  | some q =>
    obtain ⟨x0, v0⟩ := q
    refine P2_congr (P2_ins h _ _) (fun cc key => ⟨fun q => ?_, fun q => ?_⟩)
    · rcases q with q | ⟨rfl, rfl⟩
      · exact Or.inl q
      · exact Or.inr ⟨x0, v0, rfl, rfl, rfl⟩
    · rcases q with q | ⟨x, v, e, h1, h2⟩
      · exact Or.inl q
      · cases e
        exact Or.inr ⟨h1, h2⟩
theorem P2_DS {A : Int → Nat → Prop} {t : T2} {P no od s n ck : Nat} {c w k : Nat → Nat} (hW : WH P c w k) (hn : n ≤ 8) (h : P2 A t) : P2 (fun cc key => A cc key ∨ DSx P no od s n ck c w k cc key) (if P < n then t else insM (insM t (runD n ck s no c w k P 0 (D00 s) (2 * n) 0).1 P no od s) (runD n ck s no c w k P 0 (D00 s) (2 * n) 0).2 P no od s) := by
  by_cases hPn : P < n
  · rw [if_pos hPn]
    refine P2_congr h (fun cc key => ⟨Or.inl, fun q => ?_⟩)
    rcases q with q | ⟨x, v, ⟨l, h1, h2⟩, -⟩
    · exact q
    · have h3 := PF_len l _ _ h2
      dsimp only at h3
      have h4 : l.length ≤ P := by
        unfold PRs at h1
        split at h1
        · exact PR_len _ _ _ h1
        · have := PR_len _ _ _ h1
          rw [List.length_cons] at this
          omega
      omega
  · rw [if_neg hPn]
    have hq := PD_fin (ck := ck) (no := no) (s := s) hW hn
    generalize runD n ck s no c w k P 0 (D00 s) (2 * n) 0 = a at hq ⊢
    have h1 := P2_insM (P2_insM h a.1 P no od s) a.2 P no od s
    refine P2_dom h1 (fun cc key q => ?_) (fun cc key q => ?_)
    · rcases q with (q | ⟨x, v, e, h2, h3⟩) | ⟨x, v, e, h2, h3⟩
      · exact Or.inl q
      · exact Or.inr ⟨x, v, P2_in hq (Or.inl e), h2, h3⟩
      · exact Or.inr ⟨x, v, P2_in hq (Or.inr e), h2, h3⟩
    · rcases q with q | ⟨x, v, q, rfl, rfl⟩
      · exact Or.inl ⟨cc, Int.le_refl _, Or.inl (Or.inl q)⟩
      · have tt : ∀ x v, two2 a x v → ((A ((P * no : Nat) + x + (if s = 0 then 0 else (od : Int))) (key2 s v) ∨ ∃ x' v', a.1 = some (x', v') ∧ (P * no : Nat) + x + (if s = 0 then 0 else (od : Int)) = (P * no : Nat) + x' + (if s = 0 then 0 else (od : Int)) ∧ key2 s v = key2 s v') ∨ ∃ x' v', a.2 = some (x', v') ∧ (P * no : Nat) + x + (if s = 0 then 0 else (od : Int)) = (P * no : Nat) + x' + (if s = 0 then 0 else (od : Int)) ∧ key2 s v = key2 s v') := fun x v e => by
          rcases e with e | e
          · exact Or.inl (Or.inr ⟨x, v, e, rfl, rfl⟩)
          · exact Or.inr ⟨x, v, e, rfl, rfl⟩
        rcases P2_two hq q with ⟨c', g1, g2⟩ | ⟨c1, k1, c2, k2, g0, g1, g2, g3, g4⟩
        · exact Or.inl ⟨_, by omega, tt c' v g2⟩
        · unfold le2 at g3 g4
          refine Or.inr ⟨_, _, _, _, ?_, tt c1 k1 g1, tt c2 k2 g2, ?_, ?_⟩
          · unfold key2; omega
          · unfold le2 key2; omega
          · unfold le2 key2; omega
def FR5 (M M' : MM) : Prop := ∀ c' j, c' ≠ 11 → c' ≠ 12 → c' ≠ 13 → c' ≠ 16 → c' ≠ 17 → M' c' j = M c' j
theorem FR5.trans {M M1 M2 : MM} (h1 : FR5 M M1) (h2 : FR5 M1 M2) : FR5 M M2 := fun c' j a b c d e => (h2 c' j a b c d e).trans (h1 c' j a b c d e)
theorem FR2.to5 {M M' : MM} (h : FR2 M M') : FR5 M M' := fun c' j a b _ _ _ => h c' j a b
theorem RHx.fr5 {M M' : MM} {P : Nat} {c w k : Nat → Nat} (h : RHx M P c w k) (hf : FR5 M M') : RHx M' P c w k := h.congr (hf 2 3 (by decide) (by decide) (by decide) (by decide) (by decide)) (funext fun j => hf 7 j (by decide) (by decide) (by decide) (by decide) (by decide)) (funext fun j => hf 8 j (by decide) (by decide) (by decide) (by decide) (by decide)) (funext fun j => hf 9 j (by decide) (by decide) (by decide) (by decide) (by decide))
theorem RNx.fr5 {M M' : MM} {no od ne : Nat} (h : RNx M no od ne) (hf : FR5 M M') : RNx M' no od ne := ⟨(hf 3 4 (by decide) (by decide) (by decide) (by decide) (by decide)).trans h.1, (hf 3 5 (by decide) (by decide) (by decide) (by decide) (by decide)).trans h.2.1, (hf 3 6 (by decide) (by decide) (by decide) (by decide) (by decide)).trans h.2.2⟩
theorem SX.fr5 {M M' : MM} {F : Nat} {G wd : Nat → Nat → Nat} (h : SX M F G wd) (hf : FR5 M M') (hG : GW F G wd) : SX M' F G wd := h.fr (hf 1 1 (by decide) (by decide) (by decide) (by decide) (by decide)) (fun c j q _ => hf c j (by omega) (by omega) (by omega) (by omega) (by omega)) hG
theorem SX.fr2 {M M' : MM} {F : Nat} {G wd : Nat → Nat → Nat} (h : SX M F G wd) (hf : FR2 M M') (hG : GW F G wd) : SX M' F G wd := h.fr5 hf.to5 hG
theorem p_slotAt {M : MM} {F : Nat} {o : Option Nat} (hF : F ≤ 12) (h1 : M 1 1 = nI F) (ho : ∀ f, o = some f → f < F) : mX1_slotAt [.inr (some 1), .inl (oI o)] M = some (some (.inr (o.map (fun f => f + 44))), M) := by
  rw [iX1_slotAt, eX1_slotAt_0]
  cases o with
  | none =>
    rw [if_pos (show oI none < 0 by decide)]
    rfl
  | some f =>
    have hf := ho f rfl
    have eo : oI (some f) = nI f := rfl
    rw [eo, if_neg (by rw [L0, q_lt (by omega) (by omega)]; omega), h1, if_neg (by rw [q_le (by omega) (by omega)]; omega), if_neg (by rw [L12, q_le (by omega) (by omega)]; omega), q_cl (by omega), if_neg (gI (by omega) (by omega))]
    rfl
/-- what the field offers, of the sort s -/
def CA (P no od : Nat) (G wd : Nat → Nat → Nat) (c w k : Nat → Nat) (o : Option Nat) (s : Nat) : Int → Nat → Prop := fun cc key => ∃ f, o = some f ∧ ((G 1 f = 0 ∧ SLp P no od s c w k (fun x => fnd (wd f) x 0 (G 4 f)) 0 0 True cc key) ∨ (G 1 f ≠ 0 ∧ DSx P no od s (G 1 f) (G 2 f) c w k cc key))
theorem p_offerAnswers {M : MM} {P no od ne F s : Nat} {G wd : Nat → Nat → Nat} {c w k : Nat → Nat} {t : T2} {o : Option Nat} (hW : WH P c w k) (hG : GW F G wd) (hS : SX M F G wd) (ho : ∀ f, o = some f → f < F) (hno : no ≤ 99) (hod : od ≤ 99) (hs : s ≤ 8) (hH : RHx M P c w k) (hN : RNx M no od ne) (hR : RT M 11 12 0 t) (hok : okT t) : ∃ (M' : MM) (t' : T2), mX4_offerAnswers [.inr (some 3), .inr (o.map (fun f => f + 44)), .inl (nI s)] M = some (none, M') ∧ RT M' 11 12 0 t' ∧ okT t' ∧ FR5 M M' ∧ ∀ A, P2 A t → P2 (fun cc key => A cc key ∨ CA P no od G wd c w k o s cc key) t' := by
  rw [iX4_offerAnswers, eX4_offerAnswers_0]
  cases o with
  | none => exact ⟨M, t, rfl, hR, hok, fun _ _ _ _ _ _ _ => rfl, fun A hA => P2_congr hA (fun cc key => ⟨Or.inl, fun q => q.elim id (fun q => by obtain ⟨f, e, -⟩ := q; cases e)⟩)⟩
  | some f =>
    have hf := ho f rfl
    have hF := hG.1
    obtain ⟨b1, b2, b3, b4, b5, b6, b7, b8, b9, b10⟩ := hG.2 f hf
    obtain ⟨a1, a2, a3, a4, a5, a6, a7, a8⟩ := hS.2 f hf
    have hz := zkd_slot (i := f) (by omega)
    show ∃ (M' : MM) (t' : T2), (if zkd (f + 44) = 5 then (if (M (f + 44) 1) ≤ 0 then _ else _) else none) = _ ∧ _
    rw [if_pos hz, a2]
    by_cases h0 : G 1 f = 0
    · rw [if_pos (by rw [h0]; decide)]
      obtain ⟨M', t', g1, g2, g3, g4, g5⟩ := p_offerListed (r1 := some (f + 44)) (num := fun x => fnd (wd f) x 0 (G 4 f)) hW hno hod hs hH hN (fun x v e => by have := fnd_some e; omega) (fun M' x a b c' x3 x4 x5 d6 hx hfr => by
        rw [eX4_offerListed_55]
        dsimp only
        rw [if_neg (by rw [hz]; decide), if_pos hz, p_numberOf5 hG (hS.fr2 hfr hG) hf hx]
        rfl) hR hok
      refine ⟨M', t', ?_, g2, g3, g4.to5, fun A hA => P2_congr (g5 A hA) (fun cc key => ⟨fun q => ?_, fun q => ?_⟩)⟩
      · show (mX4_offerListed [.inr (some 3), .inr (some (f + 44)), .inl (nI s)] M).bind _ = _
        rw [g1]
        simp only [bnd0, Option.toList_none, List.nil_append, eX4_offerAnswers_27]
      · rcases q with q | q
        · exact Or.inl q
        · exact Or.inr ⟨f, rfl, Or.inl ⟨h0, q⟩⟩
      · rcases q with q | ⟨f', e, ⟨-, q⟩ | ⟨h, -⟩⟩
        · exact Or.inl q
        · cases e; exact Or.inr q
        · cases e; exact absurd h0 h
    · rw [if_neg (by rw [L0, q_le (by omega) (by omega)]; omega)]
      obtain ⟨M', g1, g2, g3, g4⟩ := p_offerDigits (s := s) hW b2 b3 hno hod hs (by omega) hH hN a2 a3 hR hok
      refine ⟨M', _, ?_, g2, g3, g4, fun A hA => P2_congr (P2_DS hW b2 hA) (fun cc key => ⟨fun q => ?_, fun q => ?_⟩)⟩
      · show (mX4_offerDigits [.inr (some 3), .inr (some (f + 44)), .inl (nI s)] M).bind _ = _
        rw [g1]
        simp only [bnd0, Option.toList_none, List.nil_append, eX4_offerAnswers_18, eX4_offerAnswers_27]
      · rcases q with q | q
        · exact Or.inl q
        · exact Or.inr ⟨f, rfl, Or.inr ⟨h0, q⟩⟩
      · rcases q with q | ⟨f', e, ⟨h, -⟩ | ⟨-, q⟩⟩
        · exact Or.inl q
        · cases e; exact absurd h h0
        · cases e; exact Or.inr q
/-- all that the class looks at -/
def CX (P no od F : Nat) (G wd : Nat → Nat → Nat) (c w k : Nat → Nat) (hd ls : Option Nat) : Int → Nat → Prop := fun cc key => ((CA P no od G wd c w k hd 0 cc key ∨ SOp P no od c w k 0 0 True cc key) ∨ SLp P no od 7 c w k (fun x => fnd (G 0) x 0 F) 0 0 True cc key) ∨ CA P no od G wd c w k ls 8 cc key
theorem p_readX {M : MM} {P no od ne F : Nat} {G wd : Nat → Nat → Nat} {c w k : Nat → Nat} {t : T2} {hd ls : Option Nat} (hW : WH P c w k) (hG : GW F G wd) (hS : SX M F G wd) (hhF : ∀ f, hd = some f → f < F) (hlF : ∀ f, ls = some f → f < F) (hno : no ≤ 99) (hod : od ≤ 99) (hH : RHx M P c w k) (hN : RNx M no od ne) (hR : RT M 11 12 0 t) (hok : okT t) : ∃ (M' : MM) (t' : T2), mX4_read [.inr (some 3), .inl (oI hd), .inl (oI ls)] M = some (none, M') ∧ RT M' 11 12 0 t' ∧ okT t' ∧ FR5 M M' ∧ ∀ A, P2 A t → P2 (fun cc key => A cc key ∨ CX P no od F G wd c w k hd ls cc key) t' := by
  obtain ⟨M1, t1, a1, a2, a3, a4, a5⟩ := p_offerAnswers (s := 0) hW hG hS hhF hno hod (by omega) hH hN hR hok
  obtain ⟨M2, t2, b1, b2, b3, b4, b5⟩ := p_offerOrders hW hno hod (hH.fr5 a4) (hN.fr5 a4) a2 a3
  have f2 := a4.trans b4.to5
  have hS2 := hS.fr5 f2 hG
  obtain ⟨M3, t3, d1, d2, d3, d4, d5⟩ := p_offerListed (s := 7) (r1 := some 1) (num := fun x => fnd (G 0) x 0 F) hW hno hod (by omega) (hH.fr5 f2) (hN.fr5 f2) (fun x v e => by have := fnd_some e; have := hG.1; omega) (fun M' x a b c' x3 x4 x5 d6 hx hfr => by
    rw [eX4_offerListed_55]
    dsimp only
    rw [if_pos (show zkd 1 = 1 from rfl), p_numberOf1 hG (hS2.fr2 hfr hG) hx]
    rfl) b2 b3
  have f3 := f2.trans d4.to5
  have hS3 := hS.fr5 f3 hG
  obtain ⟨M4, t4, e1, e2, e3, e4, e5⟩ := p_offerAnswers (s := 8) hW hG hS3 hlF hno hod (by omega) (hH.fr5 f3) (hN.fr5 f3) d2 d3
  refine ⟨M4, t4, ?_, e2, e3, f3.trans e4, fun A hA => P2_congr (e5 _ (d5 _ (b5 _ (a5 A hA)))) (fun cc key => ⟨fun q => ?_, fun q => ?_⟩)⟩
  · rw [iX4_read, eX4_read_0, p_slotAt hG.1 hS.1 hhF]
    simp only [bnd1, Option.toList_some, List.cons_append, List.nil_append, eX4_read_9]
    rw [L0, a1]
    simp only [bnd0, Option.toList_none, List.nil_append, eX4_read_13]
    rw [b1]
    simp only [bnd0, Option.toList_none, List.nil_append, eX4_read_17]
    rw [L7, d1]
    simp only [bnd0, Option.toList_none, List.nil_append, eX4_read_27]
    rw [p_slotAt hG.1 hS3.1 hlF]
    simp only [bnd1, Option.toList_some, List.cons_append, List.nil_append, eX4_read_36]
    rw [L8, e1]
    simp only [bnd0, Option.toList_none, List.nil_append, eX4_read_41]
  · rcases q with (((q | q) | q) | q) | q
    · exact Or.inl q
    · exact Or.inr (Or.inl (Or.inl (Or.inl q)))
    · exact Or.inr (Or.inl (Or.inl (Or.inr q)))
    · exact Or.inr (Or.inl (Or.inr q))
    · exact Or.inr (Or.inr q)
  · rcases q with q | ((q | q) | q) | q
    · exact Or.inl (Or.inl (Or.inl (Or.inl q)))
    · exact Or.inl (Or.inl (Or.inl (Or.inr q)))
    · exact Or.inl (Or.inl (Or.inr q))
    · exact Or.inl (Or.inr q)
    · exact Or.inr q
