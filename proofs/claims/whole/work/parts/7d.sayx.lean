/-! say of the class. -/
theorem KX.fr {M M' : MM} {F : Nat} {G wd : Nat → Nat → Nat} {S : CS} (hK : KX M F G wd S) (hG : GW F G wd) (hf : ∀ c j, c = 1 ∨ c = 4 ∨ c = 14 ∨ c = 18 ∨ 44 ≤ c → M' c j = M c j) : KX M' F G wd S := by
  obtain ⟨vl, hb, sk, hd, ls, pl, n, st, sn, fl, wt, rf, rv, k0, k1⟩ := S
  obtain ⟨c1, c2, c3, c4, c5, c6, c7, c8, c9, c10, c11⟩ := hK
  exact ⟨c1.fr hG (hf 1 1 (by omega)) (fun c j q => hf c j (by omega)), (hf 4 3 (by omega)).trans c2, (hf 4 4 (by omega)).trans c3, (hf 14 1 (by omega)).trans c4, fun i hi => (hf 18 i (by omega)).trans (c5 i hi), (hf 4 5 (by omega)).trans c6, (hf 4 6 (by omega)).trans c7, (hf 4 7 (by omega)).trans c8, (hf 4 8 (by omega)).trans c9, fun q => ⟨(hf 4 9 (by omega)).trans (c10 q).1, (hf 4 10 (by omega)).trans (c10 q).2⟩, fun q => ⟨(hf 4 11 (by omega)).trans (c11 q).1, (hf 4 12 (by omega)).trans (c11 q).2⟩⟩
def hdS (S : CS) : Option Nat := S.2.2.2.1
def lsS (S : CS) : Option Nat := S.2.2.2.2.1
theorem KX_hd {M : MM} {F : Nat} {G wd : Nat → Nat → Nat} {S : CS} (hK : KX M F G wd S) : M 4 3 = oI (hdS S) ∧ M 4 4 = oI (lsS S) ∧ M 4 5 = nI S.2.2.2.2.2.2.2.1 ∧ SX M F G wd := by
  obtain ⟨vl, hb, sk, hd, ls, pl, n, st, sn, fl, wt, rf, rv, k0, k1⟩ := S
  exact ⟨hK.2.1, hK.2.2.1, hK.2.2.2.2.2.1, hK.1.1⟩
theorem IV_hd {F : Nat} {G : Nat → Nat → Nat} {S : CS} (hI : IV F G S) : (∀ f, hdS S = some f → f < F) ∧ (∀ f, lsS S = some f → f < F) ∧ S.2.2.2.2.2.2.2.1 ≤ 1 := by
  obtain ⟨vl, hb, sk, hd, ls, pl, n, st, sn, fl, wt, rf, rv, k0, k1⟩ := S
  exact ⟨hI.1.2.1, fun f e => (hI.1.2.2.1 f e).1, hI.1.2.2.2.2.2.1⟩
theorem p_sayT {M : MM} {F a mi : Nat} {G wd : Nat → Nat → Nat} {S : CS} {t : T2} (hG : GW F G wd) (hK : KX M F G wd S) (hI : IV F G S) (hR : RT M 11 12 0 t) (hok : okT t) (h5 : M 0 5 = nI a) (ha : a ≤ 6) (h6 : M 0 6 = nI mi) (hmi : mi ≤ 9) : ∃ M' : MM, gX9_say 100 [some (.inr (some 0))] [] M = some (some (.inl (nI a)), M') ∧ KX M' F G wd S ∧ RT M' 11 12 0 t ∧ M' 0 5 = nI a ∧ M' 0 6 = nI (miS a mi) ∧ M' 0 7 = (if a = 2 then dfP G (hdS S) t else 0) ∧ M' 2 3 = nI 0 ∧ ∀ c j, c ≠ 0 → ¬ (c = 2 ∧ j = 3) → M' c j = M c j := by
  have hmis : miS a mi ≤ 9 := by unfold miS; split <;> (try split) <;> omega
  have g : ∀ c j, c ≠ 0 → ¬ (c = 2 ∧ j = 3) → st2 (st2 M 2 3 (nI 0)) 0 6 (nI (miS a mi)) c j = M c j := fun c j q1 q2 => by
    rw [st2_nc _ q1]
    by_cases hc : c = 2
    · exact st2_nj' _ (fun e => q2 ⟨hc, e⟩)
    · exact st2_nc _ hc
  have h131 : gX9_say 100 [some (.inr (some 0))] [] M = gX9_say 131 [some (.inr (some 0))] [.inl (nI (miS a mi)), .inr (some 0)] (st2 M 2 3 (nI 0)) := by
    rw [eX9_say_100, iX2_clear, eX2_clear_0]
    simp only [bnd0, Option.toList_none, List.nil_append, eX9_say_107]
    rw [L0, L1, L9, st2_nc _ (by decide), st2_nc _ (by decide), h5, h6, q_add]
    unfold miS
    by_cases h1 : a ≤ 1
    · rw [if_neg (by rw [q_lt (by omega) (by omega)]; omega), if_pos h1]
      by_cases h9 : mi = 9
      · rw [if_pos h9, h9, if_pos (by rw [q_lt (by omega) (by omega)]; omega)]
      · rw [if_neg h9, if_neg (by rw [q_lt (by omega) (by omega)]; omega)]
    · rw [if_pos (by rw [q_lt (by omega) (by omega)]; omega), if_neg h1]
  have e5 : st2 (st2 M 2 3 (nI 0)) 0 6 (nI (miS a mi)) 0 5 = nI a := by rw [st2_nj' _ (by decide), st2_nc _ (by decide)]; exact h5
  have hK1 : KX (st2 (st2 M 2 3 (nI 0)) 0 6 (nI (miS a mi))) F G wd S := hK.fr hG (fun c j q => g c j (by omega) (by omega))
  have hR1 : RT (st2 (st2 M 2 3 (nI 0)) 0 6 (nI (miS a mi))) 11 12 0 t := hR.fr (fun j => g 11 j (by decide) (fun e => by omega)) (fun j => g 12 j (by decide) (fun e => by omega))
  have fin : ∀ y : Int32, KX (st2 (st2 (st2 M 2 3 (nI 0)) 0 6 (nI (miS a mi))) 0 7 y) F G wd S ∧ RT (st2 (st2 (st2 M 2 3 (nI 0)) 0 6 (nI (miS a mi))) 0 7 y) 11 12 0 t ∧ st2 (st2 (st2 M 2 3 (nI 0)) 0 6 (nI (miS a mi))) 0 7 y 0 5 = nI a ∧ st2 (st2 (st2 M 2 3 (nI 0)) 0 6 (nI (miS a mi))) 0 7 y 0 6 = nI (miS a mi) ∧ st2 (st2 (st2 M 2 3 (nI 0)) 0 6 (nI (miS a mi))) 0 7 y 0 7 = y ∧ st2 (st2 (st2 M 2 3 (nI 0)) 0 6 (nI (miS a mi))) 0 7 y 2 3 = nI 0 ∧ ∀ c j, c ≠ 0 → ¬ (c = 2 ∧ j = 3) → st2 (st2 (st2 M 2 3 (nI 0)) 0 6 (nI (miS a mi))) 0 7 y c j = M c j := fun y => by
    refine ⟨hK1.fr hG (fun c j q => st2_nc _ (by omega)), hR1.fr (fun j => st2_nc _ (by decide)) (fun j => st2_nc _ (by decide)), ?_, ?_, st2_at _ _ _ _, ?_, fun c j q1 q2 => (st2_nc _ q1).trans (g c j q1 q2)⟩
    · rw [st2_nj' _ (by decide)]; exact e5
    · rw [st2_nj' _ (by decide), st2_at]
    · rw [st2_nc _ (by decide), st2_nc _ (by decide), st2_at]
  rw [h131, eX9_say_131, e5, L2]
  by_cases h2 : a = 2
  · obtain ⟨j1, j2, j3, j4⟩ := KX_hd hK1
    rw [if_pos (by rw [h2]), if_pos h2, p_difX hG j4 j1 (IV_hd hI).1 hR1 hok]
    simp only [bnd1, Option.toList_some, List.cons_append, List.nil_append, eX9_say_147]
    have f := fin (dfP G (hdS S) t)
    refine ⟨_, ?_, f⟩
    rw [f.2.2.1]
  · rw [if_neg (by rw [q_eq (by omega) (by omega)]; exact h2), if_neg h2]
    have f := fin (0 : Int32)
    refine ⟨_, ?_, f⟩
    rw [f.2.2.1]
/-- what is known of what was found -/
def tC (P no od F : Nat) (G wd : Nat → Nat → Nat) (c w k : Nat → Nat) (t : T2) (S : CS) : Prop := (S.2.2.2.2.2.2.2.1 = 0 → P2 (CX P no od F G wd c w k (hdS S) (lsS S)) t) ∧ (S.2.2.2.2.2.2.2.1 ≠ 0 → t = (none, none))
theorem KX.fl0 {M : MM} {F : Nat} {G wd : Nat → Nat → Nat} {S : CS} (hK : KX M F G wd S) (hG : GW F G wd) : KX (st2 M 4 7 (nI 0)) F G wd (fl0 S) := by
  obtain ⟨vl, hb, sk, hd, ls, pl, n, st, sn, fl, wt, rf, rv, k0, k1⟩ := S
  obtain ⟨c1, c2, c3, c4, c5, c6, c7, c8, c9, c10, c11⟩ := hK
  exact ⟨c1.fr hG (st2_nc _ (by decide)) (fun c j q => st2_nc _ (by omega)), (st2_nj' _ (by decide)).trans c2, (st2_nj' _ (by decide)).trans c3, (st2_nc _ (by decide)).trans c4, fun i hi => (st2_nc _ (by decide)).trans (c5 i hi), (st2_nj' _ (by decide)).trans c6, (st2_nj' _ (by decide)).trans c7, st2_at _ _ _ _, (st2_nj' _ (by decide)).trans c9, fun q => ⟨(st2_nj' _ (by decide)).trans (c10 q).1, (st2_nj' _ (by decide)).trans (c10 q).2⟩, fun q => ⟨(st2_nj' _ (by decide)).trans (c11 q).1, (st2_nj' _ (by decide)).trans (c11 q).2⟩⟩
theorem IV.fl0 {F : Nat} {G : Nat → Nat → Nat} {S : CS} (hI : IV F G S) : IV F G (fl0 S) := by
  obtain ⟨vl, hb, sk, hd, ls, pl, n, st, sn, fl, wt, rf, rv, k0, k1⟩ := S
  obtain ⟨⟨i1, i2, i3, i4, i5, i6, i7, i8, i9, i10, i11⟩, iA⟩ := hI
  exact ⟨⟨i1, i2, i3, i4, i5, i6, i7, Nat.zero_le _, i9, i10, i11⟩, iA⟩
theorem fl0_hd (S : CS) : hdS (fl0 S) = hdS S ∧ lsS (fl0 S) = lsS S ∧ (fl0 S).2.2.2.2.2.2.2.1 = S.2.2.2.2.2.2.2.1 ∧ (fl0 S).2.2.2.2.2.2.2.2.2.1 = 0 := by
  obtain ⟨vl, hb, sk, hd, ls, pl, n, st, sn, fl, wt, rf, rv, k0, k1⟩ := S
  exact ⟨rfl, rfl, rfl, rfl⟩
theorem P2_fst {A : Int → Nat → Prop} {t : T2} (h : P2 A t) : t.1 = none → t.2 = none := by
  obtain ⟨a, b⟩ := t
  cases a with
  | none => cases b with
    | none => exact fun h => h
    | some q => exact h.elim
  | some q => exact fun h => by cases h
theorem p_sayX {M : MM} {F P no od ne mi : Nat} {G wd : Nat → Nat → Nat} {S : CS} {c w k : Nat → Nat} (hG : GW F G wd) (hK : KX M F G wd S) (hI : IV F G S) (hW : WH P c w k) (hH : RHx M P c w k) (hN : RNx M no od ne) (hno : no ≤ 99) (hod : od ≤ 99) (hne : ne ≤ 200) (h6 : M 0 6 = nI mi) (hmi : mi ≤ 9) : ∃ (M' : MM) (t : T2), mX9_say [.inr (some 0)] M = some (some (.inl (nI (sayS F G P ne t S).1)), M') ∧ KX M' F G wd (sayS F G P ne t S).2 ∧ IV F G (sayS F G P ne t S).2 ∧ (sayS F G P ne t S).1 ≤ 6 ∧ RT M' 11 12 0 t ∧ okT t ∧ tC P no od F G wd c w k t S ∧ (t.1 ≠ none → okTK F (hdS S) (lsS S) t) ∧ M' 0 5 = nI (sayS F G P ne t S).1 ∧ M' 0 6 = nI (miS (sayS F G P ne t S).1 mi) ∧ M' 0 7 = (if nearT t ne = 1 then dfP G (hdS S) t else 0) ∧ M' 2 3 = nI 0 ∧ (∀ j, M' 3 j = M 3 j) ∧ ∀ c j, 19 ≤ c → c ≤ 43 → M' c j = M c j := by
  obtain ⟨z1, z2, z3, z4⟩ := fl0_hd S
  have hK0 := hK.fl0 hG
  have hI0 := hI.fl0
  obtain ⟨M2, a1, a2, a3⟩ := p_clear_a (M := st2 M 4 7 (nI 0))
  have hK2 : KX M2 F G wd (fl0 S) := hK0.fr hG (fun c j q => a2 c j (by omega) (by omega))
  have e2 : ∀ c j, c ≠ 4 → c ≠ 11 → c ≠ 12 → M2 c j = M c j := fun c j q1 q2 q3 => by rw [a2 c j q2 q3, st2_nc _ q1]
  have hH2 : RHx M2 P c w k := hH.congr (e2 2 3 (by decide) (by decide) (by decide)) (funext fun j => e2 7 j (by decide) (by decide) (by decide)) (funext fun j => e2 8 j (by decide) (by decide) (by decide)) (funext fun j => e2 9 j (by decide) (by decide) (by decide))
  have hN2 : RNx M2 no od ne := ⟨(e2 3 4 (by decide) (by decide) (by decide)).trans hN.1, (e2 3 5 (by decide) (by decide) (by decide)).trans hN.2.1, (e2 3 6 (by decide) (by decide) (by decide)).trans hN.2.2⟩
  obtain ⟨j1, j2, j3, j4⟩ := KX_hd hK2
  rw [z1] at j1
  rw [z2] at j2
  rw [z3] at j3
  obtain ⟨v1, v2, v3⟩ := IV_hd hI
  -- what is found
  have hread : ∃ (M3 : MM) (t : T2), gX9_say 15 [some (.inr (some 0))] [] M2 = gX9_say 46 [some (.inr (some 0))] [] M3 ∧ RT M3 11 12 0 t ∧ okT t ∧ tC P no od F G wd c w k t S ∧ FR5 M2 M3 := by
    rw [eX9_say_15, j3]
    by_cases h0 : S.2.2.2.2.2.2.2.1 = 0
    · obtain ⟨M3, t, b1, b2, b3, b4, b5⟩ := p_readX (hd := hdS S) (ls := lsS S) hW hG j4 v1 v2 hno hod hH2 hN2 a3 ⟨trivial, trivial, fun h => h⟩
      refine ⟨M3, t, ?_, b2, b3, ⟨fun _ => ?_, fun h => absurd h0 h⟩, b4⟩
      · rw [if_pos (by rw [h0]; rfl), j1, j2, b1]
        simp only [bnd0, Option.toList_none, List.nil_append]
      · have hz : P2 (fun _ _ => False) ((none, none) : T2) := fun _ _ h => h
        exact P2_congr (b5 _ hz) (fun cc key => ⟨fun q => q.elim (fun h => h.elim) id, Or.inr⟩)
    · rw [if_neg (by rw [L0, q_eq (by omega) (by omega)]; exact h0)]
      exact ⟨M2, (none, none), rfl, a3, ⟨trivial, trivial, fun h => h⟩, ⟨fun h => absurd h h0, fun _ => rfl⟩, fun _ _ _ _ _ _ _ => rfl⟩
  obtain ⟨M3, t, b1, b2, b3, b4, b5⟩ := hread
  have hK3 : KX M3 F G wd (fl0 S) := hK2.fr hG (fun c j q => b5 c j (by omega) (by omega) (by omega) (by omega) (by omega))
  have e3 : ∀ c j, c ≠ 4 → c ≠ 11 → c ≠ 12 → c ≠ 13 → c ≠ 16 → c ≠ 17 → M3 c j = M c j := fun c j q1 q2 q3 q4 q5 q6 => by rw [b5 c j q2 q3 q4 q5 q6, e2 c j q1 q2 q3]
  have htk : t.1 ≠ none → okTK F (hdS S) (lsS S) t := fun ht => by
    by_cases h0 : S.2.2.2.2.2.2.2.1 = 0
    · exact okTK_of hG v1 v2 (b4.1 h0) ht
    · rw [b4.2 h0] at ht; exact absurd rfl ht
  -- the end
  have fin : ∀ (M4 : MM) (a : Nat) (S' : CS), gX9_say 46 [some (.inr (some 0))] [] M3 = gX9_say 100 [some (.inr (some 0))] [] M4 → sayS F G P ne t S = (a, S') → KX M4 F G wd S' → IV F G S' → M4 0 5 = nI a → a ≤ 6 → (a = 2 ↔ nearT t ne = 1) → (a = 2 → hdS S' = hdS S) → (∀ c j, c ≠ 4 → c ≠ 14 → c ≠ 18 → (c < 44 ∨ 56 ≤ c) → ¬ (c = 0 ∧ j = 5) → M4 c j = M3 c j) → ∃ (M' : MM) (t : T2), mX9_say [.inr (some 0)] M = some (some (.inl (nI (sayS F G P ne t S).1)), M') ∧ KX M' F G wd (sayS F G P ne t S).2 ∧ IV F G (sayS F G P ne t S).2 ∧ (sayS F G P ne t S).1 ≤ 6 ∧ RT M' 11 12 0 t ∧ okT t ∧ tC P no od F G wd c w k t S ∧ (t.1 ≠ none → okTK F (hdS S) (lsS S) t) ∧ M' 0 5 = nI (sayS F G P ne t S).1 ∧ M' 0 6 = nI (miS (sayS F G P ne t S).1 mi) ∧ M' 0 7 = (if nearT t ne = 1 then dfP G (hdS S) t else 0) ∧ M' 2 3 = nI 0 ∧ (∀ j, M' 3 j = M 3 j) ∧ ∀ c j, 19 ≤ c → c ≤ 43 → M' c j = M c j := by
    intro M4 a S' h46 hs hK4 hI4 h5 ha hnear hhd hfr
    have hR4 : RT M4 11 12 0 t := b2.fr (fun j => hfr 11 j (by decide) (by decide) (by decide) (by omega) (fun e => by omega)) (fun j => hfr 12 j (by decide) (by decide) (by decide) (by omega) (fun e => by omega))
    have h64 : M4 0 6 = nI mi := by rw [hfr 0 6 (by decide) (by decide) (by decide) (by omega) (fun e => by omega), e3 0 6 (by decide) (by decide) (by decide) (by decide) (by decide) (by decide)]; exact h6
    obtain ⟨M5, t1, t2, t3, t4, t5, t6, t7, t8⟩ := p_sayT hG hK4 hI4 hR4 b3 h5 ha h64 hmi
    refine ⟨M5, t, ?_, by rw [hs]; exact t2, by rw [hs]; exact hI4, by rw [hs]; exact ha, t3, b3, b4, htk, by rw [hs]; exact t4, by rw [hs]; exact t5, ?_, t7, fun j => ?_, fun c j q1 q2 => ?_⟩
    · rw [hs, iX9_say, eX9_say_0, L0, iX4_forget, eX4_forget_0, a1]
      simp only [bnd0, Option.toList_none, List.nil_append, eX4_forget_7]
      rw [b1, h46, t1]
    · rw [t6]
      by_cases h2 : a = 2
      · rw [if_pos h2, if_pos (hnear.mp h2), hhd h2]
      · rw [if_neg h2, if_neg (fun e => h2 (hnear.mpr e))]
    · rw [t8 3 j (by decide) (fun e => by omega), hfr 3 j (by decide) (by decide) (by decide) (by omega) (fun e => by omega), e3 3 j (by decide) (by decide) (by decide) (by decide) (by decide) (by decide)]
    · rw [t8 c j (by omega) (fun e => by omega), hfr c j (by omega) (by omega) (by omega) (by omega) (fun e => by omega), e3 c j (by omega) (by omega) (by omega) (by omega) (by omega) (by omega)]
  have e23 : M3 2 3 = nI P := by rw [e3 2 3 (by decide) (by decide) (by decide) (by decide) (by decide) (by decide)]; exact hH.1
  have e45 : M3 4 5 = nI S.2.2.2.2.2.2.2.1 := by rw [(KX_hd hK3).2.2.1, z3]
  have hP8 := hW.1
  have h54 : gX9_say 46 [some (.inr (some 0))] [] M3 = gX9_say 54 [some (.inr (some 0))] [.inl (nI (if t.1 = none then 0 else 1))] M3 := by
    rw [eX9_say_46, L0, p_found4 b2 b3 (by omega)]
    simp only [bnd1, Option.toList_some, List.cons_append, List.nil_append]
    rfl
  by_cases ht : t.1 = none
  · have hs : sayS F G P ne t S = (if P = 0 ∧ S.2.2.2.2.2.2.2.1 = 0 then 0 else 1, fl0 S) := if_pos ht
    have hnn : ¬ nearT t ne = 1 := fun e => by
      have := near_some e
      exact this (b3.2.2 ht)
    refine fin (st2 M3 0 5 (nI (if P = 0 ∧ S.2.2.2.2.2.2.2.1 = 0 then 0 else 1))) _ _ ?_ hs (hK3.fr hG (fun c j q => st2_nc _ (by omega))) hI0 (st2_at _ _ _ _) (by split <;> omega) ⟨fun e => by split at e <;> omega, fun e => absurd e hnn⟩ (fun e => by split at e <;> omega) (fun c j q1 q2 q3 q4 q5 => ?_)
    · rw [h54, if_pos ht, eX9_say_54, if_pos (show nI 0 = 0 from rfl), e23, e45]
      by_cases hP : P = 0
      · rw [if_pos (by rw [hP]; rfl)]
        by_cases h0 : S.2.2.2.2.2.2.2.1 = 0
        · rw [if_pos (by rw [h0]; rfl), if_pos ⟨hP, h0⟩, eX9_say_97]
          rfl
        · rw [if_neg (by rw [L0, q_eq (by omega) (by omega)]; exact h0), if_neg (fun e => h0 e.2), eX9_say_96, eX9_say_97]
          rfl
      · rw [if_neg (by rw [L0, q_eq (by omega) (by omega)]; exact hP), if_neg (fun e => hP e.1), eX9_say_96, eX9_say_97]
        rfl
    · by_cases hc : c = 0
      · exact st2_nj' _ (fun e => q5 ⟨hc, e⟩)
      · exact st2_nc _ hc
  · have hs : sayS F G P ne t S = hearS F G ne t (fl0 S) := if_neg ht
    have hN3 : RNx M3 no od ne := hN2.fr5 b5
    have htk0 : okTK F (fl0 S).2.2.2.1 (fl0 S).2.2.2.2.1 t := by
      have := htk ht
      rw [← z1, ← z2] at this
      exact this
    obtain ⟨M4, d1, d2, d3⟩ := p_hearX hG hK3 hI0 b2 b3 ht htk0 hN3 hne
    obtain ⟨n1, n2, n3⟩ := hear_26 F G ne t (fl0 S)
    refine fin (st2 M4 0 5 (nI (hearS F G ne t (fl0 S)).1)) (hearS F G ne t (fl0 S)).1 (hearS F G ne t (fl0 S)).2 ?_ hs (d2.fr hG (fun c j q => st2_nc _ (by omega))) (IV_hear hG hI0 htk0) (st2_at _ _ _ _) n3 ⟨fun e => ?_, fun e => (n1 e).1⟩ (fun e => ?_) (fun c j q1 q2 q3 q4 q5 => ?_)
    · rw [h54, if_neg ht, eX9_say_54, if_neg (show ¬ nI 1 = 0 by decide), d1]
      simp only [bnd1, Option.toList_some, List.cons_append, List.nil_append, eX9_say_65]
    · rcases near_01 t ne with h | h
      · have := n2 (by omega); omega
      · exact h
    · rcases near_01 t ne with h | h
      · have := n2 (by omega); omega
      · rw [← z1]; exact (n1 h).2
    · have e4 : M4 c j = M3 c j := d3 c j q1 q2 q3 q4
      by_cases hc : c = 0
      · rw [st2_nj' _ (fun e => q5 ⟨hc, e⟩)]; exact e4
      · rw [st2_nc _ hc]; exact e4
