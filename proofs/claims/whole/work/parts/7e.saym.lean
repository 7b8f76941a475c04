/-! say of the reference. -/
theorem KM.fr {M M' : MM} {F : Nat} {G wd : Nat → Nat → Nat} {S : CS} (hK : KM M F G wd S) (hf : ∀ c j, 19 ≤ c → c ≤ 42 → (c ≤ 30 ∨ 40 ≤ c) → (c = 19 → j = 0 ∨ (27 ≤ j ∧ j ≤ 32) ∨ j = 34 ∨ j = 36 ∨ j = 37) → M' c j = M c j) : KM M' F G wd S := by
  obtain ⟨vl, hb, sk, hd, ls, pl, n, st, sn, fl, wt, rf, rv, k0, k1⟩ := S
  obtain ⟨c1, cD, c2, c3, c4, c5, c6, c7, c8, c9, c10, c11⟩ := hK
  have g19 : ∀ j, j = 0 ∨ (27 ≤ j ∧ j ≤ 32) ∨ j = 34 ∨ j = 36 ∨ j = 37 → M' 19 j = M 19 j := fun j q => hf 19 j (by omega) (by omega) (by omega) (fun _ => q)
  have g : ∀ c j, 20 ≤ c → c ≤ 42 → (c ≤ 30 ∨ 40 ≤ c) → M' c j = M c j := fun c j q1 q2 q3 => hf c j (by omega) q2 q3 (fun e => by omega)
  exact ⟨c1.fr (g19 0 (by omega)) (fun c j q1 q2 => g c j q1 (by omega) (by omega)), cD.fr (fun c j q1 q2 => g c j (by omega) (by omega) (by omega)), (g19 29 (by omega)).trans c2, (g19 30 (by omega)).trans c3, (g19 31 (by omega)).trans c4, fun i hi => (g 40 i (by omega) (by omega) (by omega)).trans (c5 i hi), (g19 27 (by omega)).trans c6, (g19 28 (by omega)).trans c7, (g19 34 (by omega)).trans c8, (g19 32 (by omega)).trans c9, fun q => ⟨(g19 36 (by omega)).trans (c10 q).1, (g19 37 (by omega)).trans (c10 q).2⟩, fun q => ⟨⟨(g 41 0 (by omega) (by omega) (by omega)).trans (c11 q).1.1, (g 42 0 (by omega) (by omega) (by omega)).trans (c11 q).1.2⟩, (g 41 1 (by omega) (by omega) (by omega)).trans (c11 q).2.1, (g 42 1 (by omega) (by omega) (by omega)).trans (c11 q).2.2⟩⟩
def flS (S : CS) : Nat := S.2.2.2.2.2.2.2.2.2.1
theorem KM_hd {M : MM} {F : Nat} {G wd : Nat → Nat → Nat} {S : CS} (hK : KM M F G wd S) : M 19 29 = oI (hdS S) ∧ M 19 30 = oI (lsS S) ∧ M 19 27 = nI S.2.2.2.2.2.2.2.1 ∧ SM M F G wd ∧ M 19 34 = nI (flS S) := by
  obtain ⟨vl, hb, sk, hd, ls, pl, n, st, sn, fl, wt, rf, rv, k0, k1⟩ := S
  exact ⟨hK.2.2.1, hK.2.2.2.1, hK.2.2.2.2.2.2.1, hK.1, hK.2.2.2.2.2.2.2.2.1⟩
/-- what told shows of the meanings -/
def TM (M : MM) (t : T2) : Prop := (M 43 1 = oI (oS t.1) ∧ M 43 2 = oI (oV t.1) ∧ M 43 3 = oC t.1) ∧ M 43 4 = oI (oS t.2) ∧ M 43 5 = oI (oV t.2) ∧ M 43 6 = oC t.2
theorem p_sayTm {M : MM} {F a mi : Nat} {G wd : Nat → Nat → Nat} {S : CS} {t : T2} {df : Int32} {d2 d3 : Option AV} (hK : KM M F G wd S) (hT : TM M t) (h8 : M 43 8 = df) (ha : a ≤ 6) (h33 : M 19 33 = nI mi) (hmi : mi ≤ 9) : ∃ M' : MM, gX10_say 260 [some (.inr (some 19)), some (.inl (nI a)), d2, d3] [] M = some (some (.inl (nI a)), M') ∧ KM M' F G wd S ∧ M' 19 16 = nI 0 ∧ M' 19 33 = nI (miS a mi) ∧ M' 43 0 = nI a ∧ TM M' t ∧ M' 43 7 = nI (flS S) ∧ M' 43 8 = df ∧ ∀ c j, c ≠ 43 → (c = 19 → j ≠ 16 ∧ j ≠ 33) → M' c j = M c j := by
  obtain ⟨z1, z2, z3, z4, z5⟩ := KM_hd hK
  have e34 : st2 (st2 M 19 16 (0 : Int32)) 43 0 (nI a) 19 34 = nI (flS S) := by rw [st2_nc _ (by decide), st2_nj' _ (by decide)]; exact z5
  have e33 : st2 (st2 (st2 M 19 16 (0 : Int32)) 43 0 (nI a)) 43 7 (nI (flS S)) 19 33 = nI mi := by rw [st2_nc _ (by decide), st2_nc _ (by decide), st2_nj' _ (by decide)]; exact h33
  have fin : ∀ y : Int32, KM (st2 (st2 (st2 (st2 M 19 16 (0 : Int32)) 43 0 (nI a)) 43 7 (nI (flS S))) 19 33 y) F G wd S ∧ st2 (st2 (st2 (st2 M 19 16 (0 : Int32)) 43 0 (nI a)) 43 7 (nI (flS S))) 19 33 y 19 16 = nI 0 ∧ st2 (st2 (st2 (st2 M 19 16 (0 : Int32)) 43 0 (nI a)) 43 7 (nI (flS S))) 19 33 y 19 33 = y ∧ st2 (st2 (st2 (st2 M 19 16 (0 : Int32)) 43 0 (nI a)) 43 7 (nI (flS S))) 19 33 y 43 0 = nI a ∧ TM (st2 (st2 (st2 (st2 M 19 16 (0 : Int32)) 43 0 (nI a)) 43 7 (nI (flS S))) 19 33 y) t ∧ st2 (st2 (st2 (st2 M 19 16 (0 : Int32)) 43 0 (nI a)) 43 7 (nI (flS S))) 19 33 y 43 7 = nI (flS S) ∧ st2 (st2 (st2 (st2 M 19 16 (0 : Int32)) 43 0 (nI a)) 43 7 (nI (flS S))) 19 33 y 43 8 = df ∧ ∀ c j, c ≠ 43 → (c = 19 → j ≠ 16 ∧ j ≠ 33) → st2 (st2 (st2 (st2 M 19 16 (0 : Int32)) 43 0 (nI a)) 43 7 (nI (flS S))) 19 33 y c j = M c j := fun y => by
    have g : ∀ c j, c ≠ 43 → (c = 19 → j ≠ 16 ∧ j ≠ 33) → st2 (st2 (st2 (st2 M 19 16 (0 : Int32)) 43 0 (nI a)) 43 7 (nI (flS S))) 19 33 y c j = M c j := fun c j q1 q2 => by
      by_cases hc : c = 19
      · have := q2 hc
        rw [st2_nj' _ this.2, st2_nc _ q1, st2_nc _ q1, st2_nj' _ this.1]
      · rw [st2_nc _ hc, st2_nc _ q1, st2_nc _ q1, st2_nc _ hc]
    have g43 : ∀ j, j ≠ 0 → j ≠ 7 → st2 (st2 (st2 (st2 M 19 16 (0 : Int32)) 43 0 (nI a)) 43 7 (nI (flS S))) 19 33 y 43 j = M 43 j := fun j q1 q2 => by
      rw [st2_nc _ (by decide), st2_nj' _ q2, st2_nj' _ q1, st2_nc _ (by decide)]
    refine ⟨hK.fr (fun c j q1 q2 q3 q4 => g c j (by omega) (fun e => by have := q4 e; omega)), ?_, st2_at _ _ _ _, ?_, ⟨⟨(g43 1 (by decide) (by decide)).trans hT.1.1, (g43 2 (by decide) (by decide)).trans hT.1.2.1, (g43 3 (by decide) (by decide)).trans hT.1.2.2⟩, (g43 4 (by decide) (by decide)).trans hT.2.1, (g43 5 (by decide) (by decide)).trans hT.2.2.1, (g43 6 (by decide) (by decide)).trans hT.2.2.2⟩, ?_, (g43 8 (by decide) (by decide)).trans h8, g⟩
    · rw [st2_nj' _ (by decide), st2_nc _ (by decide), st2_nc _ (by decide), st2_at]; rfl
    · rw [st2_nc _ (by decide), st2_nj' _ (by decide), st2_at]
    · rw [st2_nc _ (by decide), st2_at]
  rw [eX10_say_260, e34, e33, L1]
  unfold miS
  by_cases h1 : a ≤ 1
  · rw [if_pos (nI_le h1 (by omega)), if_pos h1]
    by_cases h9 : mi = 9
    · rw [if_pos (by rw [h9]; rfl), if_pos h9]
      exact ⟨_, rfl, fin _⟩
    · rw [if_neg (by rw [L9, q_eq (by omega) (by omega)]; exact h9), if_neg h9, q_add]
      exact ⟨_, rfl, fin _⟩
  · rw [if_neg (by rw [q_le (by omega) (by omega)]; exact h1), if_neg h1]
    exact ⟨_, rfl, fin _⟩
/-- unlike -/
theorem p_unlike {M : MM} {F f : Nat} {G wd : Nat → Nat → Nat} (hG : GW F G wd) (hS : SM M F G wd) (h29 : M 19 29 = nI f) (hf : f < F) : mX10_unlike [.inr (some 19)] M = some (some (.inl (difI (G 1 f) 0 (M 36 0) (M 36 1))), M) := by
  have hF := hG.1
  have b2 := (hG.2 f hf).2.1
  have loop : ∀ m (b x y : Int32), m ≤ 8 → gX10_unlike 29 [some (.inr (some 19)), some (.inl b), some (.inl x), some (.inl y), some (.inl (sI m))] [] M = some (some (.inl (difI m b x y)), M) := by
    intro m
    induction m with
    | zero =>
      intro b x y _
      rw [eX10_unlike_29, if_pos (show sI 0 < 0 by decide)]
      rfl
    | succ m ih =>
      intro b x y hm
      have es : sI (m + 1) = nI m := rfl
      have e52 : ∀ b' : Int32, gX10_unlike 52 [some (.inr (some 19)), some (.inl b'), some (.inl x), some (.inl y), some (.inl (nI m))] [] M = some (some (.inl (difI m b' (x / (10 : Int32)) (y / (10 : Int32)))), M) := by
        intro b'
        rw [eX10_unlike_52, L1, sI_pred]
        exact ih _ _ _ (by omega)
      rw [es, eX10_unlike_29, if_neg (by rw [L0, q_lt (by omega) (by omega)]; omega), e52, e52]
      show _ = (some (some (.inl (difI m (if x - x / (10 : Int32) * (10 : Int32) = y - y / (10 : Int32) * (10 : Int32) then b else b ||| ((1 : Int32) <<< (nI m &&& 31))) (x / (10 : Int32)) (y / (10 : Int32)))), M) : Option AR)
      by_cases h : x - x / (10 : Int32) * (10 : Int32) = y - y / (10 : Int32) * (10 : Int32)
      · rw [if_pos h, if_pos h]
      · rw [if_neg h, if_neg h]
  rw [iX10_unlike, eX10_unlike_0, h29, q_cl (show f < 2147483648 by omega), if_neg (gI (by omega) (by omega)), (hS.2 f hf).2.1, L1, sI_sub]
  exact loop _ _ _ _ b2
