/-! The reference's talk: comesNow, keep. -/
def DM (M : MM) (F : Nat) (vl : Nat → Option Nat) (hb sk : Nat → Nat) : Prop := ∀ f, f < F → M 28 f = oI (vl f) ∧ M 29 f = nI (hb f) ∧ M 30 f = nI (sk f)
def KM (M : MM) (F : Nat) (G wd : Nat → Nat → Nat) : CS → Prop
  | (vl, hb, sk, hd, ls, pl, n, st, sn, fl, wt, rf, rv, k0, k1) => SM M F G wd ∧ DM M F vl hb sk ∧ M 19 29 = oI hd ∧ M 19 30 = oI ls ∧ M 19 31 = nI n ∧ (∀ i, i < n → M 40 i = nI (pl i)) ∧ M 19 27 = nI st ∧ M 19 28 = nI sn ∧ M 19 34 = nI fl ∧ M 19 32 = nI wt ∧ (wt = 1 → M 19 36 = nI rf ∧ M 19 37 = nI rv) ∧ (wt = 2 → (M 41 0 = nI (k0 / 100000000) ∧ M 42 0 = nI (k0 % 100000000)) ∧ M 41 1 = nI (k1 / 100000000) ∧ M 42 1 = nI (k1 % 100000000))
theorem DM.fr {M M' : MM} {F : Nat} {vl : Nat → Option Nat} {hb sk : Nat → Nat} (h : DM M F vl hb sk) (hc : ∀ c j, 28 ≤ c → c ≤ 30 → M' c j = M c j) : DM M' F vl hb sk := fun f hf => by
  obtain ⟨a, b, c⟩ := h f hf
  exact ⟨(hc _ _ (by omega) (by omega)).trans a, (hc _ _ (by omega) (by omega)).trans b, (hc _ _ (by omega) (by omega)).trans c⟩
theorem VM_of {M : MM} {F : Nat} {G wd : Nat → Nat → Nat} {vl : Nat → Option Nat} {hb sk : Nat → Nat} (hS : SM M F G wd) (hD : DM M F vl hb sk) (hv : ∀ g v, g < F → vl g = some v → v < 100000000) : VM M F G vl := fun f hf => by
  obtain ⟨a1, a2, a3, a4, a5, a6, a7, a8⟩ := hS.2 f hf
  exact ⟨a6, a7, (hD f hf).1, fun v e => hv f v hf e⟩
/-- what the talk of the reference may touch -/
def FTm (M M' : MM) : Prop := ∀ c j, c ≠ 28 → c ≠ 29 → c ≠ 30 → c ≠ 40 → c ≠ 41 → c ≠ 42 → (c = 19 → j ≤ 26 ∨ j = 33 ∨ j = 35 ∨ 38 ≤ j) → M' c j = M c j
theorem FTm.trans {M M1 M2 : MM} (h1 : FTm M M1) (h2 : FTm M1 M2) : FTm M M2 := fun c j a b d e f g h => (h2 c j a b d e f g h).trans (h1 c j a b d e f g h)
theorem p_comesNow {M : MM} {F : Nat} {G wd : Nat → Nat → Nat} {S : CS} {x : Option Nat} (hG : GW F G wd) (hK : KM M F G wd S) (hI : IVa F G S) (hx : ∀ f, x = some f → f < F) : ∃ M' : MM, mX10_comesNow [.inr (some 19), .inl (oI x)] M = some (none, M') ∧ KM M' F G wd (comeS x S) ∧ FTm M M' := by
  obtain ⟨vl, hb, sk, hd, ls, pl, n, st, sn, fl, wt, rf, rv, k0, k1⟩ := S
  obtain ⟨c1, cD, c2, c3, c4, c5, c6, c7, c8, c9, c10, c11⟩ := hK
  obtain ⟨i1, i2, i3, i4, i5, -⟩ := hI
  have hF := hG.1
  have hxb : ∀ v, x = some v → v < 2147483648 := fun v e => by have := hx v e; omega
  have hhb : ∀ v, hd = some v → v < 2147483648 := fun v e => by have := i2 v e; omega
  rw [iX10_comesNow, eX10_comesNow_0, c2]
  show ∃ M' : MM, _ ∧ KM M' F G wd (if x = hd then _ else _) ∧ _
  by_cases he : x = hd
  · rw [if_pos (by rw [he]), if_pos he]
    exact ⟨M, rfl, ⟨c1, cD, c2, c3, c4, c5, c6, c7, c8, c9, c10, c11⟩, fun _ _ _ _ _ _ _ _ _ => rfl⟩
  · rw [if_neg (by rw [oI_inj hxb hhb]; exact he), if_neg he]
    cases hd with
    | none =>
      rw [if_pos (show oI none < 0 by decide)]
      refine ⟨_, rfl, ⟨c1.fr (st2_nj' _ (by decide)) (fun c j q1 q2 => st2_nc _ (by omega)), cD.fr (fun c j q1 q2 => st2_nc _ (by omega)), by rw [st2_at], ?_, ?_, fun i hi => ?_, ?_, ?_, ?_, ?_, fun h => ?_, fun h => ?_⟩, fun c j q1 q2 q3 q4 q5 q6 q7 => ?_⟩
      · rw [st2_nj' _ (by decide)]; exact c3
      · rw [st2_nj' _ (by decide)]; exact c4
      · rw [st2_nc _ (by decide)]; exact c5 i hi
      · rw [st2_nj' _ (by decide)]; exact c6
      · rw [st2_nj' _ (by decide)]; exact c7
      · rw [st2_nj' _ (by decide)]; exact c8
      · rw [st2_nj' _ (by decide)]; exact c9
      · rw [st2_nj' _ (by decide), st2_nj' _ (by decide)]; exact c10 h
      · rw [st2_nc _ (by decide), st2_nc _ (by decide), st2_nc _ (by decide), st2_nc _ (by decide)]; exact c11 h
      · by_cases hc : c = 19
        · have := q7 hc
          exact st2_nj' _ (by omega)
        · exact st2_nc _ hc
    | some h =>
      have hh := i2 h rfl
      have e1 : ¬ oI (some h) < 0 := by
        show ¬ nI h < 0
        rw [L0, q_lt (by omega) (by omega)]
        omega
      rw [if_neg e1]
      -- the push
      have fin : ∀ (M1 : MM) (a : Nat) (pl' : Nat → Nat) (d2 : Option AV), a < 20 → M1 19 31 = nI a → M1 19 29 = nI h → (∀ i, i < a → M1 40 i = nI (pl' i)) → (∀ c j, c ≠ 40 → ¬ (c = 19 ∧ j = 31) → M1 c j = M c j) → ∃ M' : MM, gX10_comesNow 63 [some (.inr (some 19)), some (.inl (oI x)), d2] [] M1 = some (none, M') ∧ KM M' F G wd (vl, hb, sk, x, ls, uq pl' a h, a + 1, st, sn, fl, wt, rf, rv, k0, k1) ∧ FTm M M' := by
        intro M1 a pl' d2 ha e31 e29 e40 hf
        rw [eX10_comesNow_63, e31, q_cl (show a < 2147483648 by omega), if_neg (gI (by omega) (by omega)), e29, st2_nc _ (by decide), e31, L1, q_add]
        have g : ∀ c j, c ≠ 40 → (c = 19 → j ≠ 31 ∧ j ≠ 29) → st2 (st2 (st2 M1 40 a (nI h)) 19 31 (nI (a + 1))) 19 29 (oI x) c j = M c j := fun c j q1 q2 => by
          by_cases hc : c = 19
          · have := q2 hc
            rw [st2_nj' _ this.2, st2_nj' _ this.1, st2_nc _ q1]
            exact hf c j q1 (fun e => this.1 e.2)
          · rw [st2_nc _ hc, st2_nc _ hc, st2_nc _ q1]
            exact hf c j q1 (fun e => hc e.1)
        refine ⟨_, rfl, ⟨c1.fr (g 19 0 (by decide) (fun _ => ⟨by decide, by decide⟩)) (fun c j q1 q2 => g c j (by omega) (fun e => by omega)), cD.fr (fun c j q1 q2 => g c j (by omega) (fun e => by omega)), by rw [st2_at], (g 19 30 (by decide) (fun _ => ⟨by decide, by decide⟩)).trans c3, ?_, fun i hi => ?_, (g 19 27 (by decide) (fun _ => ⟨by decide, by decide⟩)).trans c6, (g 19 28 (by decide) (fun _ => ⟨by decide, by decide⟩)).trans c7, (g 19 34 (by decide) (fun _ => ⟨by decide, by decide⟩)).trans c8, (g 19 32 (by decide) (fun _ => ⟨by decide, by decide⟩)).trans c9, fun h => ⟨(g 19 36 (by decide) (fun _ => ⟨by decide, by decide⟩)).trans (c10 h).1, (g 19 37 (by decide) (fun _ => ⟨by decide, by decide⟩)).trans (c10 h).2⟩, fun h => ⟨⟨(g 41 0 (by decide) (fun e => by omega)).trans (c11 h).1.1, (g 42 0 (by decide) (fun e => by omega)).trans (c11 h).1.2⟩, (g 41 1 (by decide) (fun e => by omega)).trans (c11 h).2.1, (g 42 1 (by decide) (fun e => by omega)).trans (c11 h).2.2⟩⟩, fun c j q1 q2 q3 q4 q5 q6 q7 => g c j q4 (fun e => by have := q7 e; omega)⟩
        · rw [st2_nj' _ (by decide), st2_at]
        · rw [st2_nc _ (by decide), st2_nc _ (by decide)]
          by_cases hia : i = a
          · rw [hia, st2_at, uq_at]
          · rw [st2_nj' _ hia, uq_ne _ _ hia]
            exact e40 i (by omega)
      have loop : n = 20 → ∀ m i (M1 : MM), i + m = 20 → 1 ≤ i → (∀ j, j < i - 1 → M1 40 j = nI (pl (j + 1))) → (∀ j, i - 1 ≤ j → j < 20 → M1 40 j = M 40 j) → (∀ c j, c ≠ 40 → M1 c j = M c j) → ∃ M2 : MM, gX10_comesNow 27 [some (.inr (some 19)), some (.inl (oI x)), some (.inl (nI i))] [] M1 = gX10_comesNow 63 [some (.inr (some 19)), some (.inl (oI x)), some (.inl (nI 20))] [] (st2 M2 19 31 (nI n - nI 1)) ∧ (∀ j, j < 19 → M2 40 j = nI (pl (j + 1))) ∧ ∀ c j, c ≠ 40 → M2 c j = M c j := by
        intro hn20 m
        induction m with
        | zero =>
          intro i M1 hi h1 ha hb hc
          refine ⟨M1, ?_, fun j hj => ha j (by omega), hc⟩
          rw [eX10_comesNow_27, if_pos (by rw [L20]; exact nI_le (show 20 ≤ i by omega) (by omega)), show i = 20 by omega, hc 19 31 (by decide), c4]
          rfl
        | succ m ih =>
          intro i M1 hi h1 ha hb hc
          obtain ⟨M2, a1, a2, a3⟩ := ih (i + 1) (st2 M1 40 (i - 1) (M1 40 i)) (by omega) (by omega) (fun j hj => by
            by_cases hj2 : j = i - 1
            · rw [hj2, st2_at, hb i (by omega) (by omega), show i - 1 + 1 = i by omega]
              exact c5 i (by omega)
            · rw [st2_nj' _ hj2]; exact ha j (by omega)) (fun j q1 q2 => by rw [st2_nj' _ (by omega)]; exact hb j (by omega) q2) (fun c j q => by rw [st2_nc _ q]; exact hc c j q)
          refine ⟨M2, ?_, a2, a3⟩
          rw [eX10_comesNow_27, if_neg (by rw [L20, q_le (by omega) (by omega)]; omega), q_cl (show i < 2147483648 by omega), if_neg (gI (by omega) (by omega)), L1, q_sub (by omega), q_cl (show i - 1 < 2147483648 by omega), if_neg (gI (by omega) (by omega)), q_add]
          exact a1
      rw [c4]
      dsimp only
      by_cases hlt : n < 20
      · have ep : pushS pl n h = (uq pl n h, n + 1) := if_pos hlt
        rw [ep, if_neg (by rw [L20, q_eq (by omega) (by omega)]; omega)]
        exact fin M n pl none hlt c4 c2 c5 (fun _ _ _ _ => rfl)
      · have hn20 : n = 20 := by omega
        have ep : pushS pl n h = (uq (fun i => pl (i + 1)) 19 h, 20) := if_neg hlt
        rw [ep, if_pos (by rw [hn20]; rfl), L1]
        obtain ⟨M2, a1, a2, a3⟩ := loop hn20 19 1 M (by omega) (by omega) (fun j hj => by omega) (fun _ _ _ => rfl) (fun _ _ _ => rfl)
        rw [a1]
        have e19 : nI n - nI 1 = nI 19 := by rw [hn20, q_sub (by omega)]
        rw [e19]
        exact fin _ 19 (fun i => pl (i + 1)) _ (by omega) (by rw [st2_at]) (by rw [st2_nj' _ (by decide), a3 19 29 (by decide)]; exact c2) (fun i hi => by rw [st2_nc _ (by decide)]; exact a2 i hi) (fun c j q1 q2 => by
          by_cases hc : c = 19
          · subst hc
            rw [st2_nj' _ (fun e => q2 ⟨rfl, e⟩)]; exact a3 19 j q1
          · rw [st2_nc _ hc]; exact a3 c j q1)
