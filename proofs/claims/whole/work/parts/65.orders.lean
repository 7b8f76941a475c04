/-! The class's orders. -/
def SOp (P no od : Nat) (c w k : Nat → Nat) (p i0 : Nat) (all : Prop) : Int → Nat → Prop := fun cc key => ∃ p' i, ((p' = p ∧ i0 ≤ i) ∨ (all ∧ p < p')) ∧ p' < P ∧ i < c p' ∧ 11 ≤ w (4 * p' + i) ∧ w (4 * p' + i) ≤ 16 ∧ cc = (P * no : Nat) + ((k (4 * p' + i) : Int) - (no : Int)) + (od : Int) ∧ key = key2 (w (4 * p' + i) - 10) 0
theorem p_offerOrders {M : MM} {P no od ne : Nat} {c w k : Nat → Nat} {t : T2} (hW : WH P c w k) (hno : no ≤ 99) (hod : od ≤ 99) (hH : RHx M P c w k) (hN : RNx M no od ne) (hR : RT M 11 12 0 t) (hok : okT t) : ∃ (M' : MM) (t' : T2), mX4_offerOrders [.inr (some 3)] M = some (none, M') ∧ RT M' 11 12 0 t' ∧ okT t' ∧ FR2 M M' ∧ ∀ A, P2 A t → P2 (fun cc key => A cc key ∨ SOp P no od c w k 0 0 True cc key) t' := by
  have h8 := hW.1
  have hPn : P * no ≤ 8 * 99 := Nat.mul_le_mul h8 hno
  have inn : ∀ m i p (M1 : MM) (t1 : T2) (d3 : Option AV), p < P → i + m = c p → FR2 M M1 → RT M1 11 12 0 t1 → okT t1 → ∃ (M' : MM) (t' : T2) (e2 : Int32) (e3 : Option AV), gX4_offerOrders 15 [some (.inr (some 3)), some (.inl (nI p)), some (.inl (nI i)), d3] [] M1 = gX4_offerOrders 2 [some (.inr (some 3)), some (.inl (nI (p + 1))), some (.inl e2), e3] [] M' ∧ RT M' 11 12 0 t' ∧ okT t' ∧ FR2 M M' ∧ ∀ A, P2 A t1 → P2 (fun cc key => A cc key ∨ SOp P no od c w k p i False cc key) t' := by
    intro m
    induction m with
    | zero =>
      intro i p M1 t1 d3 hp hi hf hR1 hk1
      refine ⟨M1, t1, nI i, d3, ?_, hR1, hk1, hf, fun A hA => P2_congr hA (fun cc key => ⟨Or.inl, fun q => q.elim id (fun q => ?_)⟩)⟩
      · rw [eX4_offerOrders_15, p_wordsIn hW (hH.fr2 hf) hp]
        simp only [bnd1, Option.toList_some, List.cons_append, List.nil_append, eX4_offerOrders_24]
        rw [if_pos (nI_le (show c p ≤ i by omega) (by have := (hW.2 p hp).1; omega)), L1, q_add]
      · obtain ⟨p', i', ⟨rfl, h2⟩ | ⟨h, -⟩, h3, h4, -⟩ := q
        · omega
        · exact h.elim
    | succ m ih =>
      intro i p M1 t1 d3 hp hi hf hR1 hk1
      have h4 := (hW.2 p hp).1
      have hic : i < c p := by omega
      obtain ⟨w59, k99⟩ := (hW.2 p hp).2.1 i hic
      have hH1 := hH.fr2 hf
      rw [eX4_offerOrders_15, p_wordsIn hW hH1 hp]
      simp only [bnd1, Option.toList_some, List.cons_append, List.nil_append, eX4_offerOrders_24]
      rw [if_neg (by rw [q_le (by omega) (by omega)]; omega), p_wordAt hW hH1 hp hic]
      simp only [bnd1, Option.toList_some, List.cons_append, List.nil_append, eX4_offerOrders_36]
      by_cases hin : 11 ≤ w (4 * p + i) ∧ w (4 * p + i) ≤ 16
      · have e3 : M1 3 4 = nI no := (hN.fr2 hf).1
        obtain ⟨M2, f1, f2, f3⟩ := p_offer4 (M := M1) (x := (k (4 * p + i) : Int) - (no : Int)) (s := w (4 * p + i) - 10) (v := 0) hH1.1 h8 (hN.fr2 hf) hno hod hR1 hk1 (by omega) (by omega) (by omega) (by omega)
        have hif : (if w (4 * p + i) - 10 = 0 then 0 else (od : Int)) = (od : Int) := if_neg (by omega)
        rw [hif] at f2
        have hk2 : okT (ins2 t1 ((P * no : Nat) + ((k (4 * p + i) : Int) - (no : Int)) + (od : Int)) (key2 (w (4 * p + i) - 10) 0)) := okT_ins hk1 (by omega) (by omega) (by unfold key2; omega)
        obtain ⟨M', t', e5, e6, g1, g2, g3, g4, g5⟩ := ih (i + 1) p M2 _ (some (.inl (nI (w (4 * p + i))))) hp (by omega) (hf.trans f3) f2 hk2
        refine ⟨M', t', e5, e6, ?_, g2, g3, g4, fun A hA => P2_congr (g5 _ (P2_ins hA _ _)) (fun cc key => ⟨fun q => ?_, fun q => ?_⟩)⟩
        · rw [if_neg (by rw [L11, q_lt (by omega) (by omega)]; omega), if_neg (by rw [L16, q_lt (by omega) (by omega)]; omega), p_costAt hW hH1 hp hic]
          simp only [bnd1, Option.toList_some, List.cons_append, List.nil_append, eX4_offerOrders_66]
          have hx2 : nI (k (4 * p + i)) - M1 3 4 = iZ ((k (4 * p + i) : Int) - (no : Int)) := by
            rw [e3, iZ_nat (k (4 * p + i)), iZ_nat no, z_sub]
          have hs2 : (1 : Int32) + nI (w (4 * p + i)) - (11 : Int32) = nI (w (4 * p + i) - 10) := by
            rw [L1, L11, q_add, q_sub (by omega), show 1 + w (4 * p + i) - 11 = w (4 * p + i) - 10 by omega]
          rw [hx2, hs2, L0, f1]
          simp only [bnd0, Option.toList_none, List.nil_append, eX4_offerOrders_74]
          rw [L1, q_add]
          exact g1
        · rcases q with (q | ⟨rfl, rfl⟩) | ⟨p', i', ⟨e, h2⟩ | ⟨h, -⟩, h3⟩
          · exact Or.inl q
          · exact Or.inr ⟨p, i, Or.inl ⟨rfl, Nat.le_refl _⟩, hp, hic, hin.1, hin.2, rfl, rfl⟩
          · exact Or.inr ⟨p', i', Or.inl ⟨e, by omega⟩, h3⟩
          · exact h.elim
        · rcases q with q | ⟨p', i', ⟨e, h2⟩ | ⟨h, -⟩, h3⟩
          · exact Or.inl (Or.inl q)
          · by_cases he : i' = i
            · obtain ⟨h5, h6, h7, h9, h10, h11⟩ := h3
              rw [e, he] at h10 h11
              exact Or.inl (Or.inr ⟨h10, h11⟩)
            · exact Or.inr ⟨p', i', Or.inl ⟨e, by omega⟩, h3⟩
          · exact h.elim
      · obtain ⟨M', t', e5, e6, g1, g2, g3, g4, g5⟩ := ih (i + 1) p M1 t1 (some (.inl (nI (w (4 * p + i))))) hp (by omega) hf hR1 hk1
        refine ⟨M', t', e5, e6, ?_, g2, g3, g4, fun A hA => P2_congr (g5 A hA) (fun cc key => ⟨fun q => ?_, fun q => ?_⟩)⟩
        · have h74 : gX4_offerOrders 74 [some (.inr (some 3)), some (.inl (nI p)), some (.inl (nI i)), some (.inl (nI (w (4 * p + i))))] [] M1 = gX4_offerOrders 2 [some (.inr (some 3)), some (.inl (nI (p + 1))), some (.inl e5), e6] [] M' := by
            rw [eX4_offerOrders_74, L1, q_add]
            exact g1
          by_cases h11 : w (4 * p + i) < 11
          · rw [if_pos (by rw [L11, q_lt (by omega) (by omega)]; exact h11)]
            exact h74
          · rw [if_neg (by rw [L11, q_lt (by omega) (by omega)]; exact h11), if_pos (by rw [L16, q_lt (by omega) (by omega)]; omega)]
            exact h74
        · rcases q with q | ⟨p', i', ⟨e, h2⟩ | ⟨h, -⟩, h3⟩
          · exact Or.inl q
          · exact Or.inr ⟨p', i', Or.inl ⟨e, by omega⟩, h3⟩
          · exact h.elim
        · rcases q with q | ⟨p', i', ⟨e, h2⟩ | ⟨h, -⟩, h3⟩
          · exact Or.inl q
          · by_cases he : i' = i
            · obtain ⟨h5, h6, h7, h9, h10, h11⟩ := h3
              rw [e, he] at h7 h9
              exact absurd ⟨h7, h9⟩ hin
            · exact Or.inr ⟨p', i', Or.inl ⟨e, by omega⟩, h3⟩
          · exact h.elim
  have out : ∀ m p (M1 : MM) (t1 : T2) (d5 d6 : Option AV), p + m = P → FR2 M M1 → RT M1 11 12 0 t1 → okT t1 → ∃ (M' : MM) (t' : T2), gX4_offerOrders 2 [some (.inr (some 3)), some (.inl (nI p)), d5, d6] [] M1 = some (none, M') ∧ RT M' 11 12 0 t' ∧ okT t' ∧ FR2 M M' ∧ ∀ A, P2 A t1 → P2 (fun cc key => A cc key ∨ SOp P no od c w k p 0 True cc key) t' := by
    intro m
    induction m with
    | zero =>
      intro p M1 t1 d5 d6 hp hf hR1 hk1
      refine ⟨M1, t1, ?_, hR1, hk1, hf, fun A hA => P2_congr hA (fun cc key => ⟨Or.inl, fun q => q.elim id (fun q => ?_)⟩)⟩
      · rw [eX4_offerOrders_2, (hH.fr2 hf).1, if_pos (nI_le (show P ≤ p by omega) (by omega))]
      · obtain ⟨p', i', ⟨rfl, h2⟩ | ⟨-, h⟩, h3, -⟩ := q
        · omega
        · omega
    | succ m ih =>
      intro p M1 t1 d5 d6 hp hf hR1 hk1
      have hpP : p < P := by omega
      obtain ⟨M2, t2, e5, e6, g1, g2, g3, g4, g5⟩ := inn (c p) 0 p M1 t1 d6 hpP (by omega) hf hR1 hk1
      obtain ⟨M3, t3, i1, i2, i3, i4, i5⟩ := ih (p + 1) M2 t2 (some (.inl e5)) e6 (by omega) g4 g2 g3
      refine ⟨M3, t3, ?_, i2, i3, i4, fun A hA => P2_congr (i5 _ (g5 A hA)) (fun cc key => ⟨fun q => ?_, fun q => ?_⟩)⟩
      · rw [eX4_offerOrders_2, (hH.fr2 hf).1, if_neg (by rw [q_le (by omega) (by omega)]; omega), L0, g1]
        exact i1
      · rcases q with (q | ⟨p', i', ⟨e, h2⟩ | ⟨h, -⟩, h3⟩) | ⟨p', i', h, h3⟩
        · exact Or.inl q
        · exact Or.inr ⟨p', i', Or.inl ⟨e, h2⟩, h3⟩
        · exact h.elim
        · exact Or.inr ⟨p', i', Or.inr ⟨trivial, by omega⟩, h3⟩
      · rcases q with q | ⟨p', i', ⟨e, h2⟩ | ⟨-, h⟩, h3⟩
        · exact Or.inl (Or.inl q)
        · exact Or.inl (Or.inr ⟨p', i', Or.inl ⟨e, h2⟩, h3⟩)
        · refine Or.inr ⟨p', i', ?_, h3⟩
          by_cases he : p' = p + 1
          · exact Or.inl ⟨he, Nat.zero_le _⟩
          · exact Or.inr ⟨trivial, by omega⟩
  obtain ⟨M', t', g1, g2, g3, g4, g5⟩ := out P 0 M t none none (by omega) (fun _ _ _ _ => rfl) hR hok
  refine ⟨M', t', ?_, g2, g3, g4, g5⟩
  rw [iX4_offerOrders, eX4_offerOrders_0, L0]
  exact g1
