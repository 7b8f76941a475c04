/-! Both systems are related when the law's loop begins. -/
set_option maxRecDepth 100000 in
theorem m0_flat : (M0 0 5 = -nI 1 ∧ M0 19 26 = nI 0 ∧ M0 0 6 = nI 0 ∧ M0 19 33 = nI 0) ∧ (M0 1 1 = nI 0 ∧ M0 4 3 = -nI 1 ∧ M0 4 4 = -nI 1 ∧ M0 14 1 = nI 0 ∧ M0 4 5 = nI 0 ∧ M0 4 6 = nI 0 ∧ M0 4 7 = nI 0 ∧ M0 4 8 = nI 0) ∧ (M0 19 0 = nI 0 ∧ M0 19 29 = -nI 1 ∧ M0 19 30 = -nI 1 ∧ M0 19 31 = nI 0 ∧ M0 19 27 = nI 0 ∧ M0 19 28 = nI 0 ∧ M0 19 34 = nI 0 ∧ M0 19 32 = nI 0) ∧ (M0 11 0 = iZ 1000000 ∧ M0 12 0 = iZ (-1) ∧ M0 11 1 = iZ 1000000 ∧ M0 12 1 = iZ (-1)) ∧ (M0 2 3 = nI 0 ∧ M0 19 16 = nI 0) ∧ (M0 3 4 = nI 30 ∧ M0 3 5 = nI 5 ∧ M0 3 6 = nI 10) ∧ (M0 19 12 = nI 30 ∧ M0 19 13 = nI 5 ∧ M0 19 14 = nI 10) := by decide +kernel
set_option maxRecDepth 100000 in
theorem m0_slot : ∀ f, f < 12 → (M0 (f + 44) 1 = nI 0 ∧ M0 (f + 44) 2 = nI 0 ∧ M0 (f + 44) 5 = nI 0 ∧ M0 (f + 44) 6 = -nI 1 ∧ M0 (f + 44) 7 = nI 0 ∧ M0 (f + 44) 9 = nI 0 ∧ M0 (f + 44) 11 = nI 0 ∧ M0 (f + 44) 12 = nI 0) ∧ M0 21 f = nI 0 ∧ M0 22 f = nI 0 ∧ M0 23 f = nI 0 ∧ M0 27 f = nI 0 ∧ M0 29 f = nI 0 ∧ M0 30 f = nI 0 := by decide +kernel
theorem rr_M0 : RR M0 := by
  obtain ⟨⟨a1, a2, a3, a4⟩, ⟨b1, b2, b3, b4, b5, b6, b7, b8⟩, ⟨c1, c2, c3, c4, c5, c6, c7, c8⟩, ⟨d1, d2, d3, d4⟩, ⟨e1, e2⟩, f3, f4⟩ := m0_flat
  have nz : ∀ {p : Prop} {f : Nat}, f < 0 → p := fun h => (Nat.not_lt_zero _ h).elim
  have n1 : ∀ {p : Prop}, (0 : Nat) = 1 → p := fun h => absurd h (by decide)
  have n2 : ∀ {p : Prop}, (0 : Nat) = 2 → p := fun h => absurd h (by decide)
  have hK : KX M0 0 (fun _ _ => 0) (fun _ _ => 0) (fun _ => none, fun _ => 0, fun _ => 0, none, none, fun _ => 0, 0, 0, 0, 0, 0, 0, 0, 0, 0) := ⟨⟨⟨b1, fun f hf => nz hf⟩, fun f hf => nz hf, fun f hf => nz hf⟩, b2, b3, b4, fun f hf => nz hf, b5, b6, b7, b8, fun e => n1 e, fun e => n2 e⟩
  have hM : KM M0 0 (fun _ _ => 0) (fun _ _ => 0) (fun _ => none, fun _ => 0, fun _ => 0, none, none, fun _ => 0, 0, 0, 0, 0, 0, 0, 0, 0, 0) := ⟨⟨c1, fun f hf => nz hf⟩, fun f hf => nz hf, c2, c3, c4, fun f hf => nz hf, c5, c6, c7, c8, fun e => n1 e, fun e => n2 e⟩
  have hI : IV 0 (fun _ _ => 0) (fun _ => none, fun _ => 0, fun _ => 0, none, none, fun _ => 0, 0, 0, 0, 0, 0, 0, 0, 0, 0) := ⟨⟨fun f hf => nz hf, fun f e => (by cases e), fun f e => (by cases e), by decide, fun f hf => nz hf, by decide, by decide, by decide, by decide, fun e => n1 e, fun e => n2 e⟩, fun f e => (by cases e)⟩
  have hT : RT M0 11 12 0 (none, none) := ⟨d1, d2, d3, d4⟩
  have hU : UN M0 0 (fun _ => none, fun _ => 0, fun _ => 0, none, none, fun _ => 0, 0, 0, 0, 0, 0, 0, 0, 0, 0) := ⟨fun f hf => nz hf, rfl, rfl, rfl, fun f _ hf => m0_slot f hf⟩
  have hW : WH 0 (fun _ => 0) (fun _ => 0) (fun _ => 0) := ⟨by decide, fun p hp => nz hp⟩
  have hG : GW 0 (fun _ _ => 0) (fun _ _ => 0) := ⟨by decide, fun f hf => nz hf⟩
  exact ⟨0, 0, _, _, _, none, (none, none), 0, fun _ => 0, fun _ => 0, fun _ => 0, 30, 5, 10, ⟨hG, hK, hM, hI, hT, ⟨trivial, trivial, fun _ => rfl⟩, a1, fun a e => (by cases e), a2, a3, a4, by decide, fun e => (e rfl).elim, fun _ => hU⟩, ⟨hW, ⟨e1, fun p hp => nz hp⟩, e2, fun p hp => nz hp⟩, ⟨f3, f4, by decide, by decide, by decide⟩⟩
