/-! grow: its two loops. -/
/-- the entries of D are small enough to be offered further -/
def bndD (D : Nat → Nat → T2) (B : Int) (kq : Nat → Nat) : Prop := ∀ q s, q ≤ 16 → s < 10 → ((D q s).1 = none → (D q s).2 = none) ∧ ∀ c k, two2 (D q s) c k → -B ≤ c ∧ c ≤ B ∧ k < kq q
theorem bndD_ok {D : Nat → Nat → T2} {B : Int} {kq : Nat → Nat} (h : bndD D B kq) (hB : B ≤ 2000) (hk : ∀ q, q ≤ 16 → kq q ≤ 100000000) {q s : Nat} (hq : q ≤ 16) (hs : s < 10) : okT (D q s) :=
  okT_of (fun c k hc => by
    have h1 := (h q s hq hs).2 c k hc
    have h2 := hk q hq
    exact ⟨by omega, by omega, by omega⟩) (h q s hq hs).1
theorem two2_insO {t : T2} {o : Option (Int × Nat)} {x : Int} {f p : Nat} {c : Int} {k : Nat} (h : two2 (insO t o x f p) c k) : two2 t c k ∨ ∃ c0 k0, o = some (c0, k0) ∧ c = c0 + x ∧ k = k0 * f + p := by
  rcases o with _ | ⟨c0, k0⟩
  · exact Or.inl h
  · rcases two2_ins h with h | h
    · exact Or.inl h
    · exact Or.inr ⟨c0, k0, rfl, h.1, h.2⟩
theorem insO_fst {t : T2} {o : Option (Int × Nat)} {x : Int} {f p : Nat} (h : t.1 = none → t.2 = none) : (insO t o x f p).1 = none → (insO t o x f p).2 = none := by
  rcases o with _ | ⟨c0, k0⟩
  · exact h
  · exact ins2_fst
/-- one step of grow: the sum s, the entry o of the row it comes from -/
def stepD (D : Nat → Nat → T2) (to W f p : Nat) (x : Int) (s : Nat) (o : Option (Int × Nat)) : Nat → Nat → T2 := updD D to ((s + W) % 10) (insO (D to ((s + W) % 10)) o x f p)
theorem stepD_ne {D : Nat → Nat → T2} {to W f p : Nat} {x : Int} {s : Nat} {o : Option (Int × Nat)} {q s' : Nat} (h : q ≠ to) : stepD D to W f p x s o q s' = D q s' := by
  unfold stepD updD
  rw [if_neg (fun e => h e.1)]
theorem stepD_bnd {D : Nat → Nat → T2} {to W f p : Nat} {x B B2 : Int} {s : Nat} {o : Option (Int × Nat)} {kq : Nat → Nat} (h : bndD D B2 kq) (ho : ∀ c k, o = some (c, k) → -B2 ≤ c + x ∧ c + x ≤ B2 ∧ k * f + p < kq to) : bndD (stepD D to W f p x s o) B2 kq := by
  intro q s' hq hs'
  unfold stepD updD
  split
  · rename_i he
    obtain ⟨rfl, rfl⟩ := he
    have h1 := h q ((s + W) % 10) hq hs'
    refine ⟨insO_fst h1.1, fun c k hc => ?_⟩
    rcases two2_insO hc with h2 | ⟨c0, k0, e, rfl, rfl⟩
    · exact h1.2 c k h2
    · exact ho c0 k0 e
  · exact h q s' hq hs'
theorem p_grow_step {M : MM} {D : Nat → Nat → T2} {fr to w W f p sm s rk : Nat} {x : Int} {d11 d12 : Option AV} {B : Int} {kq : Nat → Nat} (hRD : RD M D) (hb : bndD D B kq) (hB : B ≤ 2000) (hkq : ∀ q, q ≤ 16 → kq q ≤ 100000000) (hfr : fr ≤ 16) (hto : to ≤ 16) (hs : s < 10) (hW : W ≤ 1000) (hf : f ≤ 100) (hp : p ≤ 100) (hx1 : -100 ≤ x) (hx2 : x ≤ 100) (hrk : rk = 0 ∨ rk = 1) (o : Option (Int × Nat)) (ho : o = if rk = 0 then (D fr s).1 else (D fr s).2) (hk2 : ∀ c k, o = some (c, k) → k * f + p < 100000000) : ∃ (M' : MM) (e11 e12 : Option AV), gX0_grow 84 [some (.inr (some 13)), some (.inl (nI fr)), some (.inl (nI to)), some (.inl (nI w)), some (.inl (iZ x)), some (.inl (nI W)), some (.inl (nI f)), some (.inl (nI p)), some (.inl (nI sm)), some (.inl (nI s)), some (.inl (nI rk)), d11, d12] [] M = gX0_grow 84 [some (.inr (some 13)), some (.inl (nI fr)), some (.inl (nI to)), some (.inl (nI w)), some (.inl (iZ x)), some (.inl (nI W)), some (.inl (nI f)), some (.inl (nI p)), some (.inl (nI sm)), some (.inl (nI s)), some (.inl (nI (rk + 1))), e11, e12] [] M' ∧ RD M' (stepD D to W f p x s o) ∧ ∀ c' j, c' ≠ 16 → c' ≠ 17 → M' c' j = M c' j := by
  have hR := hRD fr hfr s hs
  have hidx : nI fr * (10 : Int32) + nI s = nI (fr * 10 + s) := by rw [L10, q_mul, q_add]
  have hcost : mX7_cost [.inr (some 15), .inl (nI fr * (10 : Int32) + nI s), .inl (nI rk)] M = some (some (.inl (iZ (eC o))), M) := by
    rw [hidx]
    rcases hrk with rfl | rfl
    · rw [(p_tcost_b (by omega) hR).1, ho, if_pos rfl]
    · rw [(p_tcost_b (by omega) hR).2, ho, if_neg (by decide)]
  have hkey : mX7_key [.inr (some 15), .inl (nI fr * (10 : Int32) + nI s), .inl (nI rk)] M = some (some (.inl (iZ (eK o))), M) := by
    rw [hidx]
    rcases hrk with rfl | rfl
    · rw [(p_tkey_b (by omega) hR).1, ho, if_pos rfl]
    · rw [(p_tkey_b (by omega) hR).2, ho, if_neg (by decide)]
  have hot : ∀ c k, o = some (c, k) → -B ≤ c ∧ c ≤ B ∧ k < kq fr := by
    intro c k e
    refine (hb fr s hfr hs).2 c k ?_
    rcases hrk with rfl | rfl
    · rw [if_pos rfl] at ho
      exact Or.inl (ho.symm.trans e)
    · rw [if_neg (by decide)] at ho
      exact Or.inr (ho.symm.trans e)
  rw [eX0_grow_84, L2, if_neg (by rw [q_le (by omega) (by omega)]; omega), hcost]
  simp only [bnd1, Option.toList_some, List.cons_append, List.nil_append, eX0_grow_106]
  rcases o with _ | ⟨c, k⟩
  · refine ⟨M, some (.inl (iZ (eC none))), d12, ?_, ?_, fun _ _ _ _ => rfl⟩
    · have e1 : (1000000 : Int32) ≤ iZ (eC none) := by decide
      rw [if_pos e1, eX0_grow_166, L1, q_add]
    · have e2 : stepD D to W f p x s none = D := by
        funext q s'
        unfold stepD updD
        split
        · rename_i he; rw [he.1, he.2]; rfl
        · rfl
      rw [e2]
      exact hRD
  · obtain ⟨c1, c2, c3⟩ := hot c k rfl
    have hk3 := hk2 c k rfl
    have hkf := hkq fr hfr
    have e1 : ¬ (1000000 : Int32) ≤ iZ (eC (some (c, k))) := by
      rw [L1000000, iZ_nat, z_le (by omega) (by omega) (by show -2147483648 ≤ c; omega) (by show c < 2147483648; omega)]
      show ¬ ((1000000 : Nat) : Int) ≤ c
      omega
    rw [if_neg e1, hkey]
    simp only [bnd1, Option.toList_some, List.cons_append, List.nil_append, eX0_grow_131]
    have hrow : nI to * (10 : Int32) + ((nI s + nI W) - (nI s + nI W) / (10 : Int32) * (10 : Int32)) = nI (to * 10 + (s + W) % 10) := by rw [L10, q_add, q_rem (by omega) (by omega) (by omega), q_mul, q_add]
    have hc : iZ (eC (some (c, k))) + iZ x = iZ (c + x) := z_add c x
    have hkk : iZ (eK (some (c, k))) * nI f + nI p = iZ ((k * f + p : Nat) : Int) := by
      show iZ (k : Int) * nI f + nI p = _
      rw [← iZ_nat, q_mul, q_add, iZ_nat]
    rw [hrow, hc, hkk]
    have hm : (s + W) % 10 < 10 := Nat.mod_lt _ (by decide)
    obtain ⟨M', g1, g2, g3, g4⟩ := p_offer_b (M := M) (r := to * 10 + (s + W) % 10) (t := D to ((s + W) % 10)) (c := c + x) (k := k * f + p) (by omega) (hRD to hto _ hm) (bndD_ok hb hB hkq hto hm) (by omega) (by omega) (by omega)
    refine ⟨M', some (.inl (iZ (eC (some (c, k))))), some (.inl (iZ ((k * f + p : Nat) : Int))), ?_, RD_upd hRD hto hm g2 g4, g3⟩
    rw [g1]
    simp only [bnd0, Option.toList_none, List.nil_append, eX0_grow_166, L1, q_add]
/-- what one sum adds -/
def sumD (D : Nat → Nat → T2) (fr to W f p : Nat) (x : Int) (s : Nat) : Nat → Nat → T2 := stepD (stepD D to W f p x s (D fr s).1) to W f p x s (D fr s).2
/-- what m sums from s on add -/
def sumsD (fr to W f p : Nat) (x : Int) : Nat → Nat → (Nat → Nat → T2) → Nat → Nat → T2
  | 0, _, D => D
  | m + 1, s, D => sumsD fr to W f p x m (s + 1) (sumD D fr to W f p x s)
theorem p_grow_sums {fr to w W f p sm : Nat} {x : Int} {B : Int} {kq : Nat → Nat} (hB : B ≤ 2000) (hkq : ∀ q, q ≤ 16 → kq q ≤ 100000000) (hft : fr ≠ to) (hfr : fr ≤ 16) (hto : to ≤ 16) (hsm : sm ≤ 10) (hW : W ≤ 1000) (hf : f ≤ 100) (hp : p ≤ 100) (hx1 : -100 ≤ x) (hx2 : x ≤ 100) : ∀ m s (M : MM) (D : Nat → Nat → T2) (d10 d11 d12 : Option AV), s + m = sm → RD M D → bndD D B kq → (∀ s', s' < 10 → ∀ c k, two2 (D fr s') c k → -B ≤ c + x ∧ c + x ≤ B ∧ k * f + p < kq to) → ∃ M' : MM, gX0_grow 74 [some (.inr (some 13)), some (.inl (nI fr)), some (.inl (nI to)), some (.inl (nI w)), some (.inl (iZ x)), some (.inl (nI W)), some (.inl (nI f)), some (.inl (nI p)), some (.inl (nI sm)), some (.inl (nI s)), d10, d11, d12] [] M = some (none, M') ∧ RD M' (sumsD fr to W f p x m s D) ∧ bndD (sumsD fr to W f p x m s D) B kq ∧ ∀ c' j, c' ≠ 16 → c' ≠ 17 → M' c' j = M c' j := by
  intro m
  induction m with
  | zero =>
    intro s M D d10 d11 d12 hs hRD hb hext
    rw [eX0_grow_74, if_pos (nI_le (show sm ≤ s by omega) (by omega))]
    exact ⟨M, rfl, hRD, hb, fun _ _ _ _ => rfl⟩
  | succ m ih =>
    intro s M D d10 d11 d12 hs hRD hb hext
    have hs10 : s < 10 := by omega
    have hkt := hkq to hto
    rw [eX0_grow_74, if_neg (by rw [q_le (by omega) (by omega)]; omega), L0]
    have hx0 : ∀ c k, (D fr s).1 = some (c, k) → -B ≤ c + x ∧ c + x ≤ B ∧ k * f + p < kq to := fun c k e => hext s hs10 c k (Or.inl e)
    have hx1' : ∀ c k, (D fr s).2 = some (c, k) → -B ≤ c + x ∧ c + x ≤ B ∧ k * f + p < kq to := fun c k e => hext s hs10 c k (Or.inr e)
    obtain ⟨M1, a1, a2, g1, r1, f1⟩ := p_grow_step (M := M) (w := w) (sm := sm) (d11 := d11) (d12 := d12) hRD hb hB hkq hfr hto hs10 hW hf hp hx1 hx2 (Or.inl rfl) (D fr s).1 (by rw [if_pos rfl]) (fun c k e => by have := hx0 c k e; omega)
    have hb1 : bndD (stepD D to W f p x s (D fr s).1) B kq := stepD_bnd (B := B) hb hx0
    have hsame : ∀ s', stepD D to W f p x s (D fr s).1 fr s' = D fr s' := fun s' => stepD_ne hft
    obtain ⟨M2, b1, b2, g2, r2, f2⟩ := p_grow_step (M := M1) (w := w) (sm := sm) (d11 := a1) (d12 := a2) r1 hb1 hB hkq hfr hto hs10 hW hf hp hx1 hx2 (Or.inr rfl) (D fr s).2 (by rw [if_neg (by decide), hsame]) (fun c k e => by have := hx1' c k e; omega)
    have hb2 : bndD (sumD D fr to W f p x s) B kq := stepD_bnd (B := B) hb1 hx1'
    have hsame2 : ∀ s', sumD D fr to W f p x s fr s' = D fr s' := fun s' => by
      unfold sumD
      rw [stepD_ne hft, hsame]
    obtain ⟨M3, g3, r3, hb3, f3⟩ := ih (s + 1) M2 (sumD D fr to W f p x s) (some (.inl (nI 2))) b1 b2 (by omega) r2 hb2 (fun s' hs' c k hc => by rw [hsame2] at hc; exact hext s' hs' c k hc)
    refine ⟨M3, ?_, r3, hb3, fun c' j q1 q2 => by rw [f3 c' j q1 q2, f2 c' j q1 q2, f1 c' j q1 q2]⟩
    rw [g1, show (0 : Nat) + 1 = 1 from rfl, g2, show (1 : Nat) + 1 = 2 from rfl, eX0_grow_84, L2, if_pos (nI_le (Nat.le_refl 2) (by omega)), L1, q_add]
    exact g3
