/-! What the class's reader found. -/
def oS (o : Option (Int × Nat)) : Option Nat := o.map (fun q => q.2 / 100000000)
def oV (o : Option (Int × Nat)) : Option Nat := o.map (fun q => q.2 % 100000000)
def oC (o : Option (Int × Nat)) : Int32 := match o with
  | none => -nI 1
  | some (c, _) => iZ c
def kd (o : Option (Int × Nat)) : Nat := match o with
  | none => 0
  | some (_, k) => k
/-- the rank r of t -/
def rk2 (t : T2) (r : Nat) : Option (Int × Nat) := if r = 0 then t.1 else t.2
theorem rk2_ok {t : T2} (h : okT t) (r : Nat) : okp (rk2 t r) := by
  unfold rk2
  split
  · exact h.1
  · exact h.2.1
theorem p_key4 {M : MM} {t : T2} {r : Nat} (hR : RT M 11 12 0 t) (hr : r ≤ 1) : mX4_key [.inr (some 3), .inl (nI r)] M = some (some (.inl (iZ (eK (rk2 t r)))), M) := by
  obtain ⟨a, b⟩ := p_tkey_a (by omega) hR
  rw [iX4_key, eX4_key_0, L0]
  rcases (show r = 0 ∨ r = 1 by omega) with rfl | rfl
  · rw [a]
    simp only [bnd1, Option.toList_some, List.cons_append, List.nil_append, eX4_key_9]
    rfl
  · rw [b]
    simp only [bnd1, Option.toList_some, List.cons_append, List.nil_append, eX4_key_9]
    rfl
theorem p_found4 {M : MM} {t : T2} {r : Nat} (hR : RT M 11 12 0 t) (hok : okT t) (hr : r ≤ 1) : mX4_found [.inr (some 3), .inl (nI r)] M = some (some (.inl (nI (if rk2 t r = none then 0 else 1))), M) := by
  have ho := rk2_ok hok r
  rw [iX4_found, eX4_found_0, p_key4 hR hr]
  simp only [bnd1, Option.toList_some, List.cons_append, List.nil_append, eX4_found_5]
  cases hx : rk2 t r with
  | none =>
    rw [if_pos (show iZ (eK none) = (-1 : Int32) from rfl), if_pos rfl]
    rfl
  | some q =>
    obtain ⟨c, k⟩ := q
    rw [hx] at ho
    obtain ⟨h1, h2, h3⟩ := ho
    have e : ¬ iZ (eK (some (c, k))) = (-1 : Int32) := by
      show ¬ iZ (k : Int) = (-1 : Int32)
      rw [← iZ_nat, L1, q_m1e (by omega)]
      exact fun h => h
    rw [if_neg e, if_neg (fun h => by cases h)]
    rfl
theorem p_sort4 {M : MM} {t : T2} {r : Nat} (hR : RT M 11 12 0 t) (hok : okT t) (hr : r ≤ 1) : mX4_sort [.inr (some 3), .inl (nI r)] M = some (some (.inl (oI (oS (rk2 t r)))), M) := by
  have ho := rk2_ok hok r
  rw [iX4_sort, eX4_sort_0, p_found4 hR hok hr]
  simp only [bnd1, Option.toList_some, List.cons_append, List.nil_append, eX4_sort_5]
  rw [p_key4 hR hr]
  cases hx : rk2 t r with
  | none =>
    rw [if_pos rfl, if_pos (show nI 0 = 0 from rfl)]
    rfl
  | some q =>
    obtain ⟨c, k⟩ := q
    rw [hx] at ho
    obtain ⟨h1, h2, h3⟩ := ho
    rw [if_neg (show ¬ (some (c, k) : Option (Int × Nat)) = none by intro h; cases h), if_neg (show ¬ nI 1 = 0 by decide)]
    simp only [bnd1, Option.toList_some, List.cons_append, List.nil_append, eX4_sort_13]
    show (mX4_sortOf [.inl (iZ (k : Int))] M).bind _ = _
    rw [← iZ_nat, iX4_sortOf, eX4_sortOf_0, L100000000, q_div (by omega) (by decide) (by decide)]
    simp only [bnd1, Option.toList_some, List.cons_append, List.nil_append, eX4_sort_16]
    rfl
theorem p_value4 {M : MM} {t : T2} {r : Nat} (hR : RT M 11 12 0 t) (hok : okT t) (hr : r ≤ 1) : mX4_value [.inr (some 3), .inl (nI r)] M = some (some (.inl (oI (oV (rk2 t r)))), M) := by
  have ho := rk2_ok hok r
  rw [iX4_value, eX4_value_0, p_found4 hR hok hr]
  simp only [bnd1, Option.toList_some, List.cons_append, List.nil_append, eX4_value_5]
  rw [p_key4 hR hr]
  cases hx : rk2 t r with
  | none =>
    rw [if_pos rfl, if_pos (show nI 0 = 0 from rfl)]
    rfl
  | some q =>
    obtain ⟨c, k⟩ := q
    rw [hx] at ho
    obtain ⟨h1, h2, h3⟩ := ho
    rw [if_neg (show ¬ (some (c, k) : Option (Int × Nat)) = none by intro h; cases h), if_neg (show ¬ nI 1 = 0 by decide)]
    simp only [bnd1, Option.toList_some, List.cons_append, List.nil_append, eX4_value_13]
    show (mX4_valueOf [.inl (iZ (k : Int))] M).bind _ = _
    rw [← iZ_nat, iX4_valueOf, eX4_valueOf_0, L100000000, q_rem (by omega) (by decide) (by decide)]
    simp only [bnd1, Option.toList_some, List.cons_append, List.nil_append, eX4_value_16]
    rfl
theorem p_cost4 {M : MM} {t : T2} {r : Nat} (hR : RT M 11 12 0 t) (hok : okT t) (hr : r ≤ 1) : mX4_cost [.inr (some 3), .inl (nI r)] M = some (some (.inl (oC (rk2 t r))), M) := by
  obtain ⟨a, b⟩ := p_tcost_a (by omega) hR
  have hc : mX7_cost [.inr (some 10), .inl (0 : Int32), .inl (nI r)] M = some (some (.inl (iZ (eC (rk2 t r)))), M) := by
    rw [L0]
    rcases (show r = 0 ∨ r = 1 by omega) with rfl | rfl
    · exact a
    · exact b
  rw [iX4_cost, eX4_cost_0, p_found4 hR hok hr]
  simp only [bnd1, Option.toList_some, List.cons_append, List.nil_append, eX4_cost_5]
  rw [hc]
  cases hx : rk2 t r with
  | none =>
    rw [if_pos rfl, if_pos (show nI 0 = 0 from rfl)]
    rfl
  | some q =>
    obtain ⟨c, k⟩ := q
    rw [if_neg (show ¬ (some (c, k) : Option (Int × Nat)) = none by intro h; cases h), if_neg (show ¬ nI 1 = 0 by decide)]
    simp only [bnd1, Option.toList_some, List.cons_append, List.nil_append, eX4_cost_17]
    rfl
/-- whether THE OTHER is near -/
def nearT (t : T2) (ne : Nat) : Nat := match t with
  | (some (c0, _), some (c1, _)) => if c1 < c0 + (ne : Int) then 1 else 0
  | _ => 0
theorem p_near4 {M : MM} {t : T2} {no od ne : Nat} (hR : RT M 11 12 0 t) (hok : okT t) (hN : RNx M no od ne) (hne : ne ≤ 200) : mX4_isOtherNear [.inr (some 3)] M = some (some (.inl (nI (nearT t ne))), M) := by
  rw [iX4_isOtherNear, eX4_isOtherNear_0, L0, p_found4 hR hok (by omega)]
  simp only [bnd1, Option.toList_some, List.cons_append, List.nil_append, eX4_isOtherNear_5]
  rw [L1, L0, p_found4 hR hok (by omega)]
  obtain ⟨a, b⟩ := t
  obtain ⟨ha, hb, hab⟩ := hok
  have hok : okT (a, b) := ⟨ha, hb, hab⟩
  dsimp only at ha hb hab
  cases a with
  | none =>
    rw [if_pos (show rk2 (none, b) 0 = none from rfl), if_pos rfl]
    rfl
  | some q0 =>
    obtain ⟨c0, k0⟩ := q0
    rw [if_neg (show ¬ rk2 (some (c0, k0), b) 0 = none by intro h; cases h), if_neg (show ¬ nI 1 = nI 0 by decide)]
    simp only [bnd1, Option.toList_some, List.cons_append, List.nil_append, eX4_isOtherNear_13]
    rw [L1, p_cost4 hR hok (by omega)]
    cases b with
    | none =>
      rw [if_pos (show rk2 (some (c0, k0), none) 1 = none from rfl), if_pos (show nI 0 = 0 from rfl)]
      rfl
    | some q1 =>
      obtain ⟨c1, k1⟩ := q1
      obtain ⟨a1, a2, a3⟩ := ha
      obtain ⟨b1, b2, b3⟩ := hb
      rw [if_neg (show ¬ rk2 (some (c0, k0), some (c1, k1)) 1 = none by intro h; cases h), if_neg (show ¬ nI 1 = 0 by decide)]
      simp only [bnd1, Option.toList_some, List.cons_append, List.nil_append, eX4_isOtherNear_21]
      rw [L0, p_cost4 hR hok (by omega)]
      simp only [bnd1, Option.toList_some, List.cons_append, List.nil_append, eX4_isOtherNear_26]
      show (if iZ c0 + M 3 6 ≤ iZ c1 then _ else _) = (some (some (.inl (nI (if c1 < c0 + (ne : Int) then 1 else 0))), M) : Option AR)
      rw [hN.2.2, iZ_nat, z_add]
      by_cases h : c1 < c0 + (ne : Int)
      · rw [if_neg (by rw [z_le (by omega) (by omega) (by omega) (by omega)]; omega), if_pos h]
        rfl
      · rw [if_pos (by rw [z_le (by omega) (by omega) (by omega) (by omega)]; omega), if_neg h]
        rfl
