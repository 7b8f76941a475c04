/-! The reference's read: what a row offers. -/
/-- the form as told: F fields; of each NAME, DIGITS, CHECK, CAREFUL, WORDS, the need (one more; 0 none), the needed VALUE -/
def GW (F : Nat) (G wd : Nat → Nat → Nat) : Prop := F ≤ 12 ∧ ∀ f, f < F → (20 ≤ G 0 f ∧ G 0 f ≤ 59) ∧ G 1 f ≤ 8 ∧ G 2 f ≤ 1 ∧ G 3 f ≤ 1 ∧ G 4 f ≤ 6 ∧ (G 1 f = 0 → 0 ≤ G 4 f ∧ G 2 f = 0) ∧ (G 1 f ≠ 0 → G 4 f = 0) ∧ (G 5 f = 0 ∨ (G 5 f ≤ f ∧ G 6 f < G 4 (G 5 f - 1))) ∧ G 6 f ≤ 6 ∧ ∀ k, k < G 4 f → 20 ≤ wd f k ∧ wd f k ≤ 59
def SM (M : MM) (F : Nat) (G wd : Nat → Nat → Nat) : Prop := M 19 0 = nI F ∧ ∀ f, f < F → M 20 f = nI (G 0 f) ∧ M 21 f = nI (G 1 f) ∧ M 23 f = nI (G 2 f) ∧ M 24 f = nI (G 3 f) ∧ M 22 f = nI (G 4 f) ∧ M 26 f = sI (G 5 f) ∧ M 27 f = nI (G 6 f) ∧ ∀ k, k < G 4 f → M 25 (6 * f + k) = nI (wd f k)
def gl (l : List Nat) : Nat → Nat := fun k => l.getD k 0
def ansL (G wd : Nat → Nat → Nat) (l : List Nat) (f fr : Nat) : Option Nat := ansR (G 1 f) (G 2 f) (G 4 f) (wd f) (gl l) l.length fr
/-- the four things that a row can be, at the cost b -/
def of1 (G wd : Nat → Nat → Nat) (hd : Option Nat) (l : List Nat) (b : Nat) : Option (Int × Nat) := (hd.bind (fun f => ansL G wd l f 0)).map (fun v => ((b : Int), key2 0 v))
def of2 (od : Nat) (l : List Nat) (b : Nat) : Option (Int × Nat) := if l.length = 1 ∧ 11 ≤ gl l 0 ∧ gl l 0 ≤ 16 then some (((b + od : Nat) : Int), key2 (gl l 0 - 10) 0) else none
def of3 (F : Nat) (G : Nat → Nat → Nat) (od : Nat) (l : List Nat) (b : Nat) : Option (Int × Nat) := (if l.length = 2 ∧ gl l 0 = 17 then fnd (G 0) (gl l 1) 0 F else none).map (fun v => (((b + od : Nat) : Int), key2 7 v))
def of4 (G wd : Nat → Nat → Nat) (ls : Option Nat) (od : Nat) (l : List Nat) (b : Nat) : Option (Int × Nat) := (if 1 < l.length ∧ gl l 0 = 16 then ls.bind (fun f => ansL G wd l f 1) else none).map (fun v => (((b + od : Nat) : Int), key2 8 v))
def ofr (F : Nat) (G wd : Nat → Nat → Nat) (hd ls : Option Nat) (od : Nat) (l : List Nat) (b : Nat) : Int → Nat → Prop := fun c k => l ≠ [] ∧ (of1 G wd hd l b = some (c, k) ∨ of2 od l b = some (c, k) ∨ of3 F G od l b = some (c, k) ∨ of4 G wd ls od l b = some (c, k))
def insP (t : T2) (o : Option (Int × Nat)) : T2 := match o with
  | none => t
  | some (c, k) => ins2 t c k
theorem P2_insP {A : Int → Nat → Prop} {t : T2} (h : P2 A t) (o : Option (Int × Nat)) : P2 (fun c k => A c k ∨ o = some (c, k)) (insP t o) := by
  cases o with
  | none => exact P2_congr h (fun c k => ⟨Or.inl, fun q => q.elim id (fun e => by cases e)⟩)
  | some q =>
    obtain ⟨c0, k0⟩ := q
    refine P2_congr (P2_ins h c0 k0) (fun c k => ⟨fun q => ?_, fun q => ?_⟩)
    · rcases q with q | ⟨rfl, rfl⟩
      · exact Or.inl q
      · exact Or.inr rfl
    · rcases q with q | q
      · exact Or.inl q
      · cases q; exact Or.inr ⟨rfl, rfl⟩
def FR3 (M M' : MM) : Prop := ∀ c' j, c' ≠ 35 → c' ≠ 36 → c' ≠ 37 → M' c' j = M c' j
/-- found, or nothing -/
theorem p_found_o {M : MM} {t : T2} {o : Option Nat} {b s : Nat} (hR : RM M t) (hok : okT t) (hb : b ≤ 2000) (hs : s ≤ 8) (ho : ∀ v, o = some v → v < 100000000) {X Y : Option AR} {kk : AR → Option AR} {Z : MM → Option AR} (hX : X = if oI o < 0 then Y else (mX10_found [.inr (some 19), .inl (nI b), .inl (nI s), .inl (oI o)] M).bind kk) (hY : Y = Z M) (hk : ∀ M' : MM, kk (none, M') = Z M') : ∃ M' : MM, X = Z M' ∧ RM M' (insP t (o.map (fun v => ((b : Int), key2 s v)))) ∧ okT (insP t (o.map (fun v => ((b : Int), key2 s v)))) ∧ FR3 M M' := by
  cases o with
  | none =>
    refine ⟨M, ?_, hR, hok, fun _ _ _ _ _ => rfl⟩
    rw [hX, if_pos (show oI none < 0 by decide), hY]
  | some v =>
    have hv := ho v rfl
    obtain ⟨M', g1, g2, g3⟩ := p_found (c := (b : Int)) (s := s) (v := v) hR hok (by omega) (by omega) hs hv
    refine ⟨M', ?_, g2, okT_ins hok (by omega) (by omega) (by unfold key2; omega), g3⟩
    have e1 : ¬ oI (some v) < 0 := by
      show ¬ nI v < 0
      rw [L0, q_lt (by omega) (by omega)]
      omega
    rw [hX, if_neg e1, iZ_nat b]
    show (mX10_found [.inr (some 19), .inl (iZ (b : Int)), .inl (nI s), .inl (nI v)] M).bind kk = Z M'
    rw [g1]
    exact hk M'
def RWL (M : MM) (l : List Nat) : Prop := l.length ≤ 8 ∧ M 19 24 = nI l.length ∧ ∀ k, k < l.length → gl l k ≤ 59 ∧ M 38 k = nI (gl l k)
theorem SM.fr {M M' : MM} {F : Nat} {G wd : Nat → Nat → Nat} (h : SM M F G wd) (h0 : M' 19 0 = M 19 0) (hc : ∀ c j, 20 ≤ c → c ≤ 27 → M' c j = M c j) : SM M' F G wd := by
  refine ⟨h0.trans h.1, fun f hf => ?_⟩
  obtain ⟨a1, a2, a3, a4, a5, a6, a7, a8⟩ := h.2 f hf
  exact ⟨(hc 20 f (by omega) (by omega)).trans a1, (hc 21 f (by omega) (by omega)).trans a2, (hc 23 f (by omega) (by omega)).trans a3, (hc 24 f (by omega) (by omega)).trans a4, (hc 22 f (by omega) (by omega)).trans a5, (hc 26 f (by omega) (by omega)).trans a6, (hc 27 f (by omega) (by omega)).trans a7, fun k hk => (hc 25 _ (by omega) (by omega)).trans (a8 k hk)⟩
theorem p_ansL {M : MM} {F : Nat} {G wd : Nat → Nat → Nat} (hG : GW F G wd) (hS : SM M F G wd) {l : List Nat} (hl : RWL M l) {f fr : Nat} (hf : f < F) (hfr : fr ≤ l.length) : mX10_answer [.inr (some 19), .inl (nI f), .inl (nI fr)] M = some (some (.inl (oI (ansL G wd l f fr))), M) := by
  obtain ⟨b1, b2, b3, b4, b5, b6, b7, b8, b9, b10⟩ := hG.2 f hf
  obtain ⟨a1, a2, a3, a4, a5, a6, a7, a8⟩ := hS.2 f hf
  have := hG.1
  exact p_answer ⟨hl.1, hl.2.1, hl.2.2⟩ (by omega) a2 b2 a5 b5 a3 b3 (fun k hk => ⟨a8 k hk, (b10 k hk).2⟩) hfr
theorem ansL_lt {F : Nat} {G wd : Nat → Nat → Nat} (hG : GW F G wd) {l : List Nat} {f fr v : Nat} (hf : f < F) (hfr : fr ≤ l.length) (h : ansL G wd l f fr = some v) : v < 100000000 := by
  obtain ⟨b1, b2, b3, b4, b5, b6, b7, b8, b9, b10⟩ := hG.2 f hf
  exact (ansR_lt b2 b5 hfr h).1
theorem oI_lt0 {o : Option Nat} : (oI none < 0) = True := by
  apply eq_true
  decide
theorem p_read {M : MM} {F : Nat} {G wd : Nat → Nat → Nat} {hd ls : Option Nat} {od b : Nat} {l : List Nat} {t : T2} (hG : GW F G wd) (hS : SM M F G wd) (hl : RWL M l) (hhd : M 19 29 = oI hd) (hhF : ∀ f, hd = some f → f < F) (hls : M 19 30 = oI ls) (hlF : ∀ f, ls = some f → f < F) (hod : M 19 13 = nI od) (hod9 : od ≤ 99) (hb : b ≤ 1000) (hR : RM M t) (hok : okT t) : ∃ (M' : MM) (t' : T2), mX10_read [.inr (some 19), .inl (nI b)] M = some (none, M') ∧ RM M' t' ∧ okT t' ∧ FR3 M M' ∧ ∀ A, P2 A t → P2 (fun c k => A c k ∨ ofr F G wd hd ls od l b c k) t' := by
  have hF := hG.1
  obtain ⟨l8, l24, l38⟩ := id hl
  rw [iX10_read, eX10_read_0, l24]
  by_cases hn : l.length = 0
  · have hnil : l = [] := List.length_eq_zero_iff.mp hn
    rw [if_pos (by rw [hn]; rfl)]
    exact ⟨M, t, rfl, hR, hok, fun _ _ _ _ _ => rfl, fun A h => P2_congr h (fun c k => ⟨Or.inl, fun q => q.elim id (fun e => absurd hnil e.1)⟩)⟩
  rw [if_neg (by rw [L0, q_eq (by omega) (by omega)]; exact hn)]
  -- ANSWER
  have h28 : (if 0 ≤ (M 19 29) then (mX10_answer [.inr (some 19), .inl (M 19 29), .inl (0 : Int32)] M).bind (fun r => gX10_read 28 [some (.inr (some 19)), some (.inl (nI b)), none, none, none] (r.1.toList ++ []) r.2) else gX10_read 28 [some (.inr (some 19)), some (.inl (nI b)), none, none, none] [.inl (-1 : Int32)] M) = gX10_read 28 [some (.inr (some 19)), some (.inl (nI b)), none, none, none] [.inl (oI (hd.bind (fun f => ansL G wd l f 0)))] M := by
    rw [hhd]
    cases hd with
    | none => rw [if_neg (by decide)]; rfl
    | some f =>
      have hf := hhF f rfl
      rw [if_pos (show (0 : Int32) ≤ oI (some f) from nI_le (Nat.zero_le f) (by omega)), L0]
      show (mX10_answer [.inr (some 19), .inl (nI f), .inl (nI 0)] M).bind _ = _
      rw [p_ansL hG hS hl hf (Nat.zero_le _)]
      rfl
  rw [h28]
  have hv1 : ∀ v, hd.bind (fun f => ansL G wd l f 0) = some v → v < 100000000 := fun v e => by
    cases hd with
    | none => cases e
    | some f => exact ansL_lt hG (hhF f rfl) (Nat.zero_le _) e
  obtain ⟨M1, g1, R1, k1, f1⟩ := p_found_o (o := hd.bind (fun f => ansL G wd l f 0)) (b := b) (s := 0) (Z := fun M' => gX10_read 40 [some (.inr (some 19)), some (.inl (nI b)), some (.inl (oI (hd.bind (fun f => ansL G wd l f 0)))), none, none] [] M') hR hok (by omega) (by omega) hv1 (eX10_read_28 M (nI b) (oI (hd.bind (fun f => ansL G wd l f 0)))) rfl (fun M' => rfl)
  rw [g1]
  generalize oI (hd.bind (fun f => ansL G wd l f 0)) = y2
  -- an ORDER
  have e24 : M1 19 24 = nI l.length := by rw [f1 19 24 (by decide) (by decide) (by decide)]; exact l24
  have e38 : ∀ k, k < l.length → M1 38 k = nI (gl l k) := fun k hk => by rw [f1 38 k (by decide) (by decide) (by decide)]; exact (l38 k hk).2
  have e13 : M1 19 13 = nI od := by rw [f1 19 13 (by decide) (by decide) (by decide)]; exact hod
  have h40 : ∃ M2 : MM, gX10_read 40 [some (.inr (some 19)), some (.inl (nI b)), some (.inl y2), none, none] [] M1 = gX10_read 84 [some (.inr (some 19)), some (.inl (nI b)), some (.inl y2), none, none] [] M2 ∧ RM M2 (insP (insP t (of1 G wd hd l b)) (of2 od l b)) ∧ okT (insP (insP t (of1 G wd hd l b)) (of2 od l b)) ∧ FR3 M1 M2 := by
    rw [eX10_read_40, e24, L1]
    by_cases h1 : l.length = 1
    · rw [if_pos (by rw [h1]), e38 0 (by omega), L11, L16]
      have h59 := (l38 0 (by omega)).1
      by_cases h2 : 11 ≤ gl l 0 ∧ gl l 0 ≤ 16
      · have e2 : of2 od l b = (some 0).map (fun v => (((b + od : Nat) : Int), key2 (gl l 0 - 10) v)) := by
          unfold of2
          rw [if_pos ⟨h1, h2⟩]
          rfl
        rw [p_isIn_in h2.1 h2.2 (by omega), e2]
        simp only [bnd1, Option.toList_some, List.cons_append, List.nil_append]
        refine p_found_o (o := some 0) (b := b + od) (s := gl l 0 - 10) (Z := fun M' => gX10_read 84 [some (.inr (some 19)), some (.inl (nI b)), some (.inl y2), none, none] [] M') R1 k1 (by omega) (by omega) (fun v e => by cases e; omega) (kk := fun r => gX10_read 84 [some (.inr (some 19)), some (.inl (nI b)), some (.inl y2), none, none] (r.1.toList ++ []) r.2) (Y := gX10_read 84 [some (.inr (some 19)), some (.inl (nI b)), some (.inl y2), none, none] [] M1) ?_ rfl (fun M' => rfl)
        rw [eX10_read_61, if_neg (by rw [L0, q_eq (by omega) (by omega)]; omega), e38 0 (by omega), e13, L10, q_sub (by omega), q_add, if_neg (by show ¬ nI 0 < 0; decide)]
        rfl
      · have e2 : of2 od l b = none := by
          unfold of2
          rw [if_neg (fun e => h2 e.2)]
        rw [p_isIn_out (x := nI (gl l 0)) (lo := nI 11) (hi := nI 16) (by rw [q_lt (by omega) (by omega), q_lt (by omega) (by omega)]; omega), e2]
        simp only [bnd1, Option.toList_some, List.cons_append, List.nil_append]
        rw [eX10_read_61, if_pos (show (nI 0 : Int32) = 0 from rfl)]
        exact ⟨M1, rfl, R1, k1, fun _ _ _ _ _ => rfl⟩
    · have e2 : of2 od l b = none := by
        unfold of2
        rw [if_neg (fun e => h1 e.1)]
      rw [if_neg (by rw [q_eq (by omega) (by omega)]; exact h1), e2]
      exact ⟨M1, rfl, R1, k1, fun _ _ _ _ _ => rfl⟩
  obtain ⟨M2, g2, R2, k2, f2⟩ := h40
  rw [g2]
  have f12 : FR3 M M2 := fun c' j q1 q2 q3 => by rw [f2 c' j q1 q2 q3, f1 c' j q1 q2 q3]
  have e24 : M2 19 24 = nI l.length := by rw [f12 19 24 (by decide) (by decide) (by decide)]; exact l24
  have e38 : ∀ k, k < l.length → M2 38 k = nI (gl l k) := fun k hk => by rw [f12 38 k (by decide) (by decide) (by decide)]; exact (l38 k hk).2
  have e13 : M2 19 13 = nI od := by rw [f12 19 13 (by decide) (by decide) (by decide)]; exact hod
  have hS2 : SM M2 F G wd := hS.fr (f12 19 0 (by decide) (by decide) (by decide)) (fun c j q1 q2 => f12 c j (by omega) (by omega) (by omega))
  -- GO
  have h84 : gX10_read 84 [some (.inr (some 19)), some (.inl (nI b)), some (.inl y2), none, none] [] M2 = gX10_read 117 [some (.inr (some 19)), some (.inl (nI b)), some (.inl y2), none, none] [.inl (oI (if l.length = 2 ∧ gl l 0 = 17 then fnd (G 0) (gl l 1) 0 F else none))] M2 := by
    rw [eX10_read_84, e24, L2]
    by_cases h2 : l.length = 2
    · rw [if_pos (by rw [h2]), e38 0 (by omega), e38 1 (by omega), L17]
      have h59 := (l38 0 (by omega)).1
      by_cases h17 : gl l 0 = 17
      · rw [if_pos (by rw [h17]), if_pos ⟨h2, h17⟩, p_named hF hS2.1 (fun f hf => ⟨(hS2.2 f hf).1, ((hG.2 f hf).1).2⟩) ((l38 1 (by omega)).1)]
        simp only [bnd1, Option.toList_some, List.cons_append, List.nil_append, eX10_read_113]
      · rw [if_neg (by rw [q_eq (by omega) (by omega)]; exact h17), if_neg (fun e => h17 e.2), eX10_read_116]
        rfl
    · rw [if_neg (by rw [q_eq (by omega) (by omega)]; exact h2), if_neg (fun e => h2 e.1), eX10_read_116]
      rfl
  rw [h84]
  have hv3 : ∀ v, (if l.length = 2 ∧ gl l 0 = 17 then fnd (G 0) (gl l 1) 0 F else none) = some v → v < 100000000 := fun v e => by
    split at e
    · have := fnd_some e
      omega
    · cases e
  obtain ⟨M3, g3, R3, k3, f3⟩ := p_found_o (o := (if l.length = 2 ∧ gl l 0 = 17 then fnd (G 0) (gl l 1) 0 F else none)) (b := b + od) (s := 7) (X := gX10_read 117 [some (.inr (some 19)), some (.inl (nI b)), some (.inl y2), none, none] [.inl (oI (if l.length = 2 ∧ gl l 0 = 17 then fnd (G 0) (gl l 1) 0 F else none))] M2) (Y := gX10_read 135 [some (.inr (some 19)), some (.inl (nI b)), some (.inl y2), some (.inl (oI (if l.length = 2 ∧ gl l 0 = 17 then fnd (G 0) (gl l 1) 0 F else none))), none] [] M2) (kk := fun r => gX10_read 135 [some (.inr (some 19)), some (.inl (nI b)), some (.inl y2), some (.inl (oI (if l.length = 2 ∧ gl l 0 = 17 then fnd (G 0) (gl l 1) 0 F else none))), none] (r.1.toList ++ []) r.2) (Z := fun M' => gX10_read 135 [some (.inr (some 19)), some (.inl (nI b)), some (.inl y2), some (.inl (oI (if l.length = 2 ∧ gl l 0 = 17 then fnd (G 0) (gl l 1) 0 F else none))), none] [] M') R2 k2 (by omega) (by omega) hv3 (by rw [eX10_read_117, e13, q_add]; rfl) rfl (fun M' => rfl)
  rw [g3]
  generalize oI (if l.length = 2 ∧ gl l 0 = 17 then fnd (G 0) (gl l 1) 0 F else none) = y3
  have f13 : FR3 M M3 := fun c' j q1 q2 q3 => by rw [f3 c' j q1 q2 q3, f12 c' j q1 q2 q3]
  have e24 : M3 19 24 = nI l.length := by rw [f13 19 24 (by decide) (by decide) (by decide)]; exact l24
  have e38 : ∀ k, k < l.length → M3 38 k = nI (gl l k) := fun k hk => by rw [f13 38 k (by decide) (by decide) (by decide)]; exact (l38 k hk).2
  have e13 : M3 19 13 = nI od := by rw [f13 19 13 (by decide) (by decide) (by decide)]; exact hod
  have e30 : M3 19 30 = oI ls := by rw [f13 19 30 (by decide) (by decide) (by decide)]; exact hls
  have hS3 : SM M3 F G wd := hS.fr (f13 19 0 (by decide) (by decide) (by decide)) (fun c j q1 q2 => f13 c j (by omega) (by omega) (by omega))
  have hl3 : RWL M3 l := ⟨l8, e24, fun k hk => ⟨(l38 k hk).1, e38 k hk⟩⟩
  -- MEND
  have h135 : gX10_read 135 [some (.inr (some 19)), some (.inl (nI b)), some (.inl y2), some (.inl y3), none] [] M3 = gX10_read 174 [some (.inr (some 19)), some (.inl (nI b)), some (.inl y2), some (.inl y3), none] [.inl (oI (if 1 < l.length ∧ gl l 0 = 16 then ls.bind (fun f => ansL G wd l f 1) else none))] M3 := by
    rw [eX10_read_135, e24, L1]
    by_cases h2 : 1 < l.length
    · rw [if_neg (by rw [q_le (by omega) (by omega)]; omega), e38 0 (by omega), L16, e30]
      have h59 := (l38 0 (by omega)).1
      by_cases h16 : gl l 0 = 16
      · have er : (if 1 < l.length ∧ gl l 0 = 16 then ls.bind (fun f => ansL G wd l f 1) else none) = ls.bind (fun f => ansL G wd l f 1) := if_pos ⟨h2, h16⟩
        rw [er, if_pos (by rw [h16])]
        cases ls with
        | none =>
          rw [if_pos (show oI none < 0 by decide), eX10_read_173]
          rfl
        | some f =>
          have hf := hlF f rfl
          have e1 : ¬ oI (some f) < 0 := by
            show ¬ nI f < 0
            rw [L0, q_lt (by omega) (by omega)]
            omega
          rw [if_neg e1]
          show (mX10_answer [.inr (some 19), .inl (nI f), .inl (nI 1)] M3).bind _ = _
          rw [p_ansL hG hS3 hl3 hf (by omega)]
          simp only [bnd1, Option.toList_some, List.cons_append, List.nil_append, eX10_read_170]
          rfl
      · rw [if_neg (by rw [q_eq (by omega) (by omega)]; exact h16), if_neg (fun e => h16 e.2), eX10_read_173]
        rfl
    · rw [if_pos (nI_le (show l.length ≤ 1 by omega) (by omega)), if_neg (fun e => h2 e.1), eX10_read_173]
      rfl
  rw [h135]
  have hv4 : ∀ v, (if 1 < l.length ∧ gl l 0 = 16 then ls.bind (fun f => ansL G wd l f 1) else none) = some v → v < 100000000 := fun v e => by
    split at e
    · rename_i h9
      cases ls with
      | none => cases e
      | some f => exact ansL_lt hG (hlF f rfl) (by omega) e
    · cases e
  obtain ⟨M4, g4, R4, k4, f4⟩ := p_found_o (o := (if 1 < l.length ∧ gl l 0 = 16 then ls.bind (fun f => ansL G wd l f 1) else none)) (b := b + od) (s := 8) (X := gX10_read 174 [some (.inr (some 19)), some (.inl (nI b)), some (.inl y2), some (.inl y3), none] [.inl (oI (if 1 < l.length ∧ gl l 0 = 16 then ls.bind (fun f => ansL G wd l f 1) else none))] M3) (Y := gX10_read 195 [some (.inr (some 19)), some (.inl (nI b)), some (.inl y2), some (.inl y3), some (.inl (oI (if 1 < l.length ∧ gl l 0 = 16 then ls.bind (fun f => ansL G wd l f 1) else none)))] [] M3) (kk := fun r => gX10_read 195 [some (.inr (some 19)), some (.inl (nI b)), some (.inl y2), some (.inl y3), some (.inl (oI (if 1 < l.length ∧ gl l 0 = 16 then ls.bind (fun f => ansL G wd l f 1) else none)))] (r.1.toList ++ []) r.2) (Z := fun M' => gX10_read 195 [some (.inr (some 19)), some (.inl (nI b)), some (.inl y2), some (.inl y3), some (.inl (oI (if 1 < l.length ∧ gl l 0 = 16 then ls.bind (fun f => ansL G wd l f 1) else none)))] [] M') R3 k3 (by omega) (by omega) hv4 (by rw [eX10_read_174, e13, q_add]; rfl) rfl (fun M' => rfl)
  rw [g4, eX10_read_195]
  refine ⟨M4, _, rfl, R4, k4, fun c' j q1 q2 q3 => by rw [f4 c' j q1 q2 q3, f13 c' j q1 q2 q3], fun A hA => ?_⟩
  have hne : l ≠ [] := fun e => hn (by rw [e]; rfl)
  refine P2_congr (P2_insP (P2_insP (P2_insP (P2_insP hA _) _) _) _) (fun c k => ⟨fun q => ?_, fun q => ?_⟩)
  · rcases q with (((q | q) | q) | q) | q
    · exact Or.inl q
    · exact Or.inr ⟨hne, Or.inl q⟩
    · exact Or.inr ⟨hne, Or.inr (Or.inl q)⟩
    · exact Or.inr ⟨hne, Or.inr (Or.inr (Or.inl q))⟩
    · exact Or.inr ⟨hne, Or.inr (Or.inr (Or.inr q))⟩
  · rcases q with q | ⟨-, q | q | q | q⟩
    · exact Or.inl (Or.inl (Or.inl (Or.inl q)))
    · exact Or.inl (Or.inl (Or.inl (Or.inr q)))
    · exact Or.inl (Or.inl (Or.inr q))
    · exact Or.inl (Or.inr q)
    · exact Or.inr q
