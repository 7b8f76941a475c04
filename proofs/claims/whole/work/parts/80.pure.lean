/-! The pure part: the law's run, as a function, ends with 1 on every script. -/
theorem law_pure (L : Nat) (hL : L ≤ 4608) (xs : Nat → Int32) : ∃ M' : MM, mev (zlook (tL_law L xs)) 18 [some (.inr (some 100)), some (.inr (some 0)), some (.inr (some 19)), some (.inl 0)] [] M0 = some (some (.inl 1), M') := law_loop hL xs L 0 M0 rr_M0 (by omega) (by decide)
