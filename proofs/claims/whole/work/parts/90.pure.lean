theorem law_pure (xs : Nat → Int32) (L : Nat) (hL : L ≤ 2560) : ∃ (N : Nat) (so : QSt), lawF_23 xs L N 513 0 q_st0 = some (1, so) := sorry
