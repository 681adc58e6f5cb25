theorem PURE (L : Nat) (xs : Nat → Int32) (hL : L ≤ 3072) : ∃ ue, F_law L xs U_X5_init = some (1, ue) := sorry
