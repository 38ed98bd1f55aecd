/-! what is wanting: the two memories answer alike on every script -/
def gs_x0 : Nat := 0
theorem sim_all (xs : Nat → Int32) (L : Nat) (hL : L ≤ 3072) : ∃ n, f_L xs L n 0 gs_mx gs_mm = some () := sorry
