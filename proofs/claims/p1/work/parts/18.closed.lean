/-! THE LAW ON A FRESH PAIR, its call's number known -/
def sb_Q (pc : Nat) (c : Int32) (xs : Nat → Int32) : Bool := sb_ok (sf_at (some (6, upd xs 1 c)) 30 200000 1000 md_1000 199978 (pc, sb_lv 0, [], sb_h2, sb_u2))
theorem sb_q143 (xs : Nat → Int32) : sb_Q 143 0 xs = true := sb_all (sb_Q 143 0) (by decide +kernel) xs
theorem sb_q202 (xs : Nat → Int32) : sb_Q 202 (-1) xs = true := sb_all (sb_Q 202 (-1)) (by decide +kernel) xs
