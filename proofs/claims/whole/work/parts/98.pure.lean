/-! ===== THE PURE PART: what is still owed (no machine): the loop's transformer holds from the start ===== -/
theorem pure_law (xs : Nat → Int32) (L : Nat) (hL : L ≤ 1536) : f_law xs L 1000 st00 0 := sorry
