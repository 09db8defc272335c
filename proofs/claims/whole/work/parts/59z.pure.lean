theorem pure_ok (xs : Nat → Int32) {L : Nat} (hL : L ≤ 2560) : f_L_law_23 xs L 520 newG newM (fun _ => 0) 0 = some 1 := by
  sorry
