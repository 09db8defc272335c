theorem pure_ok (xs : Nat → Int32) {L : Nat} (hL : L ≤ 2560) : f_L_law_23 xs L 520 newG newM (fun _ => 0) 0 = some 1 := law_loop hL 520 0 newG newM (fun _ => 0) (by omega) (by omega) Rl_new
