theorem pure_ok (xs : Nat → Int32) {L : Nat} (hL : L ≤ 260) : f_L_law_10 xs L 8 newG 0 = some 1 := law_10 hL 8 0 newG (by omega) (by omega) Fl_new
