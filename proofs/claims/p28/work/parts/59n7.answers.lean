/-! the law's look at what the class tells of goals and jams -/
/-- a bench as it may stand between the law's turns -/
def Inv (b : TB) (w : TW) (h : TH) : Prop := ∃ (s sv : Nat → Int32) (m n : Nat), Good s n ∧ Dst s n ∧ RB b s ∧ Ww w s n ∧ RH h sv (iN m) ∧ m ≤ 6 ∧ s 55 ≠ -iN 1
theorem Inv_Cx {b : TB} {w : TW} {h : TH} (hI : Inv b w h) : ∃ (s sv : Nat → Int32) (many : Int32) (n d : Nat) (J : Nat → Bool) (V : Nat → Int × Nat), Cx b w h s sv many n d J V := by
  obtain ⟨s, sv, m, n, hs, -, hB, hW, hH, -, hd⟩ := hI
  obtain ⟨d, J, V, hL, hl⟩ := lo_Ly hs hd
  exact ⟨s, sv, iN m, n, d, J, V, hs, hB, hW, hH, hL, hl⟩
theorem tV_0 (t1 k2 t2 y : Nat) (d : Int32) (mesh : Bool) : tV 0 t1 k2 t2 y d mesh = false := if_pos (Or.inl rfl)
theorem fit_0 {s : Nat → Int32} {n p l : Nat} : fit (sPut s p l (kG 0) 0) n p l = true := by
  unfold fit
  rw [decide_eq_true_eq]
  refine cnt_zero.mpr (fun q _ => ?_)
  unfold tS
  by_cases e : p = q
  · rw [if_pos e]
  · rw [if_neg e, show sPut s p l (kG 0) 0 (19 + 2 * p + l) = iN 0 by rw [sPut_at, if_neg (by omega), if_pos rfl]; rfl, vN_i (by omega), tV_0]
section
variable {b : TB} {w : TW} {h : TH} {s sv : Nat → Int32} {m n : Nat}
/-- a state that was put back -/
theorem Inv_back {b' : TB} {w' : TW} {h' : TH} {s' sv' : Nat → Int32} {m' n' : Nat} (hd : s 55 ≠ -iN 1) (e : ∀ j, j < 60 → s' j = s j) (g1 : Good s' n') (g2 : Dst s' n') (g3 : RB b' s') (g4 : Ww w' s' n') (g5 : RH h' sv' (iN m')) (g6 : m' ≤ 6) : Inv b' w' h' := ⟨s', sv', m', n', g1, g2, g3, g4, g5, g6, by rw [e 55 (by omega)]; exact hd⟩
theorem an_196 (T : TB) (tw : TW) {k : Nat} (hk : k < 2147483648) : f_L_areAnswersSo_196 b w T tw h 1 (iN k) = some (1, b, w, T, tw, h) := by
  unfold f_L_areAnswersSo_196
  rw [if_neg (show ¬ (1 : Int32) = 0 by decide), if_neg (show ¬ iN k < 0 from nlt0 hk)]
/-- one state back, as it was before the last change -/
theorem undo_one {s1 : Nat → Int32} {n1 : Nat} {b1 : TB} {w1 : TW} {h1 : TH} (hm : m ≤ 6) (hN : Nx s sv m n b1 w1 h1 s1 n1) : ∃ (b' : TB) (w' : TW) (h' : TH) (s' sv' : Nat → Int32) (m' n' : Nat), f_X5_undo b1 w1 h1 = some (0, iN m', b', w', h') ∧ (∀ j, j < 60 → s' j = s j) ∧ Good s' n' ∧ Dst s' n' ∧ RB b' s' ∧ Ww w' s' n' ∧ RH h' sv' (iN m') ∧ m' ≤ 6 := by
  obtain ⟨sv1, m1, e1, e2, g1, g2, g3, g4, g5⟩ := hN
  obtain ⟨sv2, m2, f1, f2, f3, f4, -⟩ := save_val (s := s) (sv := sv) hm
  rw [f1] at e1
  injection e1 with e1
  injection e1 with i1 i2
  subst i1
  have em : m2 = m1 := by
    rw [iN_eq (by omega) (by omega)] at i2
    exact i2
  subst em
  obtain ⟨b', w', h', s', n', u1, u2, u3, u4, u5, u6, u7⟩ := P_undo g1 g2 g3 g4 f3 f2 g5
  exact ⟨b', w', h', s', sv2, m2 - 1, n', u1, fun j hj => (u2 j hj).trans (f4 j hj), u3, u4, u5, u6, u7, by omega⟩
/-- two states back -/
theorem undo_two {s1 s2 sv1 : Nat → Int32} {m1 n1 n2 : Nat} {b2_ : TB} {w2 : TW} {h2 : TH} (hm : m ≤ 6) (hS : f_X6_save s sv (iN m) = some (sv1, iN m1)) (hm1 : m1 ≤ 6) (hN : Nx s1 sv1 m1 n1 b2_ w2 h2 s2 n2) : ∃ (v : Int32) (b' : TB) (w' : TW) (h' : TH) (b'' : TB) (w'' : TW) (h'' : TH) (s' sv' : Nat → Int32) (m' n' : Nat), f_X5_undo b2_ w2 h2 = some (0, v, b', w', h') ∧ f_X5_undo b' w' h' = some (0, iN m', b'', w'', h'') ∧ (∀ j, j < 60 → s' j = s j) ∧ Good s' n' ∧ Dst s' n' ∧ RB b'' s' ∧ Ww w'' s' n' ∧ RH h'' sv' (iN m') ∧ m' ≤ 6 := by
  obtain ⟨sv2, m2, e1, e2, g1, g2, g3, g4, g5⟩ := hN
  obtain ⟨x1, y1, c1, c2, c3, c4, -⟩ := save_val (s := s) (sv := sv) hm
  rw [c1] at hS
  injection hS with hS
  injection hS with i1 i2
  subst i1
  have em : y1 = m1 := by
    rw [iN_eq (by omega) (by omega)] at i2
    exact i2
  subst em
  obtain ⟨x2, y2, f1, f2, f3, f4, f5⟩ := save_val (s := s1) (sv := x1) hm1
  rw [f1] at e1
  injection e1 with e1
  injection e1 with i1 i2
  subst i1
  have em : y2 = m2 := by
    rw [iN_eq (by omega) (by omega)] at i2
    exact i2
  subst em
  obtain ⟨f6, f7⟩ := f5 c2
  obtain ⟨b', w', h', s', n', u1, u2, u3, u4, u5, u6, u7⟩ := P_undo g1 g2 g3 g4 f3 f2 g5
  obtain ⟨b'', w'', h'', s'', n'', v1, v2, v3, v4, v5, v6, v7⟩ := P_undo (m := y2 - 1) u3 u4 u5 u6 (by omega) (by omega) u7
  refine ⟨_, b', w', h', b'', w'', h'', s'', x2, y2 - 1 - 1, n'', u1, v1, fun j hj => ?_, v3, v4, v5, v6, v7, by omega⟩
  rw [v2 j hj, show y2 - 1 - 1 = y2 - 2 by omega, f7 j hj, c4 j hj]
/-- what frees a jam does -/
theorem an_92 (hs : Good s n) (hD : Dst s n) (hB : RB b s) (hW : Ww w s n) (hm : m ≤ 6) (hH : RH h sv (iN m)) (hd : s 55 ≠ -iN 1) (T : TB) (tw : TW) {k : Nat} (hk : k < 2147483648) : ∃ (b' : TB) (w' : TW) (T' : TB) (tw' : TW) (h' : TH), f_L_areAnswersSo_92 b w T tw h 1 (iN k) = some (1, b', w', T', tw', h') ∧ Inv b' w' h' := by
  have h9 := hs.2.1
  obtain ⟨x, T1, tw1, c1, c2⟩ := s_culpritC hs hB hW T tw
  unfold f_L_areAnswersSo_92
  rw [bd c1, if_neg (show ¬ (1 : Int32) = 0 by decide)]
  cases x with
  | none =>
    refine ⟨b, w, T1, tw1, h, ?_, s, sv, m, n, hs, hD, hB, hW, hH, hm, hd⟩
    unfold f_L_areAnswersSo_127 f_L_areAnswersSo_132
    rw [show oN none = -1 from rfl, if_pos (show (-1 : Int32) < 0 by decide), if_pos (show (-1 : Int32) < 0 by decide)]
    exact an_196 T1 tw1 hk
  | some c =>
    obtain ⟨c3, c4, c5, -⟩ := c2
    unfold cuB frB at c5
    simp only [Bool.and_eq_true, Bool.not_eq_true', decide_eq_false_iff_not, decide_eq_true_eq] at c5
    obtain ⟨c6, c7, c8⟩ := c5
    obtain ⟨y1, b1, w1, T2, h1, p1, N1, -⟩ := P_put (w := w) hs hD hB hm hH T1 c4 (show 0 < 2 by omega) (show 0 ≤ 20 by omega) fit_0
    obtain ⟨sv1, m1, e1, e2, g1, g2, g3, g4, g5⟩ := N1
    obtain ⟨y2, b2', w2, T3, h2, p2, N2, -⟩ := P_put (w := w1) g1 g2 g3 e2 g5 T2 c4 (show 1 < 2 by omega) (show 0 ≤ 20 by omega) fit_0
    obtain ⟨v, b3, w3, h3, b4, w4, h4, s4, sv4, m4, n4, u1, u2, u3, u4, u5, u6, u7, u8, u9⟩ := undo_two hm e1 e2 N2
    obtain ⟨sv2, m2, -, -, q1, q2, q3, q4, q5⟩ := N2
    refine ⟨b4, w4, T3, tw1, h4, ?_, Inv_back hd u3 u4 u5 u6 u7 u8 u9⟩
    have e0 : (0 : Int32) = iN 0 := rfl
    unfold f_L_areAnswersSo_127 f_L_areAnswersSo_132 f_L_areAnswersSo_185
    rw [show oN (some c) = iN c from rfl, if_neg (show ¬ iN c < 0 from nlt0 (by omega)), show (6 : Int32) = iN 6 from rfl, show (4 : Int32) = iN 4 from rfl, show (5 : Int32) = iN 5 from rfl, bd (P_c6 hs hB hW hH), if_pos Q00, c3, if_pos (show b2 true = 1 from rfl), bd (P_c4 hs hB hW hH), if_pos Q00, if_neg (show ¬ iN c = s 55 from fun e => c6 e.symm), if_neg (show ¬ iN c < 0 from nlt0 (by omega)), e0, show (1 : Int32) = iN 1 from rfl, bd p1, if_pos Q00, bd p2, if_pos Q00, if_neg n10, bd (P_c6 q1 q3 q4 q5), if_pos Q00]
    have jb : jB (sPut (sPut s c 0 (kG 0) 0) c 1 (kG 0) 0) = false := c7
    have jc : 1 < jC (sPut (sPut s c 0 (kG 0) 0) c 1 (kG 0) 0) := c8
    have jl : jC (sPut (sPut s c 0 (kG 0) 0) c 1 (kG 0) 0) ≤ 9 := cnt_le _ _
    rw [jb, if_pos (show b2 false = iN 0 from rfl), bd (P_c5 q1 q3 q4 q5), if_pos Q00, if_neg (show ¬ iN (jC (sPut (sPut s c 0 (kG 0) 0) c 1 (kG 0) 0)) ≤ iN 1 by rw [iN_le (by omega) (by omega)]; omega), bd u1, if_pos Q00, bd u2, if_pos Q00]
    exact an_196 T3 tw1 (by omega)
theorem oN_lt : ¬ (-1 : Int32) ≥ 0 := by decide
/-- what is told to reach the goal does -/
theorem an_all (hI : Inv b w h) (T : TB) (tw : TW) : ∃ (b' : TB) (w' : TW) (T' : TB) (tw' : TW) (h' : TH), f_L_areAnswersSo b w T tw h = some (1, b', w', T', tw', h') ∧ Inv b' w' h' := by
  obtain ⟨s, sv, m, n, hs, hD, hB, hW, hH, hm, hd⟩ := hI
  have h9 := hs.2.1
  obtain ⟨x, T1, tw1, c1, c2⟩ := P_solution hs hB hW (show 0 ≤ 2 by omega) T tw
  have e0 : (0 : Int32) = iN 0 := rfl
  unfold f_L_areAnswersSo
  rw [e0, show (1 : Int32) = iN 1 from rfl, show (2 : Int32) = iN 2 from rfl, show (8 : Int32) = iN 8 from rfl, bd c1, if_pos Q00]
  cases x with
  | none =>
    rw [show soV none 0 = -1 from rfl, if_pos (show (-1 : Int32) < iN 0 by decide)]
    exact an_92 hs hD hB hW hm hH hd T1 tw1 (k := 0) (by omega)
  | some c =>
    obtain ⟨x1, T2, tw2, a1, a2⟩ := P_solution hs hB hW (show 1 ≤ 2 by omega) T1 tw1
    obtain ⟨x2, T3, tw3, a3, a4⟩ := P_solution hs hB hW (show 2 ≤ 2 by omega) T2 tw2
    have ex1 := fcR_one a2 c2
    have ex2 := fcR_one a4 c2
    subst ex1
    subst ex2
    obtain ⟨d1, d2, d3, d4, -⟩ := c2
    unfold chB at d4
    rw [Bool.and_eq_true] at d4
    obtain ⟨d4, d5⟩ := d4
    have hp : c / 42 < n := by omega
    have hl : c / 21 % 2 < 2 := by omega
    have ht : c % 21 ≤ 20 := by omega
    obtain ⟨T4, tw4, f1⟩ := P_ifPut hs hB T3 tw3 hp hl ht
    obtain ⟨y1, b1, w1, T5, h1, p1, N1, -⟩ := P_put (w := w) hs hD hB hm hH T4 hp hl ht d4
    obtain ⟨b3, w3, h3, s3, sv3, m3, n3, u1, u2, u3, u4, u5, u6, u7, u8⟩ := undo_one hm N1
    obtain ⟨sv2, m2, -, -, q1, q2, q3, q4, q5⟩ := N1
    have wv : wpV s (sPut s (c / 42) (c / 21 % 2) (kG (c % 21)) (c % 21)) n (c / 42) (c / 21 % 2) 0 = iN (cnt (fun q => tS (sPut s (c / 42) (c / 21 % 2) (kG (c % 21)) (c % 21)) (c / 42) q (c / 21 % 2) true) n) := by
      unfold wpV
      rw [if_pos rfl, if_pos (show fit (sPut s (c / 42) (c / 21 % 2) (kG (c % 21)) (c % 21)) n (c / 42) (c / 21 % 2) = true from d4)]
    have cl : cnt (fun q => tS (sPut s (c / 42) (c / 21 % 2) (kG (c % 21)) (c % 21)) (c / 42) q (c / 21 % 2) true) n ≤ n := cnt_le _ _
    rw [show soV (some c) 0 = iN (c / 42) from rfl, if_neg (nlt0 (show c / 42 < 2147483648 by omega)), bd a1, if_pos Q00, bd a3, if_pos Q00, bd (P_c8 hs hB hW hH), if_pos Q00, d2, if_pos (show b2 false = iN 0 from rfl), show soV (some c) 1 = iN (c / 21 % 2) from rfl, show soV (some c) 2 = iN (c % 21) from rfl, bd f1, if_pos Q00, wv, if_neg (nlt0 (by omega))]
    unfold f_L_areAnswersSo_55 f_L_areAnswersSo_86
    rw [bd p1, if_pos Q00, if_neg (show ¬ iN 1 = 0 from n10), show (8 : Int32) = iN 8 from rfl, bd (P_c8 q1 q3 q4 q5), if_pos Q00, show rB (sPut s (c / 42) (c / 21 % 2) (kG (c % 21)) (c % 21)) = true from d5, if_pos (show b2 true = 1 from rfl), bd u1, if_pos Q00]
    exact an_92 u3 u4 u5 u6 u8 u7 (by rw [u2 55 (by omega)]; exact hd) T5 tw4 (by omega)
end
