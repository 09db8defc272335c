/-! looks -/
def drN (z : Int64) : Nat := if z = 0 then 0 else if 0 < z then 1 else 2
theorem drN_lt (z : Int64) : drN z < 3 := by unfold drN; split <;> (try split) <;> omega
theorem s_direction {nu : Nat → Int64} {p : Nat} (hp : p < 9) : f_X4_direction nu (iN p) = some (iN (drN (nu p))) := by
  unfold f_X4_direction drN
  rw [rd_n hp (by omega), rd_n hp (by omega)]
  simp only [cmp_eq, cmp_le]
  by_cases h : nu p = 0
  · rw [if_pos h, if_pos h]
    rfl
  · rw [if_neg h, if_neg h]
    by_cases h2 : 0 < nu p
    · rw [if_neg (by simpa using h2), if_pos h2]
      rfl
    · rw [if_pos h2, if_neg h2]
      rfl
def pV (s : Nat → Int32) (n : Nat) (ab : Nat → Int64) (jo : Nat → Int32) (p k : Nat) : Int32 :=
  if k = 0 then s (1 + p) else if k = 1 then s (10 + p) else if k = 2 then s (37 + 2 * p) else if k = 3 then s (37 + 2 * p + 1) else if k = 4 then s (19 + 2 * p) else if k = 5 then s (19 + 2 * p + 1) else if k = 6 then iN (cnt (fun q => decide (0 < mS s p q)) n) else if k = 7 then iN (drN (ab p)) else jo p
theorem s_pegPropC {s : Nat → Int32} {n p k : Nat} (hs : Good s n) {b : TB} (hB : RB b s) {w : TW} (hW : Ww w s n) (hp : p < n) (hk : k ≤ 8) : f_X5_pegProperty b w (iN p) (iN k) = some (pV s n w.2.1 w.2.2.2.1 p k) := by
  have h9 := hs.2.1
  have hp9 : p < 9 := by omega
  obtain ⟨x1, x2⟩ := hB.1 p hp9
  obtain ⟨k1, k2⟩ := hB.2.1 p 0 hp9 (by omega)
  obtain ⟨k3, k4⟩ := hB.2.1 p 1 hp9 (by omega)
  have o0 := s_spot p 0
  have o1 := s_spot p 1
  have i0 : 0 * 9 + p < 18 := by omega
  have i1 : 1 * 9 + p < 18 := by omega
  have nb := s_neighbours hs hW.1 hp
  have dr := s_direction (nu := w.2.1) hp9
  have hj : w.2.2.2.1 p = iN 0 ∨ w.2.2.2.1 p = iN 1 := by
    obtain ⟨de, jm, -, h, -⟩ := hW.2
    exact Solved_jo h p hp9
  have tn : f_X5_toNumber (w.2.2.2.1 p) = some (w.2.2.2.1 p) := by
    rcases hj with h | h <;> rw [h] <;> rfl
  unfold f_X5_pegProperty
  rw [lt_eq, RB_pegs hs hB]
  rcases (show k = 0 ∨ k = 1 ∨ k = 2 ∨ k = 3 ∨ k = 4 ∨ k = 5 ∨ k = 6 ∨ k = 7 ∨ k = 8 by omega) with rfl | rfl | rfl | rfl | rfl | rfl | rfl | rfl | rfl
  · rw [if_pos (show iN 0 = 0 from rfl), rd_n hp9 (by omega), x1]
    rfl
  · rw [if_neg (show ¬ iN 1 = 0 by decide), if_pos (show iN 1 = 1 from rfl), rd_n hp9 (by omega), x2]
    rfl
  · rw [if_neg (show ¬ iN 2 = 0 by decide), if_neg (show ¬ iN 2 = 1 by decide), if_pos (show iN 2 = 2 from rfl), show (0 : Int32) = iN 0 from rfl, bd o0, rd_n i0 (by omega), k2]
    rfl
  · rw [if_neg (show ¬ iN 3 = 0 by decide), if_neg (show ¬ iN 3 = 1 by decide), if_neg (show ¬ iN 3 = 2 by decide), if_pos (show iN 3 = 3 from rfl), show (1 : Int32) = iN 1 from rfl, bd o1, rd_n i1 (by omega), k4]
    rfl
  · rw [if_neg (show ¬ iN 4 = 0 by decide), if_neg (show ¬ iN 4 = 1 by decide), if_neg (show ¬ iN 4 = 2 by decide), if_neg (show ¬ iN 4 = 3 by decide), if_pos (show iN 4 = 4 from rfl), show (0 : Int32) = iN 0 from rfl, bd o0, rd_n i0 (by omega), k1]
    rfl
  · rw [if_neg (show ¬ iN 5 = 0 by decide), if_neg (show ¬ iN 5 = 1 by decide), if_neg (show ¬ iN 5 = 2 by decide), if_neg (show ¬ iN 5 = 3 by decide), if_neg (show ¬ iN 5 = 4 by decide), if_pos (show iN 5 = 5 from rfl), show (1 : Int32) = iN 1 from rfl, bd o1, rd_n i1 (by omega), k3]
    rfl
  · rw [if_neg (show ¬ iN 6 = 0 by decide), if_neg (show ¬ iN 6 = 1 by decide), if_neg (show ¬ iN 6 = 2 by decide), if_neg (show ¬ iN 6 = 3 by decide), if_neg (show ¬ iN 6 = 4 by decide), if_neg (show ¬ iN 6 = 5 by decide), if_pos (show iN 6 = 6 from rfl), bd nb]
    rfl
  · rw [if_neg (show ¬ iN 7 = 0 by decide), if_neg (show ¬ iN 7 = 1 by decide), if_neg (show ¬ iN 7 = 2 by decide), if_neg (show ¬ iN 7 = 3 by decide), if_neg (show ¬ iN 7 = 4 by decide), if_neg (show ¬ iN 7 = 5 by decide), if_neg (show ¬ iN 7 = 6 by decide), if_pos (show iN 7 = 7 from rfl), bd dr]
    rfl
  · rw [if_neg (show ¬ iN 8 = 0 by decide), if_neg (show ¬ iN 8 = 1 by decide), if_neg (show ¬ iN 8 = 2 by decide), if_neg (show ¬ iN 8 = 3 by decide), if_neg (show ¬ iN 8 = 4 by decide), if_neg (show ¬ iN 8 = 5 by decide), if_neg (show ¬ iN 8 = 6 by decide), if_neg (show ¬ iN 8 = 7 by decide), rd_n hp9 (by omega), bd tn]
    rfl
theorem s_pegOfM {s : Nat → Int32} {n p k : Nat} (hs : Good s n) {ab : Nat → Int64} {jo : Nat → Int32} (hj : ∀ p, p < 9 → jo p = iN 0 ∨ jo p = iN 1) (hp : p < n) (hk : k ≤ 8) : f_X6_pegOf s ab jo (iN p) (iN k) = some (pV s n ab jo p k) := by
  have h9 := hs.2.1
  have hp9 : p < 9 := by omega
  have nb := s_partners3 hs hp9
  have dr := s_direction (nu := ab) hp9
  have t0 := s_teeth (s := s) hp9 (show 0 < 2 by omega)
  have t1 := s_teeth (s := s) hp9 (show 1 < 2 by omega)
  have q0 := s_kind (s := s) hp9 (show 0 < 2 by omega)
  have q1 := s_kind (s := s) hp9 (show 1 < 2 by omega)
  have u0 : iN 2 - iN 2 = iN 0 := iN_sub (by omega)
  have u1 : iN 3 - iN 2 = iN 1 := iN_sub (by omega)
  have u2 : iN 4 - iN 4 = iN 0 := iN_sub (by omega)
  have u3 : iN 5 - iN 4 = iN 1 := iN_sub (by omega)
  unfold f_X6_pegOf f_X6_pegOf_67 f_X6_pegOf_76
  rcases (show k = 0 ∨ k = 1 ∨ k = 2 ∨ k = 3 ∨ k = 4 ∨ k = 5 ∨ k = 6 ∨ k = 7 ∨ k = 8 by omega) with rfl | rfl | rfl | rfl | rfl | rfl | rfl | rfl | rfl
  · simp (disch := omega) only [↓lt_eq, ↓rd_n, ↓rd_l, ↓rd_a, ↓rd_s, ↓rd_sl, ↓rd_c, ↓rd_m, ↓rd_i, ↓wrI_n, ↓wrI_l, ↓wrI_a, ↓wrI_s, ↓wrI_sl, ↓wrI_c, ↓wrI_m, ↓wrI_i, ↓wrJ_n, ↓wrZ_n, ↓Option.bind_some, ↓reduceIte, Nat.reduceEqDiff, Nat.reduceLeDiff, Nat.reduceLT, Nat.reduceAdd, Nat.reduceMul, Nat.reduceSub, Nat.reduceDiv, Nat.reduceMod, eq_self, and_true, true_and, or_true, true_or, and_false, false_and, or_false, false_or, not_true_eq_false, not_false_eq_true, and_self, or_self, Bool.false_eq_true, reduceCtorEq, decide_true, decide_false, Nat.zero_le, Nat.le_refl, Nat.lt_irrefl, Nat.not_lt_zero, Nat.zero_ne_one, Nat.one_ne_zero, iN_lit, iN_add, iN_mul, iN_le, iN_lt, iN_eq, iN_m1, m1_iN, m1_le, le_m1, m1_lt, lt_m1, m1_m1]
    rfl
  · simp (disch := omega) only [↓lt_eq, ↓rd_n, ↓rd_l, ↓rd_a, ↓rd_s, ↓rd_sl, ↓rd_c, ↓rd_m, ↓rd_i, ↓wrI_n, ↓wrI_l, ↓wrI_a, ↓wrI_s, ↓wrI_sl, ↓wrI_c, ↓wrI_m, ↓wrI_i, ↓wrJ_n, ↓wrZ_n, ↓Option.bind_some, ↓reduceIte, Nat.reduceEqDiff, Nat.reduceLeDiff, Nat.reduceLT, Nat.reduceAdd, Nat.reduceMul, Nat.reduceSub, Nat.reduceDiv, Nat.reduceMod, eq_self, and_true, true_and, or_true, true_or, and_false, false_and, or_false, false_or, not_true_eq_false, not_false_eq_true, and_self, or_self, Bool.false_eq_true, reduceCtorEq, decide_true, decide_false, Nat.zero_le, Nat.le_refl, Nat.lt_irrefl, Nat.not_lt_zero, Nat.zero_ne_one, Nat.one_ne_zero, iN_lit, iN_add, iN_mul, iN_le, iN_lt, iN_eq, iN_m1, m1_iN, m1_le, le_m1, m1_lt, lt_m1, m1_m1]
    rfl
  · simp (disch := omega) only [u0, ↓bd t0, ↓lt_eq, ↓rd_n, ↓rd_l, ↓rd_a, ↓rd_s, ↓rd_sl, ↓rd_c, ↓rd_m, ↓rd_i, ↓wrI_n, ↓wrI_l, ↓wrI_a, ↓wrI_s, ↓wrI_sl, ↓wrI_c, ↓wrI_m, ↓wrI_i, ↓wrJ_n, ↓wrZ_n, ↓Option.bind_some, ↓reduceIte, Nat.reduceEqDiff, Nat.reduceLeDiff, Nat.reduceLT, Nat.reduceAdd, Nat.reduceMul, Nat.reduceSub, Nat.reduceDiv, Nat.reduceMod, eq_self, and_true, true_and, or_true, true_or, and_false, false_and, or_false, false_or, not_true_eq_false, not_false_eq_true, and_self, or_self, Bool.false_eq_true, reduceCtorEq, decide_true, decide_false, Nat.zero_le, Nat.le_refl, Nat.lt_irrefl, Nat.not_lt_zero, Nat.zero_ne_one, Nat.one_ne_zero, iN_lit, iN_add, iN_mul, iN_le, iN_lt, iN_eq, iN_m1, m1_iN, m1_le, le_m1, m1_lt, lt_m1, m1_m1]
    rfl
  · simp (disch := omega) only [u1, ↓bd t1, ↓lt_eq, ↓rd_n, ↓rd_l, ↓rd_a, ↓rd_s, ↓rd_sl, ↓rd_c, ↓rd_m, ↓rd_i, ↓wrI_n, ↓wrI_l, ↓wrI_a, ↓wrI_s, ↓wrI_sl, ↓wrI_c, ↓wrI_m, ↓wrI_i, ↓wrJ_n, ↓wrZ_n, ↓Option.bind_some, ↓reduceIte, Nat.reduceEqDiff, Nat.reduceLeDiff, Nat.reduceLT, Nat.reduceAdd, Nat.reduceMul, Nat.reduceSub, Nat.reduceDiv, Nat.reduceMod, eq_self, and_true, true_and, or_true, true_or, and_false, false_and, or_false, false_or, not_true_eq_false, not_false_eq_true, and_self, or_self, Bool.false_eq_true, reduceCtorEq, decide_true, decide_false, Nat.zero_le, Nat.le_refl, Nat.lt_irrefl, Nat.not_lt_zero, Nat.zero_ne_one, Nat.one_ne_zero, iN_lit, iN_add, iN_mul, iN_le, iN_lt, iN_eq, iN_m1, m1_iN, m1_le, le_m1, m1_lt, lt_m1, m1_m1]
    rfl
  · simp (disch := omega) only [u2, ↓bd q0, ↓lt_eq, ↓rd_n, ↓rd_l, ↓rd_a, ↓rd_s, ↓rd_sl, ↓rd_c, ↓rd_m, ↓rd_i, ↓wrI_n, ↓wrI_l, ↓wrI_a, ↓wrI_s, ↓wrI_sl, ↓wrI_c, ↓wrI_m, ↓wrI_i, ↓wrJ_n, ↓wrZ_n, ↓Option.bind_some, ↓reduceIte, Nat.reduceEqDiff, Nat.reduceLeDiff, Nat.reduceLT, Nat.reduceAdd, Nat.reduceMul, Nat.reduceSub, Nat.reduceDiv, Nat.reduceMod, eq_self, and_true, true_and, or_true, true_or, and_false, false_and, or_false, false_or, not_true_eq_false, not_false_eq_true, and_self, or_self, Bool.false_eq_true, reduceCtorEq, decide_true, decide_false, Nat.zero_le, Nat.le_refl, Nat.lt_irrefl, Nat.not_lt_zero, Nat.zero_ne_one, Nat.one_ne_zero, iN_lit, iN_add, iN_mul, iN_le, iN_lt, iN_eq, iN_m1, m1_iN, m1_le, le_m1, m1_lt, lt_m1, m1_m1]
    rfl
  · simp (disch := omega) only [u3, ↓bd q1, ↓lt_eq, ↓rd_n, ↓rd_l, ↓rd_a, ↓rd_s, ↓rd_sl, ↓rd_c, ↓rd_m, ↓rd_i, ↓wrI_n, ↓wrI_l, ↓wrI_a, ↓wrI_s, ↓wrI_sl, ↓wrI_c, ↓wrI_m, ↓wrI_i, ↓wrJ_n, ↓wrZ_n, ↓Option.bind_some, ↓reduceIte, Nat.reduceEqDiff, Nat.reduceLeDiff, Nat.reduceLT, Nat.reduceAdd, Nat.reduceMul, Nat.reduceSub, Nat.reduceDiv, Nat.reduceMod, eq_self, and_true, true_and, or_true, true_or, and_false, false_and, or_false, false_or, not_true_eq_false, not_false_eq_true, and_self, or_self, Bool.false_eq_true, reduceCtorEq, decide_true, decide_false, Nat.zero_le, Nat.le_refl, Nat.lt_irrefl, Nat.not_lt_zero, Nat.zero_ne_one, Nat.one_ne_zero, iN_lit, iN_add, iN_mul, iN_le, iN_lt, iN_eq, iN_m1, m1_iN, m1_le, le_m1, m1_lt, lt_m1, m1_m1]
    rfl
  · rw [lt_eq, if_neg (show ¬ iN 6 = 0 by decide), if_neg (show ¬ iN 6 = 1 by decide), if_neg (show ¬ iN 6 = 2 by decide), if_neg (show ¬ iN 6 = 3 by decide), if_neg (show ¬ iN 6 = 4 by decide), if_neg (show ¬ iN 6 = 5 by decide), if_pos (show iN 6 = 6 from rfl), bd nb]
    rfl
  · unfold f_X4_direction at dr
    rw [lt_eq, if_neg (show ¬ iN 7 = 0 by decide), if_neg (show ¬ iN 7 = 1 by decide), if_neg (show ¬ iN 7 = 2 by decide), if_neg (show ¬ iN 7 = 3 by decide), if_neg (show ¬ iN 7 = 4 by decide), if_neg (show ¬ iN 7 = 5 by decide), if_neg (show ¬ iN 7 = 6 by decide), if_pos (show iN 7 = 7 from rfl)]
    exact dr
  · rw [lt_eq, if_neg (show ¬ iN 8 = 0 by decide), if_neg (show ¬ iN 8 = 1 by decide), if_neg (show ¬ iN 8 = 2 by decide), if_neg (show ¬ iN 8 = 3 by decide), if_neg (show ¬ iN 8 = 4 by decide), if_neg (show ¬ iN 8 = 5 by decide), if_neg (show ¬ iN 8 = 6 by decide), if_neg (show ¬ iN 8 = 7 by decide), rd_n hp9 (by omega)]
    show _ = some (jo p)
    rcases hj p hp9 with h | h <;> rw [h] <;> rfl
def cV (s : Nat → Int32) (n : Nat) (ab be : Nat → Int64) (jo : Nat → Int32) (jm : Bool) (many : Int32) (k : Nat) : Int32 :=
  if k = 0 then iN n else if k = 1 ∨ k = 2 ∨ k = 3 ∨ k = 9 then iN (wS s n k) else if k = 4 then s 55 else if k = 5 then iN (cnt (fun p => decide (jo p = iN 1)) 9) else if k = 6 then b2 jm else if k = 7 then s 56 else if k = 8 then b2 (gR s ab be) else many
theorem s_countOf {s : Nat → Int32} {n k : Nat} (hs : Good s n) {b : TB} (hB : RB b s) {w : TW} (hW : Ww w s n) {jm : Bool} (hj : w.2.2.2.2.2.2 = b2 jm) {h : TH} {sv : Nat → Int32} {many : Int32} (hH : RH h sv many) (hk : k ≤ 10) : f_X5_countOf b w h (iN k) = some (cV s n w.2.1 w.2.2.1 w.2.2.2.1 jm many k) := by
  have h9 := hs.2.1
  have t1 : f_X0_things b.2.2.1 (iN n) 1 = some (iN (wS s n 1)) := s_things (w := 1) hs hB.2.1 (by omega)
  have t2 : f_X0_things b.2.2.1 (iN n) 2 = some (iN (wS s n 2)) := s_things (w := 2) hs hB.2.1 (by omega)
  have t3 := s_meshingPairs hs hW.1
  have t9 := s_overlapsC hs hB.1 hB.2.1 hB.2.2.2.2.2.2.2
  have t8 := s_reachC hs w.2.1 w.2.2.1 hB.2.2.2.2.1 hB.2.2.2.2.2.1 hB.2.2.2.2.2.2.1
  have hm : h.2.1 = many := by
    obtain ⟨f, m, -, -, e1, e2, -⟩ := hH
    rw [e1, e2]
  have h5 : w.2.2.2.2.2.1 = iN (cnt (fun p => decide (w.2.2.2.1 p = iN 1)) 9) := by
    obtain ⟨-, de, jm, -, -, -, e⟩ := hW
    exact e
  unfold f_X5_countOf
  rw [lt_eq, RB_pegs hs hB]
  rcases (show k = 0 ∨ k = 1 ∨ k = 2 ∨ k = 3 ∨ k = 4 ∨ k = 5 ∨ k = 6 ∨ k = 7 ∨ k = 8 ∨ k = 9 ∨ k = 10 by omega) with rfl | rfl | rfl | rfl | rfl | rfl | rfl | rfl | rfl | rfl | rfl
  · rfl
  · rw [if_neg (show ¬ iN 1 = 0 by decide), if_pos (show iN 1 = 1 from rfl), bd t1]
    rfl
  · rw [if_neg (show ¬ iN 2 = 0 by decide), if_neg (show ¬ iN 2 = 1 by decide), if_pos (show iN 2 = 2 from rfl), bd t2]
    rfl
  · rw [if_neg (show ¬ iN 3 = 0 by decide), if_neg (show ¬ iN 3 = 1 by decide), if_neg (show ¬ iN 3 = 2 by decide), if_pos (show iN 3 = 3 from rfl), bd t3]
    rfl
  · rw [if_neg (show ¬ iN 4 = 0 by decide), if_neg (show ¬ iN 4 = 1 by decide), if_neg (show ¬ iN 4 = 2 by decide), if_neg (show ¬ iN 4 = 3 by decide), if_pos (show iN 4 = 4 from rfl), hB.2.2.2.1]
    rfl
  · rw [if_neg (show ¬ iN 5 = 0 by decide), if_neg (show ¬ iN 5 = 1 by decide), if_neg (show ¬ iN 5 = 2 by decide), if_neg (show ¬ iN 5 = 3 by decide), if_neg (show ¬ iN 5 = 4 by decide), if_pos (show iN 5 = 5 from rfl), h5]
    rfl
  · rw [if_neg (show ¬ iN 6 = 0 by decide), if_neg (show ¬ iN 6 = 1 by decide), if_neg (show ¬ iN 6 = 2 by decide), if_neg (show ¬ iN 6 = 3 by decide), if_neg (show ¬ iN 6 = 4 by decide), if_neg (show ¬ iN 6 = 5 by decide), if_pos (show iN 6 = 6 from rfl), hj, bd (s_toNumber _)]
    rfl
  · rw [if_neg (show ¬ iN 7 = 0 by decide), if_neg (show ¬ iN 7 = 1 by decide), if_neg (show ¬ iN 7 = 2 by decide), if_neg (show ¬ iN 7 = 3 by decide), if_neg (show ¬ iN 7 = 4 by decide), if_neg (show ¬ iN 7 = 5 by decide), if_neg (show ¬ iN 7 = 6 by decide), if_pos (show iN 7 = 7 from rfl), hB.2.2.2.2.1]
    rfl
  · rw [if_neg (show ¬ iN 8 = 0 by decide), if_neg (show ¬ iN 8 = 1 by decide), if_neg (show ¬ iN 8 = 2 by decide), if_neg (show ¬ iN 8 = 3 by decide), if_neg (show ¬ iN 8 = 4 by decide), if_neg (show ¬ iN 8 = 5 by decide), if_neg (show ¬ iN 8 = 6 by decide), if_neg (show ¬ iN 8 = 7 by decide), if_pos (show iN 8 = 8 from rfl), bd t8, bd (s_toNumber _)]
    rfl
  · rw [if_neg (show ¬ iN 9 = 0 by decide), if_neg (show ¬ iN 9 = 1 by decide), if_neg (show ¬ iN 9 = 2 by decide), if_neg (show ¬ iN 9 = 3 by decide), if_neg (show ¬ iN 9 = 4 by decide), if_neg (show ¬ iN 9 = 5 by decide), if_neg (show ¬ iN 9 = 6 by decide), if_neg (show ¬ iN 9 = 7 by decide), if_neg (show ¬ iN 9 = 8 by decide), if_pos (show iN 9 = 9 from rfl), bd t9]
    rfl
  · rw [if_neg (show ¬ iN 10 = 0 by decide), if_neg (show ¬ iN 10 = 1 by decide), if_neg (show ¬ iN 10 = 2 by decide), if_neg (show ¬ iN 10 = 3 by decide), if_neg (show ¬ iN 10 = 4 by decide), if_neg (show ¬ iN 10 = 5 by decide), if_neg (show ¬ iN 10 = 6 by decide), if_neg (show ¬ iN 10 = 7 by decide), if_neg (show ¬ iN 10 = 8 by decide), if_neg (show ¬ iN 10 = 9 by decide), hm]
    rfl
theorem s_counted {s : Nat → Int32} {n k : Nat} (hs : Good s n) {ab be : Nat → Int64} {jo : Nat → Int32} {jm : Bool} {many : Int32} (hj : ∀ p, p < 9 → jo p = iN 0 ∨ jo p = iN 1) (hk : k ≤ 10) : f_X6_counted s many ab be jo (b2 jm) (iN k) = some (cV s n ab be jo jm many k) := by
  have h9 := hs.2.1
  have su := s_sum (w := k) hs (by omega)
  have t8 := s_reachM hs ab be
  have t5 := s_joined hj
  unfold f_X6_counted f_X6_counted_63
  rw [lt_eq]
  rcases (show k = 0 ∨ k = 1 ∨ k = 2 ∨ k = 3 ∨ k = 4 ∨ k = 5 ∨ k = 6 ∨ k = 7 ∨ k = 8 ∨ k = 9 ∨ k = 10 by omega) with rfl | rfl | rfl | rfl | rfl | rfl | rfl | rfl | rfl | rfl | rfl
  · rw [if_pos z0, rd_0 (by omega), hs.1]
    rfl
  · rw [if_neg (show ¬ iN 1 = 0 by decide), if_pos (show iN 1 = 1 from rfl), bd su]
    rfl
  · rw [if_neg (show ¬ iN 2 = 0 by decide), if_neg (show ¬ iN 2 = 1 by decide), if_pos (show iN 2 = 2 from rfl), bd su]
    rfl
  · rw [if_neg (show ¬ iN 3 = 0 by decide), if_neg (show ¬ iN 3 = 1 by decide), if_neg (show ¬ iN 3 = 2 by decide), if_pos (show iN 3 = 3 from rfl), bd su]
    rfl
  · rw [if_neg (show ¬ iN 4 = 0 by decide), if_neg (show ¬ iN 4 = 1 by decide), if_neg (show ¬ iN 4 = 2 by decide), if_neg (show ¬ iN 4 = 3 by decide), if_pos (show iN 4 = 4 from rfl), rd_55]
    rfl
  · rw [if_neg (show ¬ iN 5 = 0 by decide), if_neg (show ¬ iN 5 = 1 by decide), if_neg (show ¬ iN 5 = 2 by decide), if_neg (show ¬ iN 5 = 3 by decide), if_neg (show ¬ iN 5 = 4 by decide), if_pos (show iN 5 = 5 from rfl), bd t5]
    rfl
  · rw [if_neg (show ¬ iN 6 = 0 by decide), if_neg (show ¬ iN 6 = 1 by decide), if_neg (show ¬ iN 6 = 2 by decide), if_neg (show ¬ iN 6 = 3 by decide), if_neg (show ¬ iN 6 = 4 by decide), if_neg (show ¬ iN 6 = 5 by decide), if_pos (show iN 6 = 6 from rfl)]
    cases jm <;> rfl
  · rw [if_neg (show ¬ iN 7 = 0 by decide), if_neg (show ¬ iN 7 = 1 by decide), if_neg (show ¬ iN 7 = 2 by decide), if_neg (show ¬ iN 7 = 3 by decide), if_neg (show ¬ iN 7 = 4 by decide), if_neg (show ¬ iN 7 = 5 by decide), if_neg (show ¬ iN 7 = 6 by decide), if_pos (show iN 7 = 7 from rfl), rd_56]
    rfl
  · rw [if_neg (show ¬ iN 8 = 0 by decide), if_neg (show ¬ iN 8 = 1 by decide), if_neg (show ¬ iN 8 = 2 by decide), if_neg (show ¬ iN 8 = 3 by decide), if_neg (show ¬ iN 8 = 4 by decide), if_neg (show ¬ iN 8 = 5 by decide), if_neg (show ¬ iN 8 = 6 by decide), if_neg (show ¬ iN 8 = 7 by decide), if_pos (show iN 8 = 8 from rfl), bd t8]
    show _ = some (b2 (gR s ab be))
    cases gR s ab be <;> rfl
  · rw [if_neg (show ¬ iN 9 = 0 by decide), if_neg (show ¬ iN 9 = 1 by decide), if_neg (show ¬ iN 9 = 2 by decide), if_neg (show ¬ iN 9 = 3 by decide), if_neg (show ¬ iN 9 = 4 by decide), if_neg (show ¬ iN 9 = 5 by decide), if_neg (show ¬ iN 9 = 6 by decide), if_neg (show ¬ iN 9 = 7 by decide), if_neg (show ¬ iN 9 = 8 by decide), if_pos (show iN 9 = 9 from rfl), bd su]
    rfl
  · rfl
