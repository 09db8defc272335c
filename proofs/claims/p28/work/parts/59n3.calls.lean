/-! the class's calls where nothing is thrown -/
theorem nlt0 {k : Nat} (hk : k < 2147483648) : ¬ iN k < iN 0 := by rw [iN_lt hk (by omega)]; omega
theorem nltk {a k : Nat} (h : k ≤ a) (ha : a < 2147483648) : ¬ iN a < iN k := by rw [iN_lt ha (by omega)]; omega
theorem Good_n {s : Nat → Int32} {n m : Nat} (h : Good s n) (h' : Good s m) : n = m := by
  have e := h.1.symm.trans h'.1
  have a := h.2.1
  have b := h'.2.1
  rw [iN_eq (by omega) (by omega)] at e
  exact e
section
variable {b : TB} {w : TW} {h : TH} {s sv : Nat → Int32} {many : Int32} {n p q : Nat}
theorem nP (hs : Good s n) (hB : RB b s) (hp : p < n) : f_X5_needPeg b (iN p) = some 0 := by
  rcases s_needPeg hs hB (iN p) with ⟨x, -, -, c1, -⟩ | ⟨-, m1⟩
  · exact c1
  · rw [(isPegT hs hp).1] at m1
    injection m1 with m1
    exact absurd m1 n10
theorem inT {t a c : Nat} (ha : a < 2147483648) (hc : c < 2147483648) (ht : t < 2147483648) (h1 : a ≤ t) (h2 : t ≤ c) : f_X6_in (iN t) (iN a) (iN c) = some (iN 1) := (s_inN ha hc ht).trans (by rw [decide_eq_true ⟨h1, h2⟩]; rfl)
theorem lvT {l : Nat} (hl : l < 2) : f_X5_isLevel (iN l) = some (iN 1) := by
  rcases s_level (iN l) with ⟨x, -, -, c1, -⟩ | ⟨-, m1⟩
  · exact c1
  · rw [inT (by omega) (by omega) (by omega) (by omega) (by omega)] at m1
    injection m1 with m1
    exact absurd m1 n10
theorem grT {t : Nat} (ht : t ≤ 20) : f_X5_isGear (iN t) = some (iN 1) := by
  rcases s_gear (iN t) with ⟨x, -, -, c1, -⟩ | ⟨-, m1⟩
  · exact c1
  · rw [inT (by omega) (by omega) (by omega) (by omega) (by omega)] at m1
    injection m1 with m1
    exact absurd m1 n10
theorem P_peg (hs : Good s n) (hB : RB b s) (hW : Ww w s n) (hp : p < n) {k : Nat} (hk : k ≤ 8) : f_X5_peg b w (iN p) (iN k) = some (0, pV s n (lo s).1 (lo s).2.2.1 p k) := by
  unfold f_X5_peg f_X5_peg_20
  rw [show (0 : Int32) = iN 0 from rfl, show (8 : Int32) = iN 8 from rfl, show (1 : Int32) = iN 1 from rfl, bd (nP hs hB hp), if_pos Q00, if_neg (nlt0 (by omega)), if_neg (nltk hk (by omega)), bd need1, if_pos Q00, bd (C_peg hs hB hW hp hk)]
theorem P_speed (hs : Good s n) (hB : RB b s) (hW : Ww w s n) (hp : p < n) : f_X5_speed b w (iN p) (iN 0) = some (0, (lo s).1 p) ∧ f_X5_speed b w (iN p) (iN 1) = some (0, (lo s).2.1 p) := by
  have h9 := hs.2.1
  have aW := (Wk_all hs hW).2.2.2
  have hp9 : p < 9 := by omega
  unfold f_X5_speed f_X5_speed_14 f_X5_speed_19
  rw [show (0 : Int32) = iN 0 from rfl, show (1 : Int32) = iN 1 from rfl, bd (nP hs hB hp), bd (nP hs hB hp), if_pos Q00, if_pos Q00]
  constructor
  · simp only [if_pos p00, bd need1, if_pos Q00, rd_n hp9 (show p < 2147483648 by omega), (aW p hp9).1, if_true]
  · simp only [if_neg n10, if_pos (show iN 1 = iN 1 from rfl), bd need1, if_pos Q00, rd_n hp9 (show p < 2147483648 by omega), (aW p hp9).2.1 hp, if_true]
theorem P_meshes (hs : Good s n) (hB : RB b s) (hW : Ww w s n) (hp : p < n) (hq : q < n) : f_X5_meshes b w (iN p) (iN q) = some (0, iN (mS s p q)) := by
  unfold f_X5_meshes
  rw [bd (nP hs hB hp), if_pos Q00, bd (nP hs hB hq), if_pos Q00, bd (s_levelsOf hs hW.1 hp hq)]
theorem P_count (hs : Good s n) (hB : RB b s) (hW : Ww w s n) (hH : RH h sv many) {k : Nat} (hk : k ≤ 10) : f_X5_count b w h (iN k) = some (0, cV s n (lo s).1 (lo s).2.1 (lo s).2.2.1 (jB s) many k) := by
  unfold f_X5_count f_X5_count_15
  rw [show (0 : Int32) = iN 0 from rfl, show (10 : Int32) = iN 10 from rfl, show (1 : Int32) = iN 1 from rfl, if_neg (nlt0 (by omega)), if_neg (nltk hk (by omega)), bd need1, if_pos Q00, bd (C_count hs hB hW hH hk)]
theorem P_train (hs : Good s n) (hB : RB b s) (hW : Ww w s n) (hp : p < n) (hq : q < n) (R : TR) : ∃ R' : TR, f_X5_train b w R (iN p) (iN q) (iN 0) = some (0, tpV s p q 0, R') := by
  have hn := RB_pegs hs hB
  obtain ⟨R', f1, f2⟩ := s_findRow hs hB.2.1 hW.1 hp hq R
  refine ⟨R', ?_⟩
  unfold f_X5_train f_X5_train_24
  rw [show (0 : Int32) = iN 0 from rfl, show (3 : Int32) = iN 3 from rfl, show (1 : Int32) = iN 1 from rfl, bd (nP hs hB hp), if_pos Q00, bd (nP hs hB hq), if_pos Q00, if_neg (nlt0 (by omega)), if_neg (nltk (by omega) (by omega)), bd need1, if_pos Q00, hn, bd f1, bd (C_row hs hp hq (Nat.zero_le _) f2)]
theorem P_ratio (hs : Good s n) (hB : RB b s) (hW : Ww w s n) (hp : p < n) (hq : q < n) (R : TR) : (∃ R' : TR, f_X5_ratio b w R (iN p) (iN q) (iN 0) = some (0, (trL s p q).1, R')) ∧ ∃ R' : TR, f_X5_ratio b w R (iN p) (iN q) (iN 1) = some (0, (trL s p q).2.1, R') := by
  have hn := RB_pegs hs hB
  obtain ⟨R', f1, f2⟩ := s_findRow hs hB.2.1 hW.1 hp hq R
  obtain ⟨e1, e2⟩ := C_ratio hs hp hq f2
  unfold f_X5_ratio f_X5_ratio_19 f_X5_ratio_24
  rw [show (0 : Int32) = iN 0 from rfl, show (1 : Int32) = iN 1 from rfl, bd (nP hs hB hp), bd (nP hs hB hp), if_pos Q00, if_pos Q00, bd (nP hs hB hq), bd (nP hs hB hq), if_pos Q00, if_pos Q00]
  constructor
  · refine ⟨R', ?_⟩
    rw [if_pos p00, bd need1, if_pos Q00, hn, bd f1, if_pos p00, ← e1]
  · refine ⟨R', ?_⟩
    rw [if_neg n10, if_pos (show iN 1 = iN 1 from rfl), bd need1, if_pos Q00, hn, bd f1, if_neg n10, ← e2]
theorem P_ifPut (hs : Good s n) (hB : RB b s) (T : TB) (tw : TW) {l t : Nat} (hp : p < n) (hl : l < 2) (ht : t ≤ 20) : ∃ T' tw', f_X5_ifPut b T tw (iN p) (iN l) (iN t) (iN 0) = some (0, wpV s (sPut s p l (kG t) t) n p l 0, T', tw') := by
  obtain ⟨T', tw', x1⟩ := s_ifPutC hs hB T tw hp hl ht (show 0 ≤ 3 by omega)
  refine ⟨T', tw', ?_⟩
  unfold f_X5_ifPut
  rw [show (0 : Int32) = iN 0 from rfl, show (3 : Int32) = iN 3 from rfl, show (1 : Int32) = iN 1 from rfl, bd (nP hs hB hp), if_pos Q00, bd (lvT hl), if_neg n10, bd (grT ht), if_neg n10, if_neg (nlt0 (by omega)), if_neg (nltk (by omega) (by omega)), x1]
theorem P_solution (hs : Good s n) (hB : RB b s) (hW : Ww w s n) {k : Nat} (hk : k ≤ 2) (T : TB) (tw : TW) : ∃ x T' tw', f_X5_solution b w T tw (iN k) = some (0, soV x k, T', tw') ∧ fcR s n x := by
  obtain ⟨x, T', tw', f1, f2⟩ := s_findChange hs hB hW T tw
  refine ⟨x, T', tw', ?_, f2⟩
  unfold f_X5_solution f_X5_solution_14
  rw [show (0 : Int32) = iN 0 from rfl, show (2 : Int32) = iN 2 from rfl, show (1 : Int32) = iN 1 from rfl, if_neg (nlt0 (by omega)), if_neg (nltk hk (by omega)), bd need1, if_pos Q00, bd f1, bd (s_partO hs.2.1 f2 hk)]
/-- the saved states as the reference saves them -/
theorem save_val {m : Nat} (hm : m ≤ 6) : ∃ sv' m', f_X6_save s sv (iN m) = some (sv', iN m') ∧ 0 < m' ∧ m' ≤ 6 ∧ (∀ j, j < 60 → row6 sv' (m' - 1) j = s j) ∧ (0 < m → 2 ≤ m' ∧ ∀ j, j < 60 → row6 sv' (m' - 2) j = row6 sv (m - 1) j) := by
  by_cases h6 : m = 6
  · subst h6
    obtain ⟨v, m1, m2⟩ := s_save11 (s := s) (sv := sv)
    obtain ⟨v', m3, m4⟩ := s_save51 (s := s) (sv := v) (m := 5) (by omega)
    refine ⟨v', 6, ?_, by omega, by omega, fun j hj => ?_, fun _ => ⟨by omega, fun j hj => ?_⟩⟩
    · unfold f_X6_save
      simp (disch := omega) only [↓reduceIte, Nat.reduceEqDiff, Nat.reduceLeDiff, Nat.reduceLT, Nat.reduceAdd, Nat.reduceMul, Nat.reduceSub, Nat.reduceDiv, Nat.reduceMod, eq_self, and_true, true_and, or_true, true_or, and_false, false_and, or_false, false_or, not_true_eq_false, not_false_eq_true, and_self, or_self, Bool.false_eq_true, reduceCtorEq, decide_true, decide_false, Nat.zero_le, Nat.le_refl, Nat.lt_irrefl, Nat.not_lt_zero, Nat.zero_ne_one, Nat.one_ne_zero, iN_lit, iN_add, iN_mul, iN_le, iN_lt, iN_eq, iN_m1, m1_iN, m1_le, le_m1, m1_lt, lt_m1, m1_m1]
      refine m1.trans ?_
      unfold f_X6_save_49
      exact m3
    · show v' (60 * 5 + j) = _
      rw [m4, if_pos (by omega)]
      exact congrArg s (by omega)
    · show v' (60 * 4 + j) = sv (60 * 5 + j)
      rw [m4, if_neg (by omega), m2, if_pos (by omega)]
      exact congrArg sv (by omega)
  · obtain ⟨v', m3, m4⟩ := s_save51 (s := s) (sv := sv) (m := m) (by omega)
    refine ⟨v', m + 1, ?_, by omega, by omega, fun j hj => ?_, fun h0 => ⟨by omega, fun j hj => ?_⟩⟩
    · unfold f_X6_save f_X6_save_49
      rw [if_neg (show ¬ iN m = 6 by rw [iN_lit, iN_eq (by omega) (by omega)]; exact h6)]
      exact m3
    · show v' (60 * (m + 1 - 1) + j) = _
      rw [m4, if_pos (by omega)]
      exact congrArg s (by omega)
    · show v' (60 * (m + 1 - 2) + j) = sv (60 * (m - 1) + j)
      rw [m4, if_neg (by omega)]
      exact congrArg sv (by omega)
/-- a change: the new bench, and one saved state more -/
def Nx (s sv : Nat → Int32) (m n : Nat) (b' : TB) (w' : TW) (h' : TH) (s' : Nat → Int32) (n' : Nat) : Prop :=
  ∃ sv' m', f_X6_save s sv (iN m) = some (sv', iN m') ∧ m' ≤ 6 ∧ Good s' n' ∧ Dst s' n' ∧ RB b' s' ∧ Ww w' s' n' ∧ RH h' sv' (iN m')
theorem Nx_of {m : Nat} (hm : m ≤ 6) {b' : TB} {w' : TW} {h' : TH} {s' sv' : Nat → Int32} {many' : Int32} {n' : Nat} (k2 : f_X6_save s sv (iN m) = some (sv', many')) (hG : Good s' n') (hS : St b' w' h' s' sv' many') : Nx s sv m n b' w' h' s' n' := by
  obtain ⟨v, m', e1, e2, e3, -⟩ := save_val (s := s) (sv := sv) hm
  obtain ⟨n2, g1, g2, g3, g4, g5⟩ := hS
  have en := Good_n hG g1
  subst en
  rw [e1] at k2
  injection k2 with k2
  injection k2 with k3 k4
  subst k3
  subst k4
  exact ⟨v, m', e1, e3, g1, g2, g3, g4, g5⟩
theorem P_put (hs : Good s n) (hd : Dst s n) (hB : RB b s) {m : Nat} (hm : m ≤ 6) (hH : RH h sv (iN m)) (T : TB) {l t : Nat} (hp : p < n) (hl : l < 2) (ht : t ≤ 20) (hf : fit (sPut s p l (kG t) t) n p l = true) : ∃ (c : Nat) (b' : TB) (w' : TW) (T' : TB) (h' : TH), f_X5_putGear b w T h (iN p) (iN l) (iN t) = some (0, iN c, b', w', T', h') ∧ Nx s sv m n b' w' h' (sPut s p l (kG t) t) n ∧ c ≤ 9 := by
  have h9 := hs.2.1
  have hG := Good_put hs (show p < 9 by omega) hl (kG_le t) (show t ≤ 40 by omega) (kG_0 t)
  rcases s_putThing (w := w) (k := kG t) (t := t) hs hd hB hH T hp hl (kG_le t) (by omega) (kG_0 t) with ⟨-, b', w', h', T', sv', many', k1, k2, k3⟩ | ⟨hf2, -⟩
  · refine ⟨cnt (fun q => tS (sPut s p l (kG t) t) p q l true) n, b', w', T', h', ?_, Nx_of hm k2 hG k3, Nat.le_trans (cnt_le _ _) h9⟩
    unfold f_X5_putGear f_X5_putGear_24
    rw [bd (nP hs hB hp), if_pos rfl, bd (lvT hl), if_neg z1, bd (grT ht), if_neg z1, show (1 : Int32) = iN 1 from rfl, bd need1, if_pos rfl, bd (show f_X5_kindOfGear (iN t) = some (iN (kG t)) from s_kindOfGear (by omega)), bd k1, if_pos rfl]
  · rw [hf2] at hf
    cases hf
theorem P_drive (hs : Good s n) (hd : Dst s n) (hB : RB b s) {m : Nat} (hm : m ≤ 6) (hH : RH h sv (iN m)) (t : TB) (hp : p < n) : ∃ (b' : TB) (w' : TW) (T' : TB) (h' : TH), f_X5_drive b w t h (iN p) = some (0, s 55, b', w', T', h') ∧ Nx s sv m n b' w' h' (upd s 55 (iN p)) n := by
  have h9 := hs.2.1
  obtain ⟨v, v1, v2⟩ := s_startTrial t hB
  have hG := Good_drive hs hp
  have hi : ∀ j, j ≠ 55 → upd s 55 (iN p) j = s j := fun j hj => by rw [upd_at, if_neg hj]
  have hD : Dst (upd s 55 (iN p)) n := Dst_ext h9 (fun j hj => hi j (by omega)) hd
  have hR' : RB (v.1, v.2.1, v.2.2.1, v.2.2.2.1, v.2.2.2.2.1, iN p, v.2.2.2.2.2.2.1, v.2.2.2.2.2.2.2.1, v.2.2.2.2.2.2.2.2.1, v.2.2.2.2.2.2.2.2.2) (upd s 55 (iN p)) := by
    obtain ⟨r6, r7, r0, r1, r2, r3, r4, r5⟩ := v2
    exact ⟨RX_far r6 (fun j hj => hi j (by omega)), RK_far r7 (fun j hj => hi j (by omega)), r0.trans (hi 0 (by omega)).symm, by rw [upd_at, if_pos rfl], r2.trans (hi 56 (by omega)).symm, r3.trans (hi 57 (by omega)).symm, r4.trans (hi 58 (by omega)).symm, r5.trans (hi 59 (by omega)).symm⟩
  obtain ⟨b', w', h', sv', many', k1, k2, k3, k4, k5⟩ := St_keep (w := w) hs hd hB hH hR' hG hD
  refine ⟨b', w', (v.1, v.2.1, v.2.2.1, v.2.2.2.1, v.2.2.2.2.1, iN p, v.2.2.2.2.2.2.1, v.2.2.2.2.2.2.2.1, v.2.2.2.2.2.2.2.2.1, v.2.2.2.2.2.2.2.2.2), h', ?_, Nx_of hm k2 hG k5⟩
  unfold f_X5_drive
  rw [bd (nP hs hB hp), if_pos rfl, bd v1, lt_eq, bd k1, hB.2.2.2.1]
theorem P_set (hs : Good s n) (hd : Dst s n) (hB : RB b s) {m : Nat} (hm : m ≤ 6) (hH : RH h sv (iN m)) (t : TB) {y : Nat} (hy : y ≤ 3) : ∃ (v : Int32) (b' : TB) (w' : TW) (T' : TB) (h' : TH), f_X5_set b w t h (iN y) = some (0, v, b', w', T', h') ∧ Nx s sv m n b' w' h' (upd s 59 (iN y)) n := by
  have h9 := hs.2.1
  obtain ⟨v, v1, v2⟩ := s_startTrial t hB
  have hi : ∀ j, j ≠ 59 → upd s 59 (iN y) j = s j := fun j hj => by rw [upd_at, if_neg hj]
  have hG : Good (upd s 59 (iN y)) n := by
    obtain ⟨g1, g2, g3, g4, g5, g6⟩ := hs
    refine ⟨by rw [hi 0 (by omega)]; exact g1, g2, fun q l hq hl => ?_, ⟨y, by rw [upd_at, if_pos rfl], hy⟩, by rw [hi 55 (by omega)]; exact g5, by rw [hi 56 (by omega)]; exact g6⟩
    rw [hi _ (by omega), hi _ (by omega)]
    exact g3 q l hq hl
  have hD : Dst (upd s 59 (iN y)) n := Dst_ext h9 (fun j hj => hi j (by omega)) hd
  have hR' : RB (v.1, v.2.1, v.2.2.1, v.2.2.2.1, v.2.2.2.2.1, v.2.2.2.2.2.1, v.2.2.2.2.2.2.1, v.2.2.2.2.2.2.2.1, v.2.2.2.2.2.2.2.2.1, iN y) (upd s 59 (iN y)) := by
    obtain ⟨r6, r7, r0, r1, r2, r3, r4, r5⟩ := v2
    exact ⟨RX_far r6 (fun j hj => hi j (by omega)), RK_far r7 (fun j hj => hi j (by omega)), r0.trans (hi 0 (by omega)).symm, r1.trans (hi 55 (by omega)).symm, r2.trans (hi 56 (by omega)).symm, r3.trans (hi 57 (by omega)).symm, r4.trans (hi 58 (by omega)).symm, by rw [upd_at, if_pos rfl]⟩
  obtain ⟨b', w', h', sv', many', k1, k2, k3, k4, k5⟩ := St_keep (w := w) hs hd hB hH hR' hG hD
  refine ⟨b.2.2.2.2.2.2.2.2.2, b', w', (v.1, v.2.1, v.2.2.1, v.2.2.2.1, v.2.2.2.2.1, v.2.2.2.2.2.1, v.2.2.2.2.2.2.1, v.2.2.2.2.2.2.2.1, v.2.2.2.2.2.2.2.2.1, iN y), h', ?_, Nx_of hm k2 hG k5⟩
  unfold f_X5_set f_X5_set_14
  rw [if_neg (show ¬ iN y < 0 from nlt0 (by omega)), if_neg (show ¬ 3 < iN y from nltk (a := 3) hy (by omega)), show (1 : Int32) = iN 1 from rfl, bd need1, if_pos rfl, bd v1, lt_eq, bd k1]
theorem P_goal (hs : Good s n) (hd : Dst s n) (hB : RB b s) {m : Nat} (hm : m ≤ 6) (hH : RH h sv (iN m)) (t : TB) (hp : p < n) {a : Int32} (h1 : ¬ a < -99) (h2 : ¬ 99 < a) {c : Nat} (hc1 : 1 ≤ c) (hc2 : c ≤ 99) : ∃ (v : Int32) (b' : TB) (w' : TW) (T' : TB) (h' : TH) (x y : Int32), f_X5_goal b w t h (iN p) a (iN c) = some (0, v, b', w', T', h') ∧ Nx s sv m n b' w' h' (sGoal s (iN p) x y) n := by
  have h9 := hs.2.1
  have e1 : (1 : Int32) = iN 1 := rfl
  obtain ⟨g, hg1, hg2, -, gc⟩ := s_gcds a hc1 hc2
  obtain ⟨v, v1, v2⟩ := s_startTrial t hB
  have hG := Good_goal hs hp (a / iN g) (iN c / iN g)
  have hi : ∀ j, j < 56 ∨ j = 59 → sGoal s (iN p) (a / iN g) (iN c / iN g) j = s j := fun j hj => sGoal_ne hj
  have hD : Dst (sGoal s (iN p) (a / iN g) (iN c / iN g)) n := Dst_ext h9 (fun j hj => hi j (by omega)) hd
  have hR' : RB (v.1, v.2.1, v.2.2.1, v.2.2.2.1, v.2.2.2.2.1, v.2.2.2.2.2.1, iN p, a / iN g, iN c / iN g, v.2.2.2.2.2.2.2.2.2) (sGoal s (iN p) (a / iN g) (iN c / iN g)) := by
    obtain ⟨r6, r7, r0, r1, r2, r3, r4, r5⟩ := v2
    exact ⟨RX_far r6 (fun j hj => hi j (by omega)), RK_far r7 (fun j hj => hi j (by omega)), r0.trans (hi 0 (by omega)).symm, r1.trans (hi 55 (by omega)).symm, rfl, rfl, rfl, r5.trans (hi 59 (by omega)).symm⟩
  have sg := s_setGoal hc2 hg1 hg2 gc v.2.2.2.2.2.2.1 v.2.2.2.2.2.2.2.1 v.2.2.2.2.2.2.2.2.1 (iN p)
  obtain ⟨b', w', h', sv', many', k1, k2, k3, k4, k5⟩ := St_keep (w := w) hs hd hB hH hR' hG hD
  have rc := s_reachC hG w'.2.1 w'.2.2.1 k3.2.2.2.2.1 k3.2.2.2.2.2.1 k3.2.2.2.2.2.2.1
  refine ⟨b2 (gR (sGoal s (iN p) (a / iN g) (iN c / iN g)) w'.2.1 w'.2.2.1), b', w', (v.1, v.2.1, v.2.2.1, v.2.2.2.1, v.2.2.2.2.1, v.2.2.2.2.2.1, iN p, a / iN g, iN c / iN g, v.2.2.2.2.2.2.2.2.2), h', a / iN g, iN c / iN g, ?_, Nx_of hm k2 hG k5⟩
  unfold f_X5_goal f_X5_goal_22 f_X5_goal_41
  rw [bd (nP hs hB hp), if_pos rfl, if_neg h1, if_neg h2, e1, bd need1, if_pos rfl, if_neg (by rw [iN_lt (by omega) (by omega)]; omega), if_neg (by rw [show (99 : Int32) = iN 99 from rfl, iN_lt (by omega) (by omega)]; omega), bd need1, if_pos rfl, bd v1, bd sg, bd k1, RB_pegs hG k3, bd rc, bd (s_toNumber _)]
theorem P_add (hs : Good s n) (hd : Dst s n) (hB : RB b s) {m : Nat} (hm : m ≤ 6) (hH : RH h sv (iN m)) (t : TB) {px py : Int32} (hpl : f_X5_needPlace px py = some 0) (hlt0 : n < 9) (hno0 : ∀ p, p < n → atP s px py p = false) : ∃ (v : Int32) (b' : TB) (w' : TW) (T' : TB) (h' : TH), f_X5_addPeg b w t h px py = some (0, v, b', w', T', h') ∧ Nx s sv m n b' w' h' (sAdd s n px py) (n + 1) := by
  have h9 := hs.2.1
  obtain ⟨v, v1, v2⟩ := s_startTrial t hB
  have hn := RB_pegs hs v2
  rcases s_tryAdd hs hd v2.1 v2.2.1 px py with ⟨hlt, hno, x', y', ks, ts, e, hX', hK'⟩ | ⟨hbad, -⟩
  · obtain ⟨hG, hD⟩ := Good_add hs hd hlt hno
    have hi : ∀ j, 55 ≤ j → sAdd s n px py j = s j := fun j hj => by rw [sAdd_at hlt, if_neg (by omega), if_neg (by omega), if_neg (by omega), if_neg (by omega)]
    have hR' : RB (x', y', ks, ts, iN (n + 1), v.2.2.2.2.2.1, v.2.2.2.2.2.2.1, v.2.2.2.2.2.2.2.1, v.2.2.2.2.2.2.2.2.1, v.2.2.2.2.2.2.2.2.2) (sAdd s n px py) := by
      obtain ⟨-, -, -, r1, r2, r3, r4, r5⟩ := v2
      exact ⟨hX', hK', by rw [sAdd_at hlt, if_pos rfl], r1.trans (hi 55 (by omega)).symm, r2.trans (hi 56 (by omega)).symm, r3.trans (hi 57 (by omega)).symm, r4.trans (hi 58 (by omega)).symm, r5.trans (hi 59 (by omega)).symm⟩
    obtain ⟨b', w', h', sv', many', k1, k2, k3, k4, k5⟩ := St_keep (w := w) hs hd hB hH hR' hG hD
    refine ⟨iN n, b', w', (x', y', ks, ts, iN (n + 1), v.2.2.2.2.2.1, v.2.2.2.2.2.2.1, v.2.2.2.2.2.2.2.1, v.2.2.2.2.2.2.2.2.1, v.2.2.2.2.2.2.2.2.2), h', ?_, Nx_of hm k2 hG k5⟩
    unfold f_X5_addPeg
    rw [bd hpl, if_pos rfl, bd v1, hn, bd e, if_neg z1, bd k1, RB_pegs hG k3, iN_pred]
  · rcases hbad with e | ⟨x, hx, ex⟩
    · omega
    · rw [hno0 x hx] at ex
      cases ex
/-- one saved state back -/
theorem P_undo (hs : Good s n) (hd : Dst s n) (hB : RB b s) (hW : Ww w s n) {m : Nat} (hm : m ≤ 6) (h0 : 0 < m) (hH : RH h sv (iN m)) : ∃ (b' : TB) (w' : TW) (h' : TH) (s' : Nat → Int32) (n' : Nat), f_X5_undo b w h = some (0, iN (m - 1), b', w', h') ∧ (∀ j, j < 60 → s' j = row6 sv (m - 1) j) ∧ Good s' n' ∧ Dst s' n' ∧ RB b' s' ∧ Ww w' s' n' ∧ RH h' sv (iN (m - 1)) := by
  obtain ⟨s0, u1, u2⟩ := s_undo33 (sv := sv) (s := s) (m := m - 1) (by omega) (iN 0)
  have em : iN m - iN 1 = iN (m - 1) := iN_sub (by omega)
  have ev : f_X6_undo (iN 0) s sv (iN m) = some (iN (m - 1), iN 0, s0, iN (m - 1)) := by
    unfold f_X6_undo f_X6_undo_13 f_X6_holds
    simp (disch := omega) only [↓lt_eq, ↓rd_n, ↓rd_l, ↓rd_a, ↓rd_s, ↓rd_sl, ↓rd_c, ↓rd_m, ↓rd_i, ↓wrI_n, ↓wrI_l, ↓wrI_a, ↓wrI_s, ↓wrI_sl, ↓wrI_c, ↓wrI_m, ↓wrI_i, ↓wrJ_n, ↓wrZ_n, ↓Option.bind_some, ↓reduceIte, Nat.reduceEqDiff, Nat.reduceLeDiff, Nat.reduceLT, Nat.reduceAdd, Nat.reduceMul, Nat.reduceSub, Nat.reduceDiv, Nat.reduceMod, eq_self, and_true, true_and, or_true, true_or, and_false, false_and, or_false, false_or, not_true_eq_false, not_false_eq_true, and_self, or_self, Bool.false_eq_true, reduceCtorEq, decide_true, decide_false, Nat.zero_le, Nat.le_refl, Nat.lt_irrefl, Nat.not_lt_zero, Nat.zero_ne_one, Nat.one_ne_zero, iN_lit, iN_add, iN_mul, iN_le, iN_lt, iN_eq, iN_m1, m1_iN, m1_le, le_m1, m1_lt, lt_m1, m1_m1, em, show (m ≤ 0) = False from eq_false (by omega)]
    exact u1
  obtain ⟨c, v, b', w', h', s', many', n', a1, a2, a3, a4, a5, a6, a7⟩ := s_undo (th := iN 0) hs hd hB hW hH
  rcases a2 with ⟨rfl, a2⟩ | ⟨rfl, a2⟩
  · rw [ev] at a2
    injection a2 with a2
    injection a2 with e1 a2
    injection a2 with _ a2
    injection a2 with e3 e4
    subst e1
    subst e3
    subst e4
    exact ⟨b', w', h', s0, n', a1, u2, a3, a4, a5, a6, a7⟩
  · rw [ev] at a2
    injection a2 with a2
    injection a2 with _ a2
    injection a2 with e2 a2
    exact absurd e2.symm n10
end
