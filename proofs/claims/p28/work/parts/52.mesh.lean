/-! meshing and overlapping over a good bench; what is counted of them -/
def vN (i : Int32) : Nat := i.toNatClampNeg
theorem vN_i {a : Nat} (h : a < 2147483648) : vN (iN a) = a := iN_clamp h
def tS (s : Nat → Int32) (p q l : Nat) (b : Bool) : Bool := if p = q then false else tV (vN (s (19 + 2 * p + l))) (vN (s (37 + 2 * p + l))) (vN (s (19 + 2 * q + l))) (vN (s (37 + 2 * q + l))) (vN (s 59)) (sqS s p q) b
theorem tS_self (s : Nat → Int32) (p l : Nat) (b : Bool) : tS s p p l b = false := if_pos rfl
theorem tS_ne {s : Nat → Int32} {p q l k1 t1 k2 t2 y : Nat} {b : Bool} (hpq : p ≠ q) (e1 : s (19 + 2 * p + l) = iN k1) (e2 : s (37 + 2 * p + l) = iN t1) (e3 : s (19 + 2 * q + l) = iN k2) (e4 : s (37 + 2 * q + l) = iN t2) (e5 : s 59 = iN y) (h1 : k1 ≤ 2) (h2 : t1 ≤ 40) (h3 : k2 ≤ 2) (h4 : t2 ≤ 40) (h5 : y ≤ 3) : tS s p q l b = tV k1 t1 k2 t2 y (sqS s p q) b := by
  unfold tS
  rw [if_neg hpq, e1, e2, e3, e4, e5, vN_i (by omega), vN_i (by omega), vN_i (by omega), vN_i (by omega), vN_i (by omega)]
theorem s_touch {s : Nat → Int32} {n p q l : Nat} (hs : Good s n) (hp : p < 9) (hq : q < 9) (hl : l < 2) (b : Bool) : f_X6_touch s (iN p) (iN q) (iN l) (b2 b) = some (b2 (tS s p q l b)) := by
  obtain ⟨k1, t1, e1, e2, h1, h2, -⟩ := hs.2.2.1 p l hp hl
  obtain ⟨k2, t2, e3, e4, h3, h4, -⟩ := hs.2.2.1 q l hq hl
  obtain ⟨y, e5, h5⟩ := hs.2.2.2.1
  by_cases hpq : p = q
  · subst hpq
    have a1 := (s_kind (s := s) hp hl).trans (congrArg some e1)
    unfold f_X6_touch
    simp (disch := omega) only [↓bd a1, ↓if_pos rfl, tS_self, iN_lit, b2_f]
  · rw [s_touch0 hp hq hl hpq e1 e2 e3 e4 e5 h1 h2 h3 h4 h5 b, tS_ne hpq e1 e2 e3 e4 e5 h1 h2 h3 h4 h5]
theorem s_touch1 {s : Nat → Int32} {n p q l : Nat} (hs : Good s n) (hp : p < 9) (hq : q < 9) (hl : l < 2) : f_X6_touch s (iN p) (iN q) (iN l) 1 = some (b2 (tS s p q l true)) := s_touch hs hp hq hl true
theorem s_touch2 {s : Nat → Int32} {n p q l : Nat} (hs : Good s n) (hp : p < 9) (hq : q < 9) (hl : l < 2) : f_X6_touch s (iN p) (iN q) (iN l) 0 = some (b2 (tS s p q l false)) := s_touch hs hp hq hl false
section
variable {x y0 kinds teeth s : Nat → Int32} {play : Int32} {n p q l : Nat}
theorem s_areMeshing (hs : Good s n) (hX : RX x y0 s) (hK : RK kinds teeth s) (hy : play = s 59) (hp : p < 9) (hq : q < 9) (hl : l < 2) : f_X0_areMeshing x y0 kinds teeth play (iN p) (iN q) (iN l) = some (b2 (tS s p q l true)) := by
  obtain ⟨k1, t1, e1, e2, h1, h2, h6⟩ := hs.2.2.1 p l hp hl
  obtain ⟨k2, t2, e3, e4, h3, h4, -⟩ := hs.2.2.1 q l hq hl
  obtain ⟨y, e5, h5⟩ := hs.2.2.2.1
  by_cases hpq : p = q
  · subst hpq
    unfold f_X0_areMeshing
    simp (disch := omega) only [↓if_pos rfl, tS_self, iN_lit, b2_f]
  · rw [hy, e5, s_areMeshing0 hX hK hp hq hl hpq e1 e2 e3 e4 h1 h2 h3 h4 h5 h6, tS_ne hpq e1 e2 e3 e4 e5 h1 h2 h3 h4 h5]
theorem s_areOverlapping (hs : Good s n) (hX : RX x y0 s) (hK : RK kinds teeth s) (hy : play = s 59) (hp : p < 9) (hq : q < 9) (hl : l < 2) : f_X0_areOverlapping x y0 kinds teeth play (iN p) (iN q) (iN l) = some (b2 (tS s p q l false)) := by
  obtain ⟨k1, t1, e1, e2, h1, h2, h6⟩ := hs.2.2.1 p l hp hl
  obtain ⟨k2, t2, e3, e4, h3, h4, -⟩ := hs.2.2.1 q l hq hl
  obtain ⟨y, e5, h5⟩ := hs.2.2.2.1
  by_cases hpq : p = q
  · subst hpq
    have o1 := s_spot p l
    unfold f_X0_areOverlapping
    simp (disch := omega) only [↓bd o1, ↓if_pos rfl, tS_self, iN_lit, b2_f]
  · rw [hy, e5, s_areOverlapping0 hX hK hp hq hl hpq e1 e2 e3 e4 h1 h2 h3 h4 h5, tS_ne hpq e1 e2 e3 e4 e5 h1 h2 h3 h4 h5]
end
theorem sqS_symm (s : Nat → Int32) (p q : Nat) : sqS s p q = sqS s q p := by
  unfold sqS
  grind
theorem tV_symm {k1 t1 k2 t2 y : Nat} {d : Int32} {b : Bool} (h1 : k1 ≤ 2) (h3 : k2 ≤ 2) : tV k1 t1 k2 t2 y d b = tV k2 t2 k1 t1 y d b := by
  have e := Nat.add_comm t1 t2
  rcases (show k1 = 0 ∨ k1 = 1 ∨ k1 = 2 by omega) with rfl | rfl | rfl <;> rcases (show k2 = 0 ∨ k2 = 1 ∨ k2 = 2 by omega) with rfl | rfl | rfl <;> simp [tV, e]
theorem tS_symm {s : Nat → Int32} {n p q l : Nat} (hs : Good s n) (hp : p < 9) (hq : q < 9) (hl : l < 2) (b : Bool) : tS s p q l b = tS s q p l b := by
  obtain ⟨k1, t1, e1, e2, h1, h2, -⟩ := hs.2.2.1 p l hp hl
  obtain ⟨k2, t2, e3, e4, h3, h4, -⟩ := hs.2.2.1 q l hq hl
  obtain ⟨y, e5, h5⟩ := hs.2.2.2.1
  by_cases hpq : p = q
  · rw [hpq]
  · rw [tS_ne hpq e1 e2 e3 e4 e5 h1 h2 h3 h4 h5, tS_ne (Ne.symm hpq) e3 e4 e1 e2 e5 h3 h4 h1 h2 h5, sqS_symm, tV_symm h1 h3]
/-- on which levels two pegs mesh -/
def mS (s : Nat → Int32) (p q : Nat) : Nat := (tS s p q 0 true).toNat + 2 * (tS s p q 1 true).toNat
theorem mS_lt (s : Nat → Int32) (p q : Nat) : mS s p q < 4 := by
  have h1 := Bool.toNat_le (tS s p q 0 true)
  have h2 := Bool.toNat_le (tS s p q 1 true)
  unfold mS
  omega
theorem mS_self (s : Nat → Int32) (p : Nat) : mS s p p = 0 := by unfold mS; rw [tS_self, tS_self]; rfl
theorem mS_symm {s : Nat → Int32} {n p q : Nat} (hs : Good s n) (hp : p < 9) (hq : q < 9) : mS s p q = mS s q p := by
  unfold mS
  rw [tS_symm hs hp hq (by omega), tS_symm hs hp hq (by omega)]
theorem s_meshOn {s : Nat → Int32} {n p q l : Nat} (hs : Good s n) (hp : p < 9) (hq : q < 9) (hl : l < 2) : f_X6_meshOn s (iN p) (iN q) (iN l) = some (b2 (tS s p q l true)) := by
  unfold f_X6_meshOn
  rw [bd (s_touch1 hs hp hq hl), gz_b]
theorem s_meshed {s : Nat → Int32} {n p q : Nat} (hs : Good s n) (hp : p < 9) (hq : q < 9) : f_X6_meshed s (iN p) (iN q) = some (iN (mS s p q)) := by
  have a := s_meshOn hs hp hq (show 0 < 2 by omega)
  have b := s_meshOn hs hp hq (show 1 < 2 by omega)
  unfold f_X6_meshed f_X6_meshed_15 mS
  show ((f_X6_meshOn s (iN p) (iN q) (iN 0)).bind fun v1 => if v1 = 0 then (f_X6_meshOn s (iN p) (iN q) (iN 1)).bind _ else (f_X6_meshOn s (iN p) (iN q) (iN 1)).bind _) = _
  rw [bd a, bd b, bd b]
  cases tS s p q 0 true <;> cases tS s p q 1 true <;> rfl
theorem and_iN {a b : Nat} (ha : a < 4) (hb : b < 4) : iN a &&& iN b = iN (a &&& b) := by
  rcases (show a = 0 ∨ a = 1 ∨ a = 2 ∨ a = 3 by omega) with rfl | rfl | rfl | rfl <;> rcases (show b = 0 ∨ b = 1 ∨ b = 2 ∨ b = 3 by omega) with rfl | rfl | rfl | rfl <;> rfl
theorem and_lt {a b : Nat} (ha : a < 4) : a &&& b < 4 := Nat.lt_of_le_of_lt Nat.and_le_left ha
theorem s_partners {s : Nat → Int32} {n p lv : Nat} (hs : Good s n) (hp : p < 9) (hlv : lv < 4) : f_X6_partners s (iN p) (iN lv) = some (iN (cnt (fun q => decide (0 < mS s p q &&& lv)) n)) := by
  have h9 := hs.2.1
  refine lp_cnt (F := fun fu j c => f_X6_partners_5 s (iN p) (iN lv) fu (iN c) (iN j)) (N := n) _ (fun c => some (iN c)) ?_ ?_ FU (FU_lt (by omega))
  · intro fu j c hj
    have m := s_meshed hs hp (show j < 9 by omega)
    have m4 := mS_lt s p j
    have a4 := and_lt (b := lv) m4
    have ha := and_iN m4 hlv
    show f_X6_partners_5b s (iN p) (iN lv) (f_X6_partners_5 s (iN p) (iN lv) fu) (iN c) (iN j) = _
    unfold f_X6_partners_5b f_X6_partners_34
    simp (disch := omega) only [↓bd m, hs.1, ha, ↓lt_eq, ↓rd_n, ↓rd_l, ↓rd_a, ↓rd_s, ↓rd_sl, ↓rd_c, ↓rd_m, ↓rd_i, ↓wrI_n, ↓wrI_l, ↓wrI_a, ↓wrI_s, ↓wrI_sl, ↓wrI_c, ↓wrI_m, ↓wrI_i, ↓wrJ_n, ↓wrZ_n, ↓Option.bind_some, ↓reduceIte, Nat.reduceEqDiff, Nat.reduceLeDiff, Nat.reduceLT, Nat.reduceAdd, Nat.reduceMul, Nat.reduceSub, Nat.reduceDiv, Nat.reduceMod, eq_self, and_true, true_and, or_true, true_or, and_false, false_and, or_false, false_or, not_true_eq_false, not_false_eq_true, and_self, or_self, Bool.false_eq_true, reduceCtorEq, decide_true, decide_false, Nat.zero_le, Nat.le_refl, Nat.lt_irrefl, Nat.not_lt_zero, Nat.zero_ne_one, Nat.one_ne_zero, iN_lit, iN_add, iN_mul, iN_le, iN_lt, iN_eq, iN_m1, m1_iN, m1_le, le_m1, m1_lt, lt_m1, m1_m1, not_le_of hj]
    by_cases h : 0 < mS s p j &&& lv
    · rw [if_neg (by omega), decide_eq_true h]; rfl
    · rw [if_pos (by omega), decide_eq_false h]; rfl
  · intro fu c
    show f_X6_partners_5b s (iN p) (iN lv) (f_X6_partners_5 s (iN p) (iN lv) fu) (iN c) (iN n) = _
    unfold f_X6_partners_5b
    simp (disch := omega) only [hs.1, ↓lt_eq, ↓rd_n, ↓rd_l, ↓rd_a, ↓rd_s, ↓rd_sl, ↓rd_c, ↓rd_m, ↓rd_i, ↓wrI_n, ↓wrI_l, ↓wrI_a, ↓wrI_s, ↓wrI_sl, ↓wrI_c, ↓wrI_m, ↓wrI_i, ↓wrJ_n, ↓wrZ_n, ↓Option.bind_some, ↓reduceIte, Nat.reduceEqDiff, Nat.reduceLeDiff, Nat.reduceLT, Nat.reduceAdd, Nat.reduceMul, Nat.reduceSub, Nat.reduceDiv, Nat.reduceMod, eq_self, and_true, true_and, or_true, true_or, and_false, false_and, or_false, false_or, not_true_eq_false, not_false_eq_true, and_self, or_self, Bool.false_eq_true, reduceCtorEq, decide_true, decide_false, Nat.zero_le, Nat.le_refl, Nat.lt_irrefl, Nat.not_lt_zero, Nat.zero_ne_one, Nat.one_ne_zero, iN_lit, iN_add, iN_mul, iN_le, iN_lt, iN_eq, iN_m1, m1_iN, m1_le, le_m1, m1_lt, lt_m1, m1_m1]
theorem s_overlaps {s : Nat → Int32} {n p l : Nat} (hs : Good s n) (hp : p < 9) (hl : l < 2) : f_X6_overlaps s (iN p) (iN l) = some (iN (cnt (fun q => tS s p q l false) n)) := by
  have h9 := hs.2.1
  refine lp_cnt (F := fun fu j c => f_X6_overlaps_5 s (iN p) (iN l) fu (iN c) (iN j)) (N := n) _ (fun c => some (iN c)) ?_ ?_ FU (FU_lt (by omega))
  · intro fu j c hj
    have m := s_touch2 hs hp (show j < 9 by omega) hl
    show f_X6_overlaps_5b s (iN p) (iN l) (f_X6_overlaps_5 s (iN p) (iN l) fu) (iN c) (iN j) = _
    unfold f_X6_overlaps_5b f_X6_overlaps_34
    simp (disch := omega) only [↓bd m, hs.1, ↓lt_eq, ↓rd_n, ↓rd_l, ↓rd_a, ↓rd_s, ↓rd_sl, ↓rd_c, ↓rd_m, ↓rd_i, ↓wrI_n, ↓wrI_l, ↓wrI_a, ↓wrI_s, ↓wrI_sl, ↓wrI_c, ↓wrI_m, ↓wrI_i, ↓wrJ_n, ↓wrZ_n, ↓Option.bind_some, ↓reduceIte, Nat.reduceEqDiff, Nat.reduceLeDiff, Nat.reduceLT, Nat.reduceAdd, Nat.reduceMul, Nat.reduceSub, Nat.reduceDiv, Nat.reduceMod, eq_self, and_true, true_and, or_true, true_or, and_false, false_and, or_false, false_or, not_true_eq_false, not_false_eq_true, and_self, or_self, Bool.false_eq_true, reduceCtorEq, decide_true, decide_false, Nat.zero_le, Nat.le_refl, Nat.lt_irrefl, Nat.not_lt_zero, Nat.zero_ne_one, Nat.one_ne_zero, iN_lit, iN_add, iN_mul, iN_le, iN_lt, iN_eq, iN_m1, m1_iN, m1_le, le_m1, m1_lt, lt_m1, m1_m1, not_le_of hj]
    cases tS s p j l false <;> rfl
  · intro fu c
    show f_X6_overlaps_5b s (iN p) (iN l) (f_X6_overlaps_5 s (iN p) (iN l) fu) (iN c) (iN n) = _
    unfold f_X6_overlaps_5b
    simp (disch := omega) only [hs.1, ↓lt_eq, ↓rd_n, ↓rd_l, ↓rd_a, ↓rd_s, ↓rd_sl, ↓rd_c, ↓rd_m, ↓rd_i, ↓wrI_n, ↓wrI_l, ↓wrI_a, ↓wrI_s, ↓wrI_sl, ↓wrI_c, ↓wrI_m, ↓wrI_i, ↓wrJ_n, ↓wrZ_n, ↓Option.bind_some, ↓reduceIte, Nat.reduceEqDiff, Nat.reduceLeDiff, Nat.reduceLT, Nat.reduceAdd, Nat.reduceMul, Nat.reduceSub, Nat.reduceDiv, Nat.reduceMod, eq_self, and_true, true_and, or_true, true_or, and_false, false_and, or_false, false_or, not_true_eq_false, not_false_eq_true, and_self, or_self, Bool.false_eq_true, reduceCtorEq, decide_true, decide_false, Nat.zero_le, Nat.le_refl, Nat.lt_irrefl, Nat.not_lt_zero, Nat.zero_ne_one, Nat.one_ne_zero, iN_lit, iN_add, iN_mul, iN_le, iN_lt, iN_eq, iN_m1, m1_iN, m1_le, le_m1, m1_lt, lt_m1, m1_m1]
