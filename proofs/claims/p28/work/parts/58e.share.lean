/-! the share -/
def shD (m n : Nat) : UInt64 := FP.ddiv (FP.i2d (iN m)) (FP.i2d (iN n))
abbrev shOK (v : UInt64) : Prop := v &&& 0x7fffffffffffffff ≤ 0x7ff0000000000000 ∧ Op.cmpValue (FP.dcmp v v) CmpOp.l = 0 ∧ f_X5_bitsOfShare v = f_X6_bitsOf v ∧ (f_X6_bitsOf v).isSome = true
set_option maxRecDepth 100000 in
theorem sh_eval : ∀ n : Fin 10, ∀ m : Fin 10, m ≤ n → 0 < n.val → shOK (shD m n) := by decide +kernel
set_option maxRecDepth 100000 in
theorem sh_zero : shOK FP.dconst0 := by decide +kernel
theorem sh_of {m n : Nat} (hn : n ≤ 9) (hm : m ≤ n) (h0 : 0 < n) : shOK (shD m n) := sh_eval ⟨n, by omega⟩ ⟨m, by omega⟩ hm h0
def tnN (nu : Nat → Int64) (n : Nat) : Nat := cnt (fun p => decide (nu p ≠ 0)) n
theorem drN_0 (z : Int64) : drN z = 0 ↔ z = 0 := by
  unfold drN
  by_cases h : z = 0
  · rw [if_pos h]
    exact ⟨fun _ => h, fun _ => rfl⟩
  · rw [if_neg h]
    constructor
    · intro e
      split at e <;> omega
    · intro e
      exact absurd e h
theorem s_turning {nu : Nat → Int64} {n : Nat} (hn : n ≤ 9) : f_X4_turningPegs nu (iN n) = some (iN (tnN nu n)) := by
  refine lp_cnt (F := fun fu j c => f_X4_turningPegs_4 nu (iN n) fu (iN c) (iN j)) (N := n) (fun p => decide (nu p ≠ 0)) (fun c => some (iN c)) ?_ ?_ FU (FU_lt (by omega))
  · intro fu j c hj
    have dr := s_direction (nu := nu) (show j < 9 by omega)
    have dl := drN_lt (nu j)
    show f_X4_turningPegs_4b nu (iN n) (f_X4_turningPegs_4 nu (iN n) fu) (iN c) (iN j) = _
    unfold f_X4_turningPegs_4b f_X4_turningPegs_23
    simp (disch := omega) only [↓bd dr, not_le_of hj, ↓lt_eq, ↓rd_n, ↓rd_l, ↓rd_a, ↓rd_s, ↓rd_sl, ↓rd_c, ↓rd_m, ↓rd_i, ↓wrI_n, ↓wrI_l, ↓wrI_a, ↓wrI_s, ↓wrI_sl, ↓wrI_c, ↓wrI_m, ↓wrI_i, ↓wrJ_n, ↓wrZ_n, ↓Option.bind_some, ↓reduceIte, Nat.reduceEqDiff, Nat.reduceLeDiff, Nat.reduceLT, Nat.reduceAdd, Nat.reduceMul, Nat.reduceSub, Nat.reduceDiv, Nat.reduceMod, eq_self, and_true, true_and, or_true, true_or, and_false, false_and, or_false, false_or, not_true_eq_false, not_false_eq_true, and_self, or_self, Bool.false_eq_true, reduceCtorEq, decide_true, decide_false, Nat.zero_le, Nat.le_refl, Nat.lt_irrefl, Nat.not_lt_zero, Nat.zero_ne_one, Nat.one_ne_zero, iN_lit, iN_add, iN_mul, iN_le, iN_lt, iN_eq, iN_m1, m1_iN, m1_le, le_m1, m1_lt, lt_m1, m1_m1, drN_0]
    by_cases h : nu j = 0
    · simp [h]
    · simp [h]
  · intro fu c
    show f_X4_turningPegs_4b nu (iN n) (f_X4_turningPegs_4 nu (iN n) fu) (iN c) (iN n) = _
    unfold f_X4_turningPegs_4b
    simp (disch := omega) only [↓lt_eq, ↓rd_n, ↓rd_l, ↓rd_a, ↓rd_s, ↓rd_sl, ↓rd_c, ↓rd_m, ↓rd_i, ↓wrI_n, ↓wrI_l, ↓wrI_a, ↓wrI_s, ↓wrI_sl, ↓wrI_c, ↓wrI_m, ↓wrI_i, ↓wrJ_n, ↓wrZ_n, ↓Option.bind_some, ↓reduceIte, Nat.reduceEqDiff, Nat.reduceLeDiff, Nat.reduceLT, Nat.reduceAdd, Nat.reduceMul, Nat.reduceSub, Nat.reduceDiv, Nat.reduceMod, eq_self, and_true, true_and, or_true, true_or, and_false, false_and, or_false, false_or, not_true_eq_false, not_false_eq_true, and_self, or_self, Bool.false_eq_true, reduceCtorEq, decide_true, decide_false, Nat.zero_le, Nat.le_refl, Nat.lt_irrefl, Nat.not_lt_zero, Nat.zero_ne_one, Nat.one_ne_zero, iN_lit, iN_add, iN_mul, iN_le, iN_lt, iN_eq, iN_m1, m1_iN, m1_le, le_m1, m1_lt, lt_m1, m1_m1]
def shV (nu : Nat → Int64) (n : Nat) : UInt64 := if n = 0 then FP.dconst0 else shD (tnN nu n) n
theorem shV_ok {nu : Nat → Int64} {n : Nat} (hn : n ≤ 9) : shOK (shV nu n) := by
  unfold shV
  by_cases h : n = 0
  · rw [if_pos h]
    exact sh_zero
  · rw [if_neg h]
    exact sh_of hn (cnt_le _ _) (by omega)
theorem nn_ok {ρ : Type} {v : UInt64} {k : UInt64 → Option ρ} (h : v &&& 0x7fffffffffffffff ≤ 0x7ff0000000000000) : nn v k = k v := if_pos h
theorem s_shareC {s : Nat → Int32} {n : Nat} (hs : Good s n) {b : TB} (hB : RB b s) (w : TW) : f_X5_turningShare b w = some (shV w.2.1 n) := by
  have h9 := hs.2.1
  have ok := shV_ok (nu := w.2.1) h9
  unfold f_X5_turningShare
  rw [RB_pegs hs hB]
  unfold shV at ok ⊢
  by_cases h : n = 0
  · rw [if_pos h, h]
    rfl
  · rw [if_neg h] at ok
    rw [if_neg h, if_neg (by rw [iN_lit, iN_eq (by omega) (by omega)]; exact h), bd (s_turning h9)]
    exact nn_ok ok.1
theorem s_shareM {s : Nat → Int32} {n : Nat} (hs : Good s n) (ab : Nat → Int64) : f_X6_share s ab = some (shV ab n) := by
  have h9 := hs.2.1
  have ok := shV_ok (nu := ab) h9
  refine Eq.trans (lp_cnt (F := fun fu j c => f_X6_share_4 s ab fu (iN c) (iN j)) (N := n) (fun p => decide (ab p ≠ 0)) (fun c => if n = 0 then some FP.dconst0 else nn (shD c n) (fun v4 => some v4)) ?_ ?_ FU (FU_lt (by omega))) ?_
  · intro fu j c hj
    show f_X6_share_4b s ab (f_X6_share_4 s ab fu) (iN c) (iN j) = _
    unfold f_X6_share_4b f_X6_share_31
    rw [rd_0 (by omega), hs.1]
    simp (disch := omega) only [not_le_of hj, ↓lt_eq, ↓rd_n, ↓rd_l, ↓rd_a, ↓rd_s, ↓rd_sl, ↓rd_c, ↓rd_m, ↓rd_i, ↓wrI_n, ↓wrI_l, ↓wrI_a, ↓wrI_s, ↓wrI_sl, ↓wrI_c, ↓wrI_m, ↓wrI_i, ↓wrJ_n, ↓wrZ_n, ↓Option.bind_some, ↓reduceIte, Nat.reduceEqDiff, Nat.reduceLeDiff, Nat.reduceLT, Nat.reduceAdd, Nat.reduceMul, Nat.reduceSub, Nat.reduceDiv, Nat.reduceMod, eq_self, and_true, true_and, or_true, true_or, and_false, false_and, or_false, false_or, not_true_eq_false, not_false_eq_true, and_self, or_self, Bool.false_eq_true, reduceCtorEq, decide_true, decide_false, Nat.zero_le, Nat.le_refl, Nat.lt_irrefl, Nat.not_lt_zero, Nat.zero_ne_one, Nat.one_ne_zero, iN_lit, iN_add, iN_mul, iN_le, iN_lt, iN_eq, iN_m1, m1_iN, m1_le, le_m1, m1_lt, lt_m1, m1_m1, cmp_eqN]
    by_cases h : ab j = 0
    · simp [h, iN]
    · simp [h]
  · intro fu c
    show f_X6_share_4b s ab (f_X6_share_4 s ab fu) (iN c) (iN n) = _
    unfold f_X6_share_4b shD
    rw [rd_0 (by omega), rd_0 (by omega), rd_0 (by omega), hs.1, if_pos (Int32.le_refl _)]
    by_cases h : n = 0
    · rw [if_pos h, h]
      rfl
    · rw [if_neg h, if_neg (by rw [iN_lit, iN_eq (by omega) (by omega)]; exact h)]
  · unfold shV at ok ⊢
    by_cases h : n = 0
    · rw [if_pos h, if_pos h]
    · rw [if_neg h] at ok
      rw [if_neg h, if_neg h]
      exact nn_ok ok.1
/-! the marks -/
def lcF (D : Nat → Nat) : Nat → Nat
  | 0 => 1
  | p + 1 => lcF D p / Nat.gcd (lcF D p) (D p) * D p
theorem lcF_ok {D : Nat → Nat} {T n : Nat} (hT : 0 < T) (h : ∀ p, p < n → D p ∣ T ∧ 0 < D p) : ∀ p, p ≤ n → lcF D p ∣ T ∧ 0 < lcF D p := by
  intro p
  induction p with
  | zero => intro _; exact ⟨Nat.one_dvd T, Nat.one_pos⟩
  | succ p ih =>
    intro hp
    obtain ⟨h1, h2⟩ := ih (by omega)
    obtain ⟨h3, h4⟩ := h p (by omega)
    have e : lcF D (p + 1) = Nat.lcm (lcF D p) (D p) := by
      show lcF D p / Nat.gcd (lcF D p) (D p) * D p = _
      rw [Nat.div_mul_right_comm (Nat.gcd_dvd_left _ _)]
      rfl
    rw [e]
    exact ⟨Nat.lcm_dvd h1 h3, Nat.lcm_pos h2 h4⟩
theorem dvJ_n {ρ : Type} {a b : Nat} {k : Int64 → Option ρ} (ha : a < 9000000000000000000) (hb0 : 0 < b) (hb : b < 9000000000000000000) : dvJ (jZ a) (jZ b) k = k (jZ (a / b : Nat)) := by
  unfold dvJ
  rw [if_neg (by rw [jZ_lit, jZ_eq (ok_nat hb) (ok_nat (by omega))]; omega), jZ_div (ok_nat ha) (ok_nat hb)]
  rfl
theorem s_marks15 {nu de : Nat → Int64} {D : Nat → Nat} {T n : Nat} (hn : n ≤ 9) (hT : 0 < T) (hT2 : T ≤ 6553600000000) (h : ∀ p, p < n → D p ∣ T ∧ 0 < D p ∧ de p = jZ (D p)) : f_X4_turnsOfMarks_15 nu de (iN n) FU 1 (iN 0) = some (jZ (lcF D n)) := by
  have hl := lcF_ok hT (fun p hp => ⟨(h p hp).1, (h p hp).2.1⟩)
  have H := lp_ex (σ := Int64) (F := fun fu j l => f_X4_turnsOfMarks_15 nu de (iN n) fu l (iN j)) (N := n) (I := fun j l => l = jZ (lcF D j)) (fun l => some l) ?_ ?_ n FU 0 1 (by omega) (FU_lt (by omega)) (by rw [jZ_lit]; rfl)
  · obtain ⟨l, h1, h2⟩ := H
    rw [h1] at h2
    exact h2
  · intro fu j l hj hI
    subst hI
    obtain ⟨h1, h2⟩ := hl j (by omega)
    obtain ⟨h3, h4, h5⟩ := h j hj
    have b1 := Nat.le_of_dvd hT h1
    have b2_ := Nat.le_of_dvd hT h3
    have g0 := Nat.gcd_pos_of_pos_left (D j) h2
    have g1 := Nat.le_of_dvd h2 (Nat.gcd_dvd_left (lcF D j) (D j))
    have c := s_cd (z := (lcF D j : Int)) (b := D j) (ok_nat (by omega)) h4 (by omega)
    rw [Int.natAbs_natCast] at c
    refine ⟨jZ (lcF D (j + 1)), rfl, ?_⟩
    show f_X4_turnsOfMarks_15b nu de (iN n) (f_X4_turnsOfMarks_15 nu de (iN n) fu) (jZ (lcF D j)) (iN j) = _
    unfold f_X4_turnsOfMarks_15b f_X4_turnsOfMarks_57
    rw [if_neg (by rw [iN_le (by omega) (by omega)]; omega), rd_n (show j < 9 by omega) (by omega), h5, bd c, if_neg (by rw [cmp_le, jZ_lit, jZ_lt (ok_nat (by omega)) (ok_nat (by omega))]; omega), dvJ_n (by omega) g0 (by omega), rd_n (show j < 9 by omega) (by omega), h5, lt_eq, lt_eq, jZ_mul, show iN j + 1 = iN (j + 1) from iN_add j 1, show ((lcF D j / Nat.gcd (lcF D j) (D j) : Nat) : Int) * (D j : Int) = ((lcF D (j + 1) : Nat) : Int) from (Int.natCast_mul _ _).symm]
  · intro fu l hI
    show f_X4_turnsOfMarks_15b nu de (iN n) (f_X4_turnsOfMarks_15 nu de (iN n) fu) l (iN n) = _
    unfold f_X4_turnsOfMarks_15b
    rw [if_pos (Int32.le_refl _)]
theorem s_back24 {s : Nat → Int32} {be : Nat → Int64} {jm : Int32} {D : Nat → Nat} {T n : Nat} (hs : Good s n) (hT : 0 < T) (hT2 : T ≤ 6553600000000) (h : ∀ p, p < n → D p ∣ T ∧ 0 < D p ∧ be p = jZ (D p)) : f_X6_backBehind_24 s be jm FU 1 (iN 0) = some (jZ (lcF D n)) := by
  have hn := hs.2.1
  have hl := lcF_ok hT (fun p hp => ⟨(h p hp).1, (h p hp).2.1⟩)
  have H := lp_ex (σ := Int64) (F := fun fu j l => f_X6_backBehind_24 s be jm fu l (iN j)) (N := n) (I := fun j l => l = jZ (lcF D j)) (fun l => some l) ?_ ?_ n FU 0 1 (by omega) (FU_lt (by omega)) (by rw [jZ_lit]; rfl)
  · obtain ⟨l, h1, h2⟩ := H
    rw [h1] at h2
    exact h2
  · intro fu j l hj hI
    subst hI
    obtain ⟨h1, h2⟩ := hl j (by omega)
    obtain ⟨h3, h4, h5⟩ := h j hj
    have b1 := Nat.le_of_dvd hT h1
    have b2_ := Nat.le_of_dvd hT h3
    have g0 := Nat.gcd_pos_of_pos_left (D j) h2
    have g1 := Nat.le_of_dvd h2 (Nat.gcd_dvd_left (lcF D j) (D j))
    have c := s_common (z := (lcF D j : Int)) (b := D j) (ok_nat (by omega)) (by omega)
    rw [Int.natAbs_natCast] at c
    refine ⟨jZ (lcF D (j + 1)), rfl, ?_⟩
    show f_X6_backBehind_24b s be jm (f_X6_backBehind_24 s be jm fu) (jZ (lcF D j)) (iN j) = _
    unfold f_X6_backBehind_24b
    rw [rd_0 (by omega), hs.1, if_neg (by rw [iN_le (by omega) (by omega)]; omega), rd_n (show j < 9 by omega) (by omega), h5, bd c, dvJ_n (by omega) g0 (by omega), rd_n (show j < 9 by omega) (by omega), h5, lt_eq, lt_eq, jZ_mul, show iN j + 1 = iN (j + 1) from iN_add j 1, show ((lcF D j / Nat.gcd (lcF D j) (D j) : Nat) : Int) * (D j : Int) = ((lcF D (j + 1) : Nat) : Int) from (Int.natCast_mul _ _).symm]
  · intro fu l hI
    show f_X6_backBehind_24b s be jm (f_X6_backBehind_24 s be jm fu) l (iN n) = _
    unfold f_X6_backBehind_24b
    rw [rd_0 (by omega), hs.1, if_pos (Int32.le_refl _)]
theorem s_marks {s : Nat → Int32} {n : Nat} (hs : Good s n) {nu de ab be : Nat → Int64} {jo : Nat → Int32} {jm : Bool} (h1 : ∀ p, p < 9 → nu p = ab p ∧ (p < n → de p = be p)) (h2 : Solved s n ab be jo jm) : ∃ v, f_X4_turnsOfMarks nu de (iN n) = some v ∧ f_X6_backBehind s be (b2 jm) = some v := by
  have h9 := hs.2.1
  have tn := s_turning (nu := nu) h9
  have tl : tnN nu n ≤ n := cnt_le _ _
  unfold f_X4_turnsOfMarks f_X6_backBehind
  rw [bd tn, rd_55]
  have none : (∀ p, p < n → nu p = 0) → tnN nu n = 0 := fun hz => cnt_zero.mpr (fun p hp => by rw [hz p hp]; rfl)
  rcases h2 with ⟨d1, d2, d3⟩ | ⟨d, J, V, D, d1, d2, d3, d4⟩
  · have hz := none (fun p hp => (h1 p (by omega)).1.trans (d3 p (by omega)).1)
    refine ⟨0, ?_, ?_⟩
    · rw [hz, if_pos z0]
    · rw [if_pos (show s 55 = -1 from d1)]
  · rw [if_neg (show ¬ s 55 = -1 by rw [d1, show (-1 : Int32) = -iN 1 from rfl, iN_m1 (by have := d2.1.1; omega)]; exact id)]
    rcases bdic jm with hj | hj
    · subst hj
      simp only [true_and] at d4
      obtain ⟨⟨hdn, hJd, hVd, hJn, -, T, hT, hTl, hV⟩, -⟩ := d2
      have hc : cnt J 9 ≤ 9 := cnt_le _ _
      have hT2 : T ≤ 6553600000000 := Nat.le_trans hTl (Nat.le_trans (Nat.pow_le_pow_right (by omega) (show cnt J 9 - 1 ≤ 8 by omega)) (by decide))
      have hD : ∀ p, p < n → (if J p = true then (V p).2 else 1) ∣ T ∧ 0 < (if J p = true then (V p).2 else 1) ∧ be p = jZ ((if J p = true then (V p).2 else 1 : Nat) : Int) := by
        intro p hp
        obtain ⟨-, -, q3⟩ := d4 p (by omega)
        by_cases hJ : J p = true
        · rw [if_pos hJ] at q3
          rw [if_pos hJ]
          exact ⟨(hV p hJ).1, (hV p hJ).2.1, q3⟩
        · rw [if_neg hJ] at q3
          rw [if_neg hJ]
          exact ⟨Nat.one_dvd T, Nat.one_pos, q3⟩
      refine ⟨jZ (lcF (fun p => if J p = true then (V p).2 else 1) n), ?_, ?_⟩
      · have hpos : 0 < tnN nu n := by
          refine cnt_pos hdn ?_
          rw [(h1 d (by omega)).1, (d4 d (by omega)).2.1, if_pos hJd, hVd]
          decide
        rw [if_neg (by rw [iN_lit, iN_eq (by omega) (by omega)]; omega)]
        exact s_marks15 h9 hT hT2 (fun p hp => ⟨(hD p hp).1, (hD p hp).2.1, ((h1 p (by omega)).2 hp).trans (hD p hp).2.2⟩)
      · rw [if_pos (show b2 false = 0 from rfl)]
        exact s_back24 hs hT hT2 hD
    · subst hj
      simp only [Bool.true_eq_false, false_and, if_false] at d4
      have hz := none (fun p hp => (h1 p (by omega)).1.trans (d4 p (by omega)).2.1)
      refine ⟨0, ?_, ?_⟩
      · rw [hz, if_pos z0]
      · rw [if_neg (show ¬ b2 true = 0 by decide)]
