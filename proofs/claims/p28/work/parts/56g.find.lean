/-! the class: its table of what meshes; all stopped -/
theorem s_find26 {x y0 kinds teeth s : Nat → Int32} {play : Int32} {n p q : Nat} (hs : Good s n) (hX : RX x y0 s) (hK : RK kinds teeth s) (hy : play = s 59) (hp : p < 9) (hq : q < 9) (k12 : (Nat → Int32) → Int32 → Int32 → Option (Nat → Int32)) (m : Nat → Int32) : f_X4_findMeshing_26 x y0 kinds teeth (iN n) play k12 FU m (iN p) (iN q) (iN 0) (iN 0) = k12 (upd (upd m (p * 9 + q) (iN (mS s p q))) (q * 9 + p) (iN (mS s p q))) (iN p) (iN (q + 1)) := by
  have H := lp_sum0 (F := fun fu l c => f_X4_findMeshing_26 x y0 kinds teeth (iN n) play k12 fu m (iN p) (iN q) (iN c) (iN l)) (d := 2) (fun l => if tS s p q l true = true then l + 1 else 0) (fun c => k12 (upd (upd m (p * 9 + q) (iN c)) (q * 9 + p) (iN c)) (iN p) (iN (q + 1))) ?_ ?_ FU 0 (FU_lt (by omega))
  · have e : 0 + sm (fun l => if tS s p q l true = true then l + 1 else 0) 2 = mS s p q := by
      unfold mS
      simp only [sm]
      cases tS s p q 0 true <;> cases tS s p q 1 true <;> rfl
    rw [e] at H
    exact H
  · intro fu l c hl
    have a := s_areMeshing hs hX hK hy hp hq hl
    show f_X4_findMeshing_26b x y0 kinds teeth (iN n) play k12 (f_X4_findMeshing_26 x y0 kinds teeth (iN n) play k12 fu) m (iN p) (iN q) (iN c) (iN l) = _
    unfold f_X4_findMeshing_26b f_X4_findMeshing_52
    rcases bdic (tS s p q l true) with h | h
    · rw [h] at a
      simp (disch := omega) only [↓bd a, not_le_of hl, h, b2_f, ↓lt_eq, ↓rd_n, ↓rd_l, ↓rd_a, ↓rd_s, ↓rd_sl, ↓rd_c, ↓rd_m, ↓rd_i, ↓wrI_n, ↓wrI_l, ↓wrI_a, ↓wrI_s, ↓wrI_sl, ↓wrI_c, ↓wrI_m, ↓wrI_i, ↓wrJ_n, ↓wrZ_n, ↓Option.bind_some, ↓reduceIte, Nat.reduceEqDiff, Nat.reduceLeDiff, Nat.reduceLT, Nat.reduceAdd, Nat.reduceMul, Nat.reduceSub, Nat.reduceDiv, Nat.reduceMod, eq_self, and_true, true_and, or_true, true_or, and_false, false_and, or_false, false_or, not_true_eq_false, not_false_eq_true, and_self, or_self, Bool.false_eq_true, reduceCtorEq, decide_true, decide_false, Nat.zero_le, Nat.le_refl, Nat.lt_irrefl, Nat.not_lt_zero, Nat.zero_ne_one, Nat.one_ne_zero, iN_lit, iN_add, iN_mul, iN_le, iN_lt, iN_eq, iN_m1, m1_iN, m1_le, le_m1, m1_lt, lt_m1, m1_m1, Nat.add_zero]
    · rw [h] at a
      simp (disch := omega) only [↓bd a, not_le_of hl, h, b2_t, ↓lt_eq, ↓rd_n, ↓rd_l, ↓rd_a, ↓rd_s, ↓rd_sl, ↓rd_c, ↓rd_m, ↓rd_i, ↓wrI_n, ↓wrI_l, ↓wrI_a, ↓wrI_s, ↓wrI_sl, ↓wrI_c, ↓wrI_m, ↓wrI_i, ↓wrJ_n, ↓wrZ_n, ↓Option.bind_some, ↓reduceIte, Nat.reduceEqDiff, Nat.reduceLeDiff, Nat.reduceLT, Nat.reduceAdd, Nat.reduceMul, Nat.reduceSub, Nat.reduceDiv, Nat.reduceMod, eq_self, and_true, true_and, or_true, true_or, and_false, false_and, or_false, false_or, not_true_eq_false, not_false_eq_true, and_self, or_self, Bool.false_eq_true, reduceCtorEq, decide_true, decide_false, Nat.zero_le, Nat.le_refl, Nat.lt_irrefl, Nat.not_lt_zero, Nat.zero_ne_one, Nat.one_ne_zero, iN_lit, iN_add, iN_mul, iN_le, iN_lt, iN_eq, iN_m1, m1_iN, m1_le, le_m1, m1_lt, lt_m1, m1_m1]
  · intro fu c
    show f_X4_findMeshing_26b x y0 kinds teeth (iN n) play k12 (f_X4_findMeshing_26 x y0 kinds teeth (iN n) play k12 fu) m (iN p) (iN q) (iN c) (iN 2) = _
    have i1 : p * 9 + q < 81 := by omega
    have i2 : q * 9 + p < 81 := by omega
    unfold f_X4_findMeshing_26b
    simp (disch := omega) only [↓lt_eq, ↓rd_n, ↓rd_l, ↓rd_a, ↓rd_s, ↓rd_sl, ↓rd_c, ↓rd_m, ↓rd_i, ↓wrI_n, ↓wrI_l, ↓wrI_a, ↓wrI_s, ↓wrI_sl, ↓wrI_c, ↓wrI_m, ↓wrI_i, ↓wrJ_n, ↓wrZ_n, ↓Option.bind_some, ↓reduceIte, Nat.reduceEqDiff, Nat.reduceLeDiff, Nat.reduceLT, Nat.reduceAdd, Nat.reduceMul, Nat.reduceSub, Nat.reduceDiv, Nat.reduceMod, eq_self, and_true, true_and, or_true, true_or, and_false, false_and, or_false, false_or, not_true_eq_false, not_false_eq_true, and_self, or_self, Bool.false_eq_true, reduceCtorEq, decide_true, decide_false, Nat.zero_le, Nat.le_refl, Nat.lt_irrefl, Nat.not_lt_zero, Nat.zero_ne_one, Nat.one_ne_zero, iN_lit, iN_add, iN_mul, iN_le, iN_lt, iN_eq, iN_m1, m1_iN, m1_le, le_m1, m1_lt, lt_m1, m1_m1]
theorem s_find12 {x y0 kinds teeth s : Nat → Int32} {play : Int32} {n p : Nat} (hs : Good s n) (hX : RX x y0 s) (hK : RK kinds teeth s) (hy : play = s 59) (hp : p < n) (k2 : (Nat → Int32) → Int32 → Option (Nat → Int32)) (m : Nat → Int32) (hm : ∀ a b, a < n → b < n → a < p ∨ b < p → m (a * 9 + b) = iN (mS s a b)) : ∃ m', (∀ a b, a < n → b < n → a < p + 1 ∨ b < p + 1 → m' (a * 9 + b) = iN (mS s a b)) ∧ f_X4_findMeshing_12 x y0 kinds teeth (iN n) play k2 FU m (iN p) (iN p) = k2 m' (iN (p + 1)) := by
  have h9 := hs.2.1
  have H := lp_ex (σ := Nat → Int32) (F := fun fu q m => f_X4_findMeshing_12 x y0 kinds teeth (iN n) play k2 fu m (iN p) (iN q)) (N := n) (I := fun q m => (∀ a b, a < n → b < n → a < p ∨ b < p → m (a * 9 + b) = iN (mS s a b)) ∧ p ≤ q ∧ ∀ b, p ≤ b → b < q → m (p * 9 + b) = iN (mS s p b) ∧ m (b * 9 + p) = iN (mS s b p)) (fun m => k2 m (iN (p + 1))) ?_ ?_ (n - p) FU p m (by omega) (FU_lt (by omega)) ⟨hm, Nat.le_refl _, fun b h1 h2 => by omega⟩
  · obtain ⟨m', ⟨i1, -, i2⟩, e⟩ := H
    refine ⟨m', fun a b ha hb hab => ?_, e⟩
    by_cases h : a < p ∨ b < p
    · exact i1 a b ha hb h
    · rcases hab with h1 | h1
      · have : a = p := by omega
        subst this
        exact (i2 b (by omega) hb).1
      · have : b = p := by omega
        subst this
        exact (i2 a (by omega) ha).2
  · rintro fu q m hq ⟨i1, i2, i3⟩
    refine ⟨upd (upd m (p * 9 + q) (iN (mS s p q))) (q * 9 + p) (iN (mS s p q)), ⟨fun a b ha hb hab => ?_, by omega, fun b h1 h2 => ?_⟩, ?_⟩
    · simp only [upd_at]
      rw [if_neg (by omega), if_neg (by omega)]
      exact i1 a b ha hb hab
    · simp only [upd_at]
      by_cases hb : b = q
      · subst hb
        rw [if_pos rfl, if_pos rfl, mS_symm hs (show b < 9 by omega) (show p < 9 by omega)]
        exact ⟨by split <;> rfl, rfl⟩
      · rw [if_neg (by omega), if_neg (by omega), if_neg (by omega), if_neg (by omega)]
        exact i3 b h1 (by omega)
    · show f_X4_findMeshing_12b x y0 kinds teeth (iN n) play k2 (f_X4_findMeshing_12 x y0 kinds teeth (iN n) play k2 fu) m (iN p) (iN q) = _
      unfold f_X4_findMeshing_12b
      simp (disch := omega) only [not_le_of hq, ↓reduceIte, Nat.reduceEqDiff, Nat.reduceLeDiff, Nat.reduceLT, Nat.reduceAdd, Nat.reduceMul, Nat.reduceSub, Nat.reduceDiv, Nat.reduceMod, eq_self, and_true, true_and, or_true, true_or, and_false, false_and, or_false, false_or, not_true_eq_false, not_false_eq_true, and_self, or_self, Bool.false_eq_true, reduceCtorEq, decide_true, decide_false, Nat.zero_le, Nat.le_refl, Nat.lt_irrefl, Nat.not_lt_zero, Nat.zero_ne_one, Nat.one_ne_zero, iN_lit, iN_add, iN_mul, iN_le, iN_lt, iN_eq, iN_m1, m1_iN, m1_le, le_m1, m1_lt, lt_m1, m1_m1]
      exact s_find26 hs hX hK hy (by omega) (by omega) _ m
  · rintro fu m -
    show f_X4_findMeshing_12b x y0 kinds teeth (iN n) play k2 (f_X4_findMeshing_12 x y0 kinds teeth (iN n) play k2 fu) m (iN p) (iN n) = _
    unfold f_X4_findMeshing_12b
    simp (disch := omega) only [↓lt_eq, ↓reduceIte, Nat.reduceEqDiff, Nat.reduceLeDiff, Nat.reduceLT, Nat.reduceAdd, Nat.reduceMul, Nat.reduceSub, Nat.reduceDiv, Nat.reduceMod, eq_self, and_true, true_and, or_true, true_or, and_false, false_and, or_false, false_or, not_true_eq_false, not_false_eq_true, and_self, or_self, Bool.false_eq_true, reduceCtorEq, decide_true, decide_false, Nat.zero_le, Nat.le_refl, Nat.lt_irrefl, Nat.not_lt_zero, Nat.zero_ne_one, Nat.one_ne_zero, iN_lit, iN_add, iN_mul, iN_le, iN_lt, iN_eq, iN_m1, m1_iN, m1_le, le_m1, m1_lt, lt_m1, m1_m1]
theorem s_find {x y0 kinds teeth s : Nat → Int32} {play : Int32} {n : Nat} (hs : Good s n) (hX : RX x y0 s) (hK : RK kinds teeth s) (hy : play = s 59) (m : Nat → Int32) : ∃ m', f_X4_findMeshing m x y0 kinds teeth (iN n) play = some m' ∧ RM m' s n := by
  have h9 := hs.2.1
  have H := lp_ex (σ := Nat → Int32) (F := fun fu p m => f_X4_findMeshing_2 x y0 kinds teeth (iN n) play fu m (iN p)) (N := n) (I := fun p m => ∀ a b, a < n → b < n → a < p ∨ b < p → m (a * 9 + b) = iN (mS s a b)) (fun m => some m) ?_ ?_ n FU 0 m (by omega) (FU_lt (by omega)) (fun a b _ _ h => by omega)
  · obtain ⟨m', i, e⟩ := H
    exact ⟨m', e, fun p q hp hq => i p q hp hq (Or.inl hp)⟩
  · intro fu p m hp i
    obtain ⟨m', j1, j2⟩ := s_find12 hs hX hK hy hp (f_X4_findMeshing_2 x y0 kinds teeth (iN n) play fu) m i
    refine ⟨m', j1, ?_⟩
    show f_X4_findMeshing_2b x y0 kinds teeth (iN n) play (f_X4_findMeshing_2 x y0 kinds teeth (iN n) play fu) m (iN p) = _
    unfold f_X4_findMeshing_2b
    simp (disch := omega) only [not_le_of hp, ↓reduceIte, Nat.reduceEqDiff, Nat.reduceLeDiff, Nat.reduceLT, Nat.reduceAdd, Nat.reduceMul, Nat.reduceSub, Nat.reduceDiv, Nat.reduceMod, eq_self, and_true, true_and, or_true, true_or, and_false, false_and, or_false, false_or, not_true_eq_false, not_false_eq_true, and_self, or_self, Bool.false_eq_true, reduceCtorEq, decide_true, decide_false, Nat.zero_le, Nat.le_refl, Nat.lt_irrefl, Nat.not_lt_zero, Nat.zero_ne_one, Nat.one_ne_zero, iN_lit, iN_add, iN_mul, iN_le, iN_lt, iN_eq, iN_m1, m1_iN, m1_le, le_m1, m1_lt, lt_m1, m1_m1]
    exact j2
  · intro fu m _
    show f_X4_findMeshing_2b x y0 kinds teeth (iN n) play (f_X4_findMeshing_2 x y0 kinds teeth (iN n) play fu) m (iN n) = _
    unfold f_X4_findMeshing_2b
    simp (disch := omega) only [↓reduceIte, Nat.reduceEqDiff, Nat.reduceLeDiff, Nat.reduceLT, Nat.reduceAdd, Nat.reduceMul, Nat.reduceSub, Nat.reduceDiv, Nat.reduceMod, eq_self, and_true, true_and, or_true, true_or, and_false, false_and, or_false, false_or, not_true_eq_false, not_false_eq_true, and_self, or_self, Bool.false_eq_true, reduceCtorEq, decide_true, decide_false, Nat.zero_le, Nat.le_refl, Nat.lt_irrefl, Nat.not_lt_zero, Nat.zero_ne_one, Nat.one_ne_zero, iN_lit, iN_add, iN_mul, iN_le, iN_lt, iN_eq, iN_m1, m1_iN, m1_le, le_m1, m1_lt, lt_m1, m1_m1]
theorem s_stop (nu de : Nat → Int64) : ∃ v, f_X4_stop nu de = some v ∧ ∀ p, p < 9 → v.1 p = jZ 0 ∧ v.2 p = jZ 1 := by
  have H := lp_ex (σ := (Nat → Int64) × (Nat → Int64)) (F := fun fu p σ => f_X4_stop_2 fu σ.1 σ.2 (iN p)) (N := 9) (I := fun p σ => ∀ a, a < p → σ.1 a = jZ 0 ∧ σ.2 a = jZ 1) (fun σ => some σ) ?_ ?_ 9 FU 0 (nu, de) (by omega) (FU_lt (by omega)) (fun a h => by omega)
  · obtain ⟨σ, i, e⟩ := H
    exact ⟨σ, e, i⟩
  · rintro fu k ⟨a1, a2⟩ hk i
    refine ⟨(vp_updL a1 k 0, vp_updL a2 k 1), fun p hp => ?_, ?_⟩
    · simp only [updL_at]
      by_cases h : p = k
      · rw [if_pos h, if_pos h]; exact ⟨rfl, rfl⟩
      · rw [if_neg h, if_neg h]; exact i p (by omega)
    · show f_X4_stop_2b (f_X4_stop_2 fu) a1 a2 (iN k) = _
      unfold f_X4_stop_2b
      simp (disch := omega) only [not_le_of hk, ↓lt_eq, ↓rd_n, ↓rd_l, ↓rd_a, ↓rd_s, ↓rd_sl, ↓rd_c, ↓rd_m, ↓rd_i, ↓wrI_n, ↓wrI_l, ↓wrI_a, ↓wrI_s, ↓wrI_sl, ↓wrI_c, ↓wrI_m, ↓wrI_i, ↓wrJ_n, ↓wrZ_n, ↓Option.bind_some, ↓reduceIte, Nat.reduceEqDiff, Nat.reduceLeDiff, Nat.reduceLT, Nat.reduceAdd, Nat.reduceMul, Nat.reduceSub, Nat.reduceDiv, Nat.reduceMod, eq_self, and_true, true_and, or_true, true_or, and_false, false_and, or_false, false_or, not_true_eq_false, not_false_eq_true, and_self, or_self, Bool.false_eq_true, reduceCtorEq, decide_true, decide_false, Nat.zero_le, Nat.le_refl, Nat.lt_irrefl, Nat.not_lt_zero, Nat.zero_ne_one, Nat.one_ne_zero, iN_lit, iN_add, iN_mul, iN_le, iN_lt, iN_eq, iN_m1, m1_iN, m1_le, le_m1, m1_lt, lt_m1, m1_m1]
  · rintro fu ⟨a1, a2⟩ -
    show f_X4_stop_2b (f_X4_stop_2 fu) a1 a2 (iN 9) = _
    unfold f_X4_stop_2b
    simp (disch := omega) only [↓reduceIte, Nat.reduceEqDiff, Nat.reduceLeDiff, Nat.reduceLT, Nat.reduceAdd, Nat.reduceMul, Nat.reduceSub, Nat.reduceDiv, Nat.reduceMod, eq_self, and_true, true_and, or_true, true_or, and_false, false_and, or_false, false_or, not_true_eq_false, not_false_eq_true, and_self, or_self, Bool.false_eq_true, reduceCtorEq, decide_true, decide_false, Nat.zero_le, Nat.le_refl, Nat.lt_irrefl, Nat.not_lt_zero, Nat.zero_ne_one, Nat.one_ne_zero, iN_lit, iN_add, iN_mul, iN_le, iN_lt, iN_eq, iN_m1, m1_iN, m1_le, le_m1, m1_lt, lt_m1, m1_m1]
