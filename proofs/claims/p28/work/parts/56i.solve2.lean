/-! the class's search, whole -/
section
variable {mesh kinds teeth s : Nat → Int32} {n d p q l : Nat}
theorem s_tn13 (hs : Good s n) (hK : RK kinds teeth s) (hM : RM mesh s n) {J0 : Nat → Bool} {V0 : Nat → Int × Nat} {jm0 : Bool} {D0 : Nat → Nat → Nat → Prop} (h0 : LY s n d J0 V0 jm0 D0) {σ0 : TN} (hR0 : RC J0 V0 σ0 jm0) (hp : J0 p = true) (hqn : q < n) (k2 : (Nat → Int64) → (Nat → Int64) → (Nat → Int32) → (Nat → Int32) → Int32 → Int32 → Int32 → Option TN) :
    ∃ J V jm D σ, LY s n d J V jm D ∧ RC J V σ jm ∧ Ext J0 D0 σ0.2.2.2.1 J D σ.2.2.2.1 ∧ (∀ l, l < 2 → tS s p q l true = true → D p q l) ∧ f_X4_turnNeighbours_13 mesh kinds teeth (iN n) (iN p) k2 FU σ0.1 σ0.2.1 σ0.2.2.1 σ0.2.2.2.1 σ0.2.2.2.2.1 σ0.2.2.2.2.2 (iN q) (iN 0) = k2 σ.1 σ.2.1 σ.2.2.1 σ.2.2.2.1 σ.2.2.2.2.1 σ.2.2.2.2.2 (iN (q + 1)) := by
  have h9 := hs.2.1
  have hpn := h0.1.2.2.2.1 p hp
  have H := lp_ex (σ := TN) (F := fun fu l σ => f_X4_turnNeighbours_13 mesh kinds teeth (iN n) (iN p) k2 fu σ.1 σ.2.1 σ.2.2.1 σ.2.2.2.1 σ.2.2.2.2.1 σ.2.2.2.2.2 (iN q) (iN l)) (N := 2) (I := fun l σ => ∃ J V jm D, LY s n d J V jm D ∧ RC J V σ jm ∧ Ext J0 D0 σ0.2.2.2.1 J D σ.2.2.2.1 ∧ ∀ l', l' < l → tS s p q l' true = true → D p q l') (fun σ => k2 σ.1 σ.2.1 σ.2.2.1 σ.2.2.2.1 σ.2.2.2.2.1 σ.2.2.2.2.2 (iN (q + 1))) ?_ ?_ 2 FU 0 σ0 (by omega) (FU_lt (by omega)) ⟨J0, V0, jm0, D0, h0, hR0, Ext.rf _ _ _, fun l' h => by omega⟩
  · obtain ⟨σ, ⟨J, V, jm, D, i1, i2, i3, i4⟩, e⟩ := H
    exact ⟨J, V, jm, D, σ, i1, i2, i3, i4, e⟩
  · rintro fu l σ hl ⟨J, V, jm, D, i1, i2, i3, i4⟩
    have a := s_meshOnLevel hs hM hpn hqn hl
    rcases bdic (tS s p q l true) with hm | hm
    · refine ⟨σ, ⟨J, V, jm, D, i1, i2, i3, fun l' h1 h2 => ?_⟩, ?_⟩
      · by_cases e : l' = l
        · rw [e, hm] at h2; cases h2
        · exact i4 l' (by omega) h2
      · rw [hm] at a
        show f_X4_turnNeighbours_13b mesh kinds teeth (iN n) (iN p) k2 (f_X4_turnNeighbours_13 mesh kinds teeth (iN n) (iN p) k2 fu) σ.1 σ.2.1 σ.2.2.1 σ.2.2.2.1 σ.2.2.2.2.1 σ.2.2.2.2.2 (iN q) (iN l) = _
        unfold f_X4_turnNeighbours_13b f_X4_turnNeighbours_39
        simp (disch := omega) only [↓bd a, not_le_of hl, b2_f, ↓lt_eq, ↓rd_n, ↓rd_l, ↓rd_a, ↓rd_s, ↓rd_sl, ↓rd_c, ↓rd_m, ↓rd_i, ↓wrI_n, ↓wrI_l, ↓wrI_a, ↓wrI_s, ↓wrI_sl, ↓wrI_c, ↓wrI_m, ↓wrI_i, ↓wrJ_n, ↓wrZ_n, ↓Option.bind_some, ↓reduceIte, Nat.reduceEqDiff, Nat.reduceLeDiff, Nat.reduceLT, Nat.reduceAdd, Nat.reduceMul, Nat.reduceSub, Nat.reduceDiv, Nat.reduceMod, eq_self, and_true, true_and, or_true, true_or, and_false, false_and, or_false, false_or, not_true_eq_false, not_false_eq_true, and_self, or_self, Bool.false_eq_true, reduceCtorEq, decide_true, decide_false, Nat.zero_le, Nat.le_refl, Nat.lt_irrefl, Nat.not_lt_zero, Nat.zero_ne_one, Nat.one_ne_zero, iN_lit, iN_add, iN_mul, iN_le, iN_lt, iN_eq, iN_m1, m1_iN, m1_le, le_m1, m1_lt, lt_m1, m1_m1]
    · obtain ⟨J', V', jm', D', σ', x1, x2, x3, x4, x5⟩ := s_edge hs hK i1 i2 (i3.2.1 p hp) hqn hl hm
      refine ⟨σ', ⟨J', V', jm', D', x1, x2, i3.tr x3, fun l' h1 h2 => ?_⟩, ?_⟩
      · by_cases e : l' = l
        · rw [e]; exact x4
        · exact x3.1 _ _ _ (i4 l' (by omega) h2)
      · rw [hm] at a
        show f_X4_turnNeighbours_13b mesh kinds teeth (iN n) (iN p) k2 (f_X4_turnNeighbours_13 mesh kinds teeth (iN n) (iN p) k2 fu) σ.1 σ.2.1 σ.2.2.1 σ.2.2.2.1 σ.2.2.2.2.1 σ.2.2.2.2.2 (iN q) (iN l) = _
        unfold f_X4_turnNeighbours_13b f_X4_turnNeighbours_39
        simp (disch := omega) only [↓bd a, ↓bd x5, not_le_of hl, b2_t, ↓lt_eq, ↓rd_n, ↓rd_l, ↓rd_a, ↓rd_s, ↓rd_sl, ↓rd_c, ↓rd_m, ↓rd_i, ↓wrI_n, ↓wrI_l, ↓wrI_a, ↓wrI_s, ↓wrI_sl, ↓wrI_c, ↓wrI_m, ↓wrI_i, ↓wrJ_n, ↓wrZ_n, ↓Option.bind_some, ↓reduceIte, Nat.reduceEqDiff, Nat.reduceLeDiff, Nat.reduceLT, Nat.reduceAdd, Nat.reduceMul, Nat.reduceSub, Nat.reduceDiv, Nat.reduceMod, eq_self, and_true, true_and, or_true, true_or, and_false, false_and, or_false, false_or, not_true_eq_false, not_false_eq_true, and_self, or_self, Bool.false_eq_true, reduceCtorEq, decide_true, decide_false, Nat.zero_le, Nat.le_refl, Nat.lt_irrefl, Nat.not_lt_zero, Nat.zero_ne_one, Nat.one_ne_zero, iN_lit, iN_add, iN_mul, iN_le, iN_lt, iN_eq, iN_m1, m1_iN, m1_le, le_m1, m1_lt, lt_m1, m1_m1]
  · rintro fu σ -
    show f_X4_turnNeighbours_13b mesh kinds teeth (iN n) (iN p) k2 (f_X4_turnNeighbours_13 mesh kinds teeth (iN n) (iN p) k2 fu) σ.1 σ.2.1 σ.2.2.1 σ.2.2.2.1 σ.2.2.2.2.1 σ.2.2.2.2.2 (iN q) (iN 2) = _
    unfold f_X4_turnNeighbours_13b
    simp (disch := omega) only [↓lt_eq, ↓reduceIte, Nat.reduceEqDiff, Nat.reduceLeDiff, Nat.reduceLT, Nat.reduceAdd, Nat.reduceMul, Nat.reduceSub, Nat.reduceDiv, Nat.reduceMod, eq_self, and_true, true_and, or_true, true_or, and_false, false_and, or_false, false_or, not_true_eq_false, not_false_eq_true, and_self, or_self, Bool.false_eq_true, reduceCtorEq, decide_true, decide_false, Nat.zero_le, Nat.le_refl, Nat.lt_irrefl, Nat.not_lt_zero, Nat.zero_ne_one, Nat.one_ne_zero, iN_lit, iN_add, iN_mul, iN_le, iN_lt, iN_eq, iN_m1, m1_iN, m1_le, le_m1, m1_lt, lt_m1, m1_m1]
theorem s_tn (hs : Good s n) (hK : RK kinds teeth s) (hM : RM mesh s n) {J0 : Nat → Bool} {V0 : Nat → Int × Nat} {jm0 : Bool} {D0 : Nat → Nat → Nat → Prop} (h0 : LY s n d J0 V0 jm0 D0) {σ0 : TN} (hR0 : RC J0 V0 σ0 jm0) (hp : J0 p = true) :
    ∃ J V jm D σ, LY s n d J V jm D ∧ RC J V σ jm ∧ Ext J0 D0 σ0.2.2.2.1 J D σ.2.2.2.1 ∧ (∀ q l, q < n → l < 2 → tS s p q l true = true → D p q l) ∧ f_X4_turnNeighbours mesh σ0.1 σ0.2.1 σ0.2.2.1 σ0.2.2.2.1 σ0.2.2.2.2.1 σ0.2.2.2.2.2 kinds teeth (iN n) (iN p) = some σ := by
  have h9 := hs.2.1
  have H := lp_ex (σ := TN) (F := fun fu q σ => f_X4_turnNeighbours_2 mesh kinds teeth (iN n) (iN p) fu σ.1 σ.2.1 σ.2.2.1 σ.2.2.2.1 σ.2.2.2.2.1 σ.2.2.2.2.2 (iN q)) (N := n) (I := fun q σ => ∃ J V jm D, LY s n d J V jm D ∧ RC J V σ jm ∧ Ext J0 D0 σ0.2.2.2.1 J D σ.2.2.2.1 ∧ ∀ q' l, q' < q → l < 2 → tS s p q' l true = true → D p q' l) (fun σ => some σ) ?_ ?_ n FU 0 σ0 (by omega) (FU_lt (by omega)) ⟨J0, V0, jm0, D0, h0, hR0, Ext.rf _ _ _, fun q' l h => by omega⟩
  · obtain ⟨σ, ⟨J, V, jm, D, i1, i2, i3, i4⟩, e⟩ := H
    exact ⟨J, V, jm, D, σ, i1, i2, i3, i4, e⟩
  · rintro fu q σ hq ⟨J, V, jm, D, i1, i2, i3, i4⟩
    obtain ⟨J', V', jm', D', σ', x1, x2, x3, x4, x5⟩ := s_tn13 hs hK hM i1 i2 (i3.2.1 p hp) hq (f_X4_turnNeighbours_2 mesh kinds teeth (iN n) (iN p) fu)
    refine ⟨σ', ⟨J', V', jm', D', x1, x2, i3.tr x3, fun q' l h1 h2 h3 => ?_⟩, ?_⟩
    · by_cases e : q' = q
      · rw [e] at h3 ⊢; exact x4 l h2 h3
      · exact x3.1 _ _ _ (i4 q' l (by omega) h2 h3)
    · show f_X4_turnNeighbours_2b mesh kinds teeth (iN n) (iN p) (f_X4_turnNeighbours_2 mesh kinds teeth (iN n) (iN p) fu) σ.1 σ.2.1 σ.2.2.1 σ.2.2.2.1 σ.2.2.2.2.1 σ.2.2.2.2.2 (iN q) = _
      unfold f_X4_turnNeighbours_2b
      simp (disch := omega) only [not_le_of hq, ↓reduceIte, Nat.reduceEqDiff, Nat.reduceLeDiff, Nat.reduceLT, Nat.reduceAdd, Nat.reduceMul, Nat.reduceSub, Nat.reduceDiv, Nat.reduceMod, eq_self, and_true, true_and, or_true, true_or, and_false, false_and, or_false, false_or, not_true_eq_false, not_false_eq_true, and_self, or_self, Bool.false_eq_true, reduceCtorEq, decide_true, decide_false, Nat.zero_le, Nat.le_refl, Nat.lt_irrefl, Nat.not_lt_zero, Nat.zero_ne_one, Nat.one_ne_zero, iN_lit, iN_add, iN_mul, iN_le, iN_lt, iN_eq, iN_m1, m1_iN, m1_le, le_m1, m1_lt, lt_m1, m1_m1]
      exact x5
  · rintro fu σ -
    show f_X4_turnNeighbours_2b mesh kinds teeth (iN n) (iN p) (f_X4_turnNeighbours_2 mesh kinds teeth (iN n) (iN p) fu) σ.1 σ.2.1 σ.2.2.1 σ.2.2.2.1 σ.2.2.2.2.1 σ.2.2.2.2.2 (iN n) = _
    unfold f_X4_turnNeighbours_2b
    simp (disch := omega) only [↓reduceIte, Nat.reduceEqDiff, Nat.reduceLeDiff, Nat.reduceLT, Nat.reduceAdd, Nat.reduceMul, Nat.reduceSub, Nat.reduceDiv, Nat.reduceMod, eq_self, and_true, true_and, or_true, true_or, and_false, false_and, or_false, false_or, not_true_eq_false, not_false_eq_true, and_self, or_self, Bool.false_eq_true, reduceCtorEq, decide_true, decide_false, Nat.zero_le, Nat.le_refl, Nat.lt_irrefl, Nat.not_lt_zero, Nat.zero_ne_one, Nat.one_ne_zero, iN_lit, iN_add, iN_mul, iN_le, iN_lt, iN_eq, iN_m1, m1_iN, m1_le, le_m1, m1_lt, lt_m1, m1_m1]
end
theorem s_solve64 {x y0 kinds teeth mesh s : Nat → Int32} {play dr : Int32} {n d : Nat} (hs : Good s n) (hK : RK kinds teeth s) (hM : RM mesh s n) : ∀ (m fu k : Nat) {J0 : Nat → Bool} {V0 : Nat → Int × Nat} {jm0 : Bool} {D0 : Nat → Nat → Nat → Prop} {σ0 : TN}, LY s n d J0 V0 jm0 D0 → RC J0 V0 σ0 jm0 → (∀ i, i < k → ∀ p, σ0.2.2.2.1 i = iN p → J0 p = true → ∀ q l, q < n → l < 2 → tS s p q l true = true → D0 p q l) → k ≤ cnt J0 9 → 9 - k ≤ m → m < fu →
    ∃ J V jm D σ, LY s n d J V jm D ∧ RC J V σ jm ∧ LF s n J D ∧ f_X4_solve_64 x y0 kinds teeth (iN n) dr play fu mesh σ0.1 σ0.2.1 σ0.2.2.1 σ0.2.2.2.1 σ0.2.2.2.2.1 σ0.2.2.2.2.2 (iN k) = f_X4_solve_95 x y0 kinds teeth (iN n) dr play mesh σ.1 σ.2.1 σ.2.2.1 σ.2.2.2.1 σ.2.2.2.2.1 σ.2.2.2.2.2 := by
  have h9 := hs.2.1
  intro m
  induction m with
  | zero =>
    intro fu k J0 V0 jm0 D0 σ0 h0 hR hD hk hm hf
    obtain ⟨f, rfl⟩ : ∃ f, fu = f + 1 := ⟨fu - 1, by omega⟩
    have hc := cnt_le J0 9
    have hk9 : k = cnt J0 9 := by omega
    refine ⟨J0, V0, jm0, D0, σ0, h0, hR, fun p q l hp hq hl ht => ?_, ?_⟩
    · obtain ⟨i, i1, i2⟩ := hR.2.2.2.1 p hp
      exact hD i (by omega) p i2 hp q l hq hl ht
    · show f_X4_solve_64b x y0 kinds teeth (iN n) dr play (f_X4_solve_64 x y0 kinds teeth (iN n) dr play f) mesh σ0.1 σ0.2.1 σ0.2.2.1 σ0.2.2.2.1 σ0.2.2.2.2.1 σ0.2.2.2.2.2 (iN k) = _
      unfold f_X4_solve_64b
      rw [if_pos]
      rw [hR.2.1, iN_le (by omega) (by omega)]
      omega
  | succ m ih =>
    intro fu k J0 V0 jm0 D0 σ0 h0 hR hD hk hm hf
    obtain ⟨f, rfl⟩ : ∃ f, fu = f + 1 := ⟨fu - 1, by omega⟩
    have hc := cnt_le J0 9
    by_cases hk9 : cnt J0 9 ≤ k
    · refine ⟨J0, V0, jm0, D0, σ0, h0, hR, fun p q l hp hq hl ht => ?_, ?_⟩
      · obtain ⟨i, i1, i2⟩ := hR.2.2.2.1 p hp
        exact hD i (by omega) p i2 hp q l hq hl ht
      · show f_X4_solve_64b x y0 kinds teeth (iN n) dr play (f_X4_solve_64 x y0 kinds teeth (iN n) dr play f) mesh σ0.1 σ0.2.1 σ0.2.2.1 σ0.2.2.2.1 σ0.2.2.2.2.1 σ0.2.2.2.2.2 (iN k) = _
        unfold f_X4_solve_64b
        rw [if_pos]
        rw [hR.2.1, iN_le (by omega) (by omega)]
        exact hk9
    · obtain ⟨p, hp, hqu⟩ := hR.2.2.2.2 k (by omega)
      obtain ⟨J, V, jm, D, σ, x1, x2, x3, x4, x5⟩ := s_tn (p := p) hs hK hM h0 hR hp
      have hst : f_X4_solve_64 x y0 kinds teeth (iN n) dr play (f + 1) mesh σ0.1 σ0.2.1 σ0.2.2.1 σ0.2.2.2.1 σ0.2.2.2.2.1 σ0.2.2.2.2.2 (iN k) = f_X4_solve_64 x y0 kinds teeth (iN n) dr play f mesh σ.1 σ.2.1 σ.2.2.1 σ.2.2.2.1 σ.2.2.2.2.1 σ.2.2.2.2.2 (iN (k + 1)) := by
        show f_X4_solve_64b x y0 kinds teeth (iN n) dr play (f_X4_solve_64 x y0 kinds teeth (iN n) dr play f) mesh σ0.1 σ0.2.1 σ0.2.2.1 σ0.2.2.2.1 σ0.2.2.2.2.1 σ0.2.2.2.2.2 (iN k) = _
        unfold f_X4_solve_64b
        have e1 : ¬ (σ0.2.2.2.2.1 ≤ iN k) := by rw [hR.2.1, iN_le (by omega) (by omega)]; exact hk9
        rw [if_neg e1, if_neg (by rw [iN_lit, iN_le (by omega) (by omega)]; omega), rd_n (by omega) (by omega), hqu, bd x5, lt_eq]
        rw [iN_lit, iN_add]
      obtain ⟨J2, V2, jm2, D2, σ2, y1, y2, y3, y4⟩ := ih f (k + 1) x1 x2 (fun i hi p' hi2 hp' q l hq hl ht => by
        by_cases hik : i = k
        · have e : iN p' = iN p := by rw [← hi2, hik, x3.2.2.2 k (by omega), hqu]
          have hp9 := h0.1.2.2.2.1 p hp
          have hp9' := x1.1.2.2.2.1 p' hp'
          rw [iN_eq (by omega) (by omega)] at e
          rw [e] at ht ⊢
          exact x4 q l hq hl ht
        · have e := x3.2.2.2 i (by omega)
          rw [e] at hi2
          have hp0 : J0 p' = true := by
            obtain ⟨b, b1, b2_⟩ := hR.2.2.2.2 i (by omega)
            have hb := h0.1.2.2.2.1 b b1
            have hp9' := x1.1.2.2.2.1 p' hp'
            rw [hi2, iN_eq (by omega) (by omega)] at b2_
            rw [b2_]; exact b1
          exact x3.1 _ _ _ (hD i (by omega) p' hi2 hp0 q l hq hl ht)) (by have := x3.2.2.1; omega) (by omega) (by omega)
      exact ⟨J2, V2, jm2, D2, σ2, y1, y2, y3, hst.trans y4⟩
