/-! the class's overlaps; places; a thing put; a bench copied -/
theorem oS_symm {s : Nat → Int32} {n p q : Nat} (hs : Good s n) (hp : p < 9) (hq : q < 9) : oS s p q = oS s q p := by
  unfold oS
  simp only [sm, tS_symm hs hp hq (show 0 < 2 by omega), tS_symm hs hp hq (show 1 < 2 by omega)]
theorem s_overlaps27 {x y0 kinds teeth s : Nat → Int32} {play : Int32} {n p q : Nat} (hs : Good s n) (hX : RX x y0 s) (hK : RK kinds teeth s) (hy : play = s 59) (hp : p < 9) (hq : q < 9) (k16 : Int32 → Int32 → Int32 → Option Int32) (c : Nat) : f_X0_overlaps_27 x y0 kinds teeth (iN n) play k16 FU (iN c) (iN p) (iN q) (iN 0) = k16 (iN (c + oS s p q)) (iN p) (iN (q + 1)) := by
  refine lp_sum0 (F := fun fu j c => f_X0_overlaps_27 x y0 kinds teeth (iN n) play k16 fu (iN c) (iN p) (iN q) (iN j)) (d := 2) (fun l => (tS s p q l false).toNat) (fun c => k16 (iN c) (iN p) (iN (q + 1))) ?_ ?_ FU c (FU_lt (by omega))
  · intro fu l c hl
    have m := s_areOverlapping hs hX hK hy hp hq hl
    show f_X0_overlaps_27b x y0 kinds teeth (iN n) play k16 (f_X0_overlaps_27 x y0 kinds teeth (iN n) play k16 fu) (iN c) (iN p) (iN q) (iN l) = _
    unfold f_X0_overlaps_27b f_X0_overlaps_47
    simp (disch := omega) only [↓bd m, ↓lt_eq, ↓rd_n, ↓rd_l, ↓rd_a, ↓rd_s, ↓rd_sl, ↓rd_c, ↓rd_m, ↓rd_i, ↓wrI_n, ↓wrI_l, ↓wrI_a, ↓wrI_s, ↓wrI_sl, ↓wrI_c, ↓wrI_m, ↓wrI_i, ↓wrJ_n, ↓wrZ_n, ↓Option.bind_some, ↓reduceIte, Nat.reduceEqDiff, Nat.reduceLeDiff, Nat.reduceLT, Nat.reduceAdd, Nat.reduceMul, Nat.reduceSub, Nat.reduceDiv, Nat.reduceMod, eq_self, and_true, true_and, or_true, true_or, and_false, false_and, or_false, false_or, not_true_eq_false, not_false_eq_true, and_self, or_self, Bool.false_eq_true, reduceCtorEq, decide_true, decide_false, Nat.zero_le, Nat.le_refl, Nat.lt_irrefl, Nat.not_lt_zero, Nat.zero_ne_one, Nat.one_ne_zero, iN_lit, iN_add, iN_mul, iN_le, iN_lt, iN_eq, iN_m1, m1_iN, m1_le, le_m1, m1_lt, lt_m1, m1_m1, not_le_of hl]
    cases tS s p q l false <;> rfl
  · intro fu c
    show f_X0_overlaps_27b x y0 kinds teeth (iN n) play k16 (f_X0_overlaps_27 x y0 kinds teeth (iN n) play k16 fu) (iN c) (iN p) (iN q) (iN 2) = _
    unfold f_X0_overlaps_27b
    simp (disch := omega) only [↓lt_eq, ↓rd_n, ↓rd_l, ↓rd_a, ↓rd_s, ↓rd_sl, ↓rd_c, ↓rd_m, ↓rd_i, ↓wrI_n, ↓wrI_l, ↓wrI_a, ↓wrI_s, ↓wrI_sl, ↓wrI_c, ↓wrI_m, ↓wrI_i, ↓wrJ_n, ↓wrZ_n, ↓Option.bind_some, ↓reduceIte, Nat.reduceEqDiff, Nat.reduceLeDiff, Nat.reduceLT, Nat.reduceAdd, Nat.reduceMul, Nat.reduceSub, Nat.reduceDiv, Nat.reduceMod, eq_self, and_true, true_and, or_true, true_or, and_false, false_and, or_false, false_or, not_true_eq_false, not_false_eq_true, and_self, or_self, Bool.false_eq_true, reduceCtorEq, decide_true, decide_false, Nat.zero_le, Nat.le_refl, Nat.lt_irrefl, Nat.not_lt_zero, Nat.zero_ne_one, Nat.one_ne_zero, iN_lit, iN_add, iN_mul, iN_le, iN_lt, iN_eq, iN_m1, m1_iN, m1_le, le_m1, m1_lt, lt_m1, m1_m1]
theorem s_overlaps16 {x y0 kinds teeth s : Nat → Int32} {play : Int32} {n p : Nat} (hs : Good s n) (hX : RX x y0 s) (hK : RK kinds teeth s) (hy : play = s 59) (hp : p < n) (k4 : Int32 → Int32 → Option Int32) (c : Nat) : f_X0_overlaps_16 x y0 kinds teeth (iN n) play k4 FU (iN c) (iN p) (iN (p + 1)) = k4 (iN (c + sm (fun k => oS s p (p + 1 + k)) (n - (p + 1)))) (iN (p + 1)) := by
  have h9 := hs.2.1
  refine lp_sum (F := fun fu j c => f_X0_overlaps_16 x y0 kinds teeth (iN n) play k4 fu (iN c) (iN p) (iN j)) (a := p + 1) (d := n - (p + 1)) (fun q => oS s p q) (fun c => k4 (iN c) (iN (p + 1))) ?_ ?_ FU c (FU_lt (by omega))
  · intro fu q c h1 h2
    show f_X0_overlaps_16b x y0 kinds teeth (iN n) play k4 (f_X0_overlaps_16 x y0 kinds teeth (iN n) play k4 fu) (iN c) (iN p) (iN q) = _
    unfold f_X0_overlaps_16b
    simp (disch := omega) only [↓lt_eq, ↓rd_n, ↓rd_l, ↓rd_a, ↓rd_s, ↓rd_sl, ↓rd_c, ↓rd_m, ↓rd_i, ↓wrI_n, ↓wrI_l, ↓wrI_a, ↓wrI_s, ↓wrI_sl, ↓wrI_c, ↓wrI_m, ↓wrI_i, ↓wrJ_n, ↓wrZ_n, ↓Option.bind_some, ↓reduceIte, Nat.reduceEqDiff, Nat.reduceLeDiff, Nat.reduceLT, Nat.reduceAdd, Nat.reduceMul, Nat.reduceSub, Nat.reduceDiv, Nat.reduceMod, eq_self, and_true, true_and, or_true, true_or, and_false, false_and, or_false, false_or, not_true_eq_false, not_false_eq_true, and_self, or_self, Bool.false_eq_true, reduceCtorEq, decide_true, decide_false, Nat.zero_le, Nat.le_refl, Nat.lt_irrefl, Nat.not_lt_zero, Nat.zero_ne_one, Nat.one_ne_zero, iN_lit, iN_add, iN_mul, iN_le, iN_lt, iN_eq, iN_m1, m1_iN, m1_le, le_m1, m1_lt, lt_m1, m1_m1, not_le_of (show q < n by omega)]
    rw [s_overlaps27 hs hX hK hy (by omega) (by omega)]
  · intro fu c
    rw [show p + 1 + (n - (p + 1)) = n by omega]
    show f_X0_overlaps_16b x y0 kinds teeth (iN n) play k4 (f_X0_overlaps_16 x y0 kinds teeth (iN n) play k4 fu) (iN c) (iN p) (iN n) = _
    unfold f_X0_overlaps_16b
    simp (disch := omega) only [↓lt_eq, ↓rd_n, ↓rd_l, ↓rd_a, ↓rd_s, ↓rd_sl, ↓rd_c, ↓rd_m, ↓rd_i, ↓wrI_n, ↓wrI_l, ↓wrI_a, ↓wrI_s, ↓wrI_sl, ↓wrI_c, ↓wrI_m, ↓wrI_i, ↓wrJ_n, ↓wrZ_n, ↓Option.bind_some, ↓reduceIte, Nat.reduceEqDiff, Nat.reduceLeDiff, Nat.reduceLT, Nat.reduceAdd, Nat.reduceMul, Nat.reduceSub, Nat.reduceDiv, Nat.reduceMod, eq_self, and_true, true_and, or_true, true_or, and_false, false_and, or_false, false_or, not_true_eq_false, not_false_eq_true, and_self, or_self, Bool.false_eq_true, reduceCtorEq, decide_true, decide_false, Nat.zero_le, Nat.le_refl, Nat.lt_irrefl, Nat.not_lt_zero, Nat.zero_ne_one, Nat.one_ne_zero, iN_lit, iN_add, iN_mul, iN_le, iN_lt, iN_eq, iN_m1, m1_iN, m1_le, le_m1, m1_lt, lt_m1, m1_m1]
theorem s_overlapsC {x y0 kinds teeth s : Nat → Int32} {play : Int32} {n : Nat} (hs : Good s n) (hX : RX x y0 s) (hK : RK kinds teeth s) (hy : play = s 59) : f_X0_overlaps x y0 kinds teeth (iN n) play = some (iN (wS s n 9)) := by
  have h9 := hs.2.1
  have h := lp_sum0 (F := fun fu j c => f_X0_overlaps_4 x y0 kinds teeth (iN n) play fu (iN c) (iN j)) (d := n) (fun p => sm (fun k => oS s p (p + 1 + k)) (n - (p + 1))) (fun c => some (iN c)) ?_ ?_ FU 0 (FU_lt (by omega))
  · refine Eq.trans h ?_
    rw [Nat.zero_add, sm_tri]
    congr 2
    unfold wS
    refine sm_congr (fun p hp => ?_)
    simp only [show ¬ 9 < 3 by omega, if_false, if_true, Nat.zero_add, show ¬ 9 = 3 by omega]
    exact sm_congr (fun q hq => oS_symm hs (by omega) (by omega))
  · intro fu p c hp
    show f_X0_overlaps_4b x y0 kinds teeth (iN n) play (f_X0_overlaps_4 x y0 kinds teeth (iN n) play fu) (iN c) (iN p) = _
    unfold f_X0_overlaps_4b
    simp (disch := omega) only [↓lt_eq, ↓rd_n, ↓rd_l, ↓rd_a, ↓rd_s, ↓rd_sl, ↓rd_c, ↓rd_m, ↓rd_i, ↓wrI_n, ↓wrI_l, ↓wrI_a, ↓wrI_s, ↓wrI_sl, ↓wrI_c, ↓wrI_m, ↓wrI_i, ↓wrJ_n, ↓wrZ_n, ↓Option.bind_some, ↓reduceIte, Nat.reduceEqDiff, Nat.reduceLeDiff, Nat.reduceLT, Nat.reduceAdd, Nat.reduceMul, Nat.reduceSub, Nat.reduceDiv, Nat.reduceMod, eq_self, and_true, true_and, or_true, true_or, and_false, false_and, or_false, false_or, not_true_eq_false, not_false_eq_true, and_self, or_self, Bool.false_eq_true, reduceCtorEq, decide_true, decide_false, Nat.zero_le, Nat.le_refl, Nat.lt_irrefl, Nat.not_lt_zero, Nat.zero_ne_one, Nat.one_ne_zero, iN_lit, iN_add, iN_mul, iN_le, iN_lt, iN_eq, iN_m1, m1_iN, m1_le, le_m1, m1_lt, lt_m1, m1_m1, not_le_of hp]
    rw [s_overlaps16 hs hX hK hy hp]
  · intro fu c
    show f_X0_overlaps_4b x y0 kinds teeth (iN n) play (f_X0_overlaps_4 x y0 kinds teeth (iN n) play fu) (iN c) (iN n) = _
    unfold f_X0_overlaps_4b
    simp (disch := omega) only [↓lt_eq, ↓rd_n, ↓rd_l, ↓rd_a, ↓rd_s, ↓rd_sl, ↓rd_c, ↓rd_m, ↓rd_i, ↓wrI_n, ↓wrI_l, ↓wrI_a, ↓wrI_s, ↓wrI_sl, ↓wrI_c, ↓wrI_m, ↓wrI_i, ↓wrJ_n, ↓wrZ_n, ↓Option.bind_some, ↓reduceIte, Nat.reduceEqDiff, Nat.reduceLeDiff, Nat.reduceLT, Nat.reduceAdd, Nat.reduceMul, Nat.reduceSub, Nat.reduceDiv, Nat.reduceMod, eq_self, and_true, true_and, or_true, true_or, and_false, false_and, or_false, false_or, not_true_eq_false, not_false_eq_true, and_self, or_self, Bool.false_eq_true, reduceCtorEq, decide_true, decide_false, Nat.zero_le, Nat.le_refl, Nat.lt_irrefl, Nat.not_lt_zero, Nat.zero_ne_one, Nat.one_ne_zero, iN_lit, iN_add, iN_mul, iN_le, iN_lt, iN_eq, iN_m1, m1_iN, m1_le, le_m1, m1_lt, lt_m1, m1_m1]
/-- the one place where something is so -/
theorem lp_find {ρ : Type} {F : Nat → Nat → ρ} {N : Nat} (P : Nat → Bool) (u : Nat → ρ) (v : ρ) (hs : ∀ n j, j < N → F (n + 1) j = if P j = true then u j else F n (j + 1)) (he : ∀ n, F (n + 1) N = v) : ∀ (n : Nat), N < n → ((∀ j, j < N → P j = false) → F n 0 = v) ∧ ∀ j, j < N → P j = true → (∀ i, i < N → P i = true → i = j) → F n 0 = u j := by
  have key : ∀ (d n i : Nat), i + d = N → d < n → ((∀ j, i ≤ j → j < N → P j = false) → F n i = v) ∧ ∀ j, i ≤ j → j < N → P j = true → (∀ i, i < N → P i = true → i = j) → F n i = u j := by
    intro d
    induction d with
    | zero =>
      intro n i hj hn
      obtain ⟨m, rfl⟩ : ∃ m, n = m + 1 := ⟨n - 1, by omega⟩
      have hj : i = N := by omega
      subst hj
      exact ⟨fun _ => he m, fun j h1 h2 => by omega⟩
    | succ d ih =>
      intro n i hj hn
      obtain ⟨m, rfl⟩ : ∃ m, n = m + 1 := ⟨n - 1, by omega⟩
      obtain ⟨ih1, ih2⟩ := ih m (i + 1) (by omega) (by omega)
      rw [hs m i (by omega)]
      constructor
      · intro h
        rw [if_neg (by rw [h i (by omega) (by omega)]; simp)]
        exact ih1 (fun j h1 h2 => h j (by omega) h2)
      · intro j h1 h2 h3 h4
        by_cases hp : P i = true
        · rw [if_pos hp, h4 i (by omega) hp]
        · rw [if_neg hp]
          have : i ≠ j := fun e => hp (by rw [e]; exact h3)
          exact ih2 j (by omega) h2 h3 h4
  intro n hn
  obtain ⟨h1, h2⟩ := key N n 0 (by omega) hn
  exact ⟨fun h => h1 (fun j _ hj => h j hj), fun j hj => h2 j (by omega) hj⟩
/-- the last one where something is so -/
theorem lp_last {ρ : Type} {F : Nat → Nat → Int32 → ρ} {N : Nat} (P : Nat → Bool) (K : Int32 → ρ) (hs : ∀ n j c, j < N → F (n + 1) j c = F n (j + 1) (if P j = true then iN j else c)) (he : ∀ n c, F (n + 1) N c = K c) : ∀ (n : Nat) (c : Int32), N < n → ((∀ j, j < N → P j = false) → F n 0 c = K c) ∧ ∀ j, j < N → P j = true → (∀ i, i < N → P i = true → i = j) → F n 0 c = K (iN j) := by
  have key : ∀ (d n i : Nat) (c : Int32), i + d = N → d < n → ((∀ j, i ≤ j → j < N → P j = false) → F n i c = K c) ∧ ∀ j, i ≤ j → j < N → P j = true → (∀ i, i < N → P i = true → i = j) → F n i c = K (iN j) := by
    intro d
    induction d with
    | zero =>
      intro n i c hj hn
      obtain ⟨m, rfl⟩ : ∃ m, n = m + 1 := ⟨n - 1, by omega⟩
      have hj : i = N := by omega
      subst hj
      exact ⟨fun _ => he m c, fun j h1 h2 => by omega⟩
    | succ d ih =>
      intro n i c hj hn
      obtain ⟨m, rfl⟩ : ∃ m, n = m + 1 := ⟨n - 1, by omega⟩
      obtain ⟨ih1, ih2⟩ := ih m (i + 1) (if P i = true then iN i else c) (by omega) (by omega)
      rw [hs m i c (by omega)]
      constructor
      · intro h
        have h0 := h i (by omega) (by omega)
        have := ih1 (fun j h1 h2 => h j (by omega) h2)
        rw [this, h0]
        rfl
      · intro j h1 h2 h3 h4
        by_cases hp : P i = true
        · have e := h4 i (by omega) hp
          subst e
          have hn : ∀ j, i + 1 ≤ j → j < N → P j = false := fun j h5 h6 => by
            cases hq : P j
            · rfl
            · have := h4 j h6 hq
              omega
          rw [ih1 hn, if_pos hp]
        · have : i ≠ j := fun e => hp (by rw [e]; exact h3)
          exact ih2 j (by omega) h2 h3 h4
  intro n c hn
  obtain ⟨h1, h2⟩ := key N n 0 c (by omega) hn
  exact ⟨fun h => h1 (fun j _ hj => h j hj), fun j hj => h2 j (by omega) hj⟩
def atP (s : Nat → Int32) (px py : Int32) (p : Nat) : Bool := decide (s (1 + p) = px) && decide (s (10 + p) = py)
theorem atP_iff {s : Nat → Int32} {px py : Int32} {p : Nat} : atP s px py p = true ↔ s (1 + p) = px ∧ s (10 + p) = py := by simp [atP]
theorem atP_one {s : Nat → Int32} {n : Nat} (hs : Dst s n) {px py : Int32} {p q : Nat} (hp : p < n) (hq : q < n) (h1 : atP s px py p = true) (h2 : atP s px py q = true) : q = p := by
  rw [atP_iff] at h1 h2
  exact hs q p hq hp (h2.1.trans h1.1.symm) (h2.2.trans h1.2.symm)
theorem s_pegAtC {x y0 s : Nat → Int32} {n : Nat} (hs : Good s n) (hd : Dst s n) (hX : RX x y0 s) (px py : Int32) : ((∀ p, p < n → atP s px py p = false) → f_X0_pegAt x y0 (iN n) px py = some (-iN 1)) ∧ ∀ p, p < n → atP s px py p = true → f_X0_pegAt x y0 (iN n) px py = some (iN p) := by
  have h9 := hs.2.1
  have h := lp_find (F := fun fu j => f_X0_pegAt_2 x y0 (iN n) px py fu (iN j)) (N := n) (atP s px py) (fun j => some (iN j)) (some (-iN 1)) ?_ ?_ FU (FU_lt (by omega))
  · exact ⟨h.1, fun p hp h1 => h.2 p hp h1 (fun i hi h2 => atP_one hd hp hi h1 h2)⟩
  · intro fu j hj
    have a := hX j (by omega)
    show f_X0_pegAt_2b x y0 (iN n) px py (f_X0_pegAt_2 x y0 (iN n) px py fu) (iN j) = _
    unfold f_X0_pegAt_2b f_X0_pegAt_32
    simp (disch := omega) only [↓lt_eq, ↓rd_n, ↓rd_l, ↓rd_a, ↓rd_s, ↓rd_sl, ↓rd_c, ↓rd_m, ↓rd_i, ↓wrI_n, ↓wrI_l, ↓wrI_a, ↓wrI_s, ↓wrI_sl, ↓wrI_c, ↓wrI_m, ↓wrI_i, ↓wrJ_n, ↓wrZ_n, ↓Option.bind_some, ↓reduceIte, Nat.reduceEqDiff, Nat.reduceLeDiff, Nat.reduceLT, Nat.reduceAdd, Nat.reduceMul, Nat.reduceSub, Nat.reduceDiv, Nat.reduceMod, eq_self, and_true, true_and, or_true, true_or, and_false, false_and, or_false, false_or, not_true_eq_false, not_false_eq_true, and_self, or_self, Bool.false_eq_true, reduceCtorEq, decide_true, decide_false, Nat.zero_le, Nat.le_refl, Nat.lt_irrefl, Nat.not_lt_zero, Nat.zero_ne_one, Nat.one_ne_zero, iN_lit, iN_add, iN_mul, iN_le, iN_lt, iN_eq, iN_m1, m1_iN, m1_le, le_m1, m1_lt, lt_m1, m1_m1, not_le_of hj, a.1, a.2]
    unfold atP
    by_cases h1 : s (1 + j) = px <;> by_cases h2 : s (10 + j) = py <;> simp [h1, h2]
  · intro fu
    show f_X0_pegAt_2b x y0 (iN n) px py (f_X0_pegAt_2 x y0 (iN n) px py fu) (iN n) = _
    unfold f_X0_pegAt_2b
    simp (disch := omega) only [↓lt_eq, ↓rd_n, ↓rd_l, ↓rd_a, ↓rd_s, ↓rd_sl, ↓rd_c, ↓rd_m, ↓rd_i, ↓wrI_n, ↓wrI_l, ↓wrI_a, ↓wrI_s, ↓wrI_sl, ↓wrI_c, ↓wrI_m, ↓wrI_i, ↓wrJ_n, ↓wrZ_n, ↓Option.bind_some, ↓reduceIte, Nat.reduceEqDiff, Nat.reduceLeDiff, Nat.reduceLT, Nat.reduceAdd, Nat.reduceMul, Nat.reduceSub, Nat.reduceDiv, Nat.reduceMod, eq_self, and_true, true_and, or_true, true_or, and_false, false_and, or_false, false_or, not_true_eq_false, not_false_eq_true, and_self, or_self, Bool.false_eq_true, reduceCtorEq, decide_true, decide_false, Nat.zero_le, Nat.le_refl, Nat.lt_irrefl, Nat.not_lt_zero, Nat.zero_ne_one, Nat.one_ne_zero, iN_lit, iN_add, iN_mul, iN_le, iN_lt, iN_eq, iN_m1, m1_iN, m1_le, le_m1, m1_lt, lt_m1, m1_m1]
theorem s_pegAtM {s : Nat → Int32} {n : Nat} (hs : Good s n) (hd : Dst s n) (px py : Int32) : ((∀ p, p < n → atP s px py p = false) → f_X6_pegAt s px py = some (-iN 1)) ∧ ∀ p, p < n → atP s px py p = true → f_X6_pegAt s px py = some (iN p) := by
  have h9 := hs.2.1
  have h := lp_last (F := fun fu j c => f_X6_pegAt_5 s px py fu c (iN j)) (N := n) (atP s px py) (fun c => some c) ?_ ?_ FU (-iN 1) (FU_lt (by omega))
  · exact ⟨h.1, fun p hp h1 => h.2 p hp h1 (fun i hi h2 => atP_one hd hp hi h1 h2)⟩
  · intro fu j c hj
    show f_X6_pegAt_5b s px py (f_X6_pegAt_5 s px py fu) c (iN j) = _
    unfold f_X6_pegAt_5b f_X6_pegAt_48 f_X6_pegAt_49
    simp (disch := omega) only [hs.1, ↓lt_eq, ↓rd_n, ↓rd_l, ↓rd_a, ↓rd_s, ↓rd_sl, ↓rd_c, ↓rd_m, ↓rd_i, ↓wrI_n, ↓wrI_l, ↓wrI_a, ↓wrI_s, ↓wrI_sl, ↓wrI_c, ↓wrI_m, ↓wrI_i, ↓wrJ_n, ↓wrZ_n, ↓Option.bind_some, ↓reduceIte, Nat.reduceEqDiff, Nat.reduceLeDiff, Nat.reduceLT, Nat.reduceAdd, Nat.reduceMul, Nat.reduceSub, Nat.reduceDiv, Nat.reduceMod, eq_self, and_true, true_and, or_true, true_or, and_false, false_and, or_false, false_or, not_true_eq_false, not_false_eq_true, and_self, or_self, Bool.false_eq_true, reduceCtorEq, decide_true, decide_false, Nat.zero_le, Nat.le_refl, Nat.lt_irrefl, Nat.not_lt_zero, Nat.zero_ne_one, Nat.one_ne_zero, iN_lit, iN_add, iN_mul, iN_le, iN_lt, iN_eq, iN_m1, m1_iN, m1_le, le_m1, m1_lt, lt_m1, m1_m1, not_le_of hj]
    unfold atP
    by_cases h1 : s (1 + j) = px <;> by_cases h2 : s (10 + j) = py <;> simp [h1, h2]
  · intro fu c
    show f_X6_pegAt_5b s px py (f_X6_pegAt_5 s px py fu) c (iN n) = _
    unfold f_X6_pegAt_5b
    simp (disch := omega) only [hs.1, ↓lt_eq, ↓rd_n, ↓rd_l, ↓rd_a, ↓rd_s, ↓rd_sl, ↓rd_c, ↓rd_m, ↓rd_i, ↓wrI_n, ↓wrI_l, ↓wrI_a, ↓wrI_s, ↓wrI_sl, ↓wrI_c, ↓wrI_m, ↓wrI_i, ↓wrJ_n, ↓wrZ_n, ↓Option.bind_some, ↓reduceIte, Nat.reduceEqDiff, Nat.reduceLeDiff, Nat.reduceLT, Nat.reduceAdd, Nat.reduceMul, Nat.reduceSub, Nat.reduceDiv, Nat.reduceMod, eq_self, and_true, true_and, or_true, true_or, and_false, false_and, or_false, false_or, not_true_eq_false, not_false_eq_true, and_self, or_self, Bool.false_eq_true, reduceCtorEq, decide_true, decide_false, Nat.zero_le, Nat.le_refl, Nat.lt_irrefl, Nat.not_lt_zero, Nat.zero_ne_one, Nat.one_ne_zero, iN_lit, iN_add, iN_mul, iN_le, iN_lt, iN_eq, iN_m1, m1_iN, m1_le, le_m1, m1_lt, lt_m1, m1_m1]
