/-! sums; what the class counts of a bench, and the reference -/
def sm (f : Nat → Nat) : Nat → Nat
  | 0 => 0
  | n + 1 => sm f n + f n
theorem sm_congr {f g : Nat → Nat} {n : Nat} (h : ∀ j, j < n → f j = g j) : sm f n = sm g n := by
  induction n with
  | zero => rfl
  | succ n ih => simp only [sm]; rw [ih (fun j hj => h j (by omega)), h n (by omega)]
theorem sm_cnt (P : Nat → Bool) (n : Nat) : sm (fun j => (P j).toNat) n = cnt P n := by
  induction n with
  | zero => rfl
  | succ n ih => simp only [sm, cnt]; rw [ih]
theorem sm_add (f g : Nat → Nat) (n : Nat) : sm (fun j => f j + g j) n = sm f n + sm g n := by
  induction n with
  | zero => rfl
  | succ n ih => simp only [sm]; rw [ih]; omega
theorem sm_shift (f : Nat → Nat) (n : Nat) : sm f (n + 1) = f 0 + sm (fun j => f (j + 1)) n := by
  induction n with
  | zero => simp [sm]
  | succ n ih => rw [sm, ih]; simp only [sm]; omega
/-- over the pairs, once by the lesser first and once by the greater -/
theorem sm_tri (f : Nat → Nat → Nat) (n : Nat) : sm (fun i => sm (fun k => f i (i + 1 + k)) (n - (i + 1))) n = sm (fun j => sm (fun i => f i j) j) n := by
  induction n with
  | zero => rfl
  | succ n ih =>
    simp only [sm]
    rw [← ih, show n + 1 - (n + 1) = 0 by omega]
    have h : sm (fun i => sm (fun k => f i (i + 1 + k)) (n + 1 - (i + 1))) n = sm (fun i => sm (fun k => f i (i + 1 + k)) (n - (i + 1)) + f i n) n := sm_congr (fun j hj => by
      rw [show n + 1 - (j + 1) = n - (j + 1) + 1 by omega]
      simp only [sm]
      rw [show j + 1 + (n - (j + 1)) = n by omega])
    rw [h, sm_add]
    simp only [sm]
    omega
/-- a symmetric count is twice its half -/
theorem sm_half (f : Nat → Nat → Nat) (n : Nat) (hs : ∀ i j, i < n → j < n → f i j = f j i) (h0 : ∀ i, i < n → f i i = 0) : sm (fun i => sm (fun j => f i j) n) n = 2 * sm (fun j => sm (fun i => f j i) j) n := by
  induction n with
  | zero => rfl
  | succ n ih =>
    simp only [sm]
    have h1 := ih (fun i j hi hj => hs i j (by omega) (by omega)) (fun i hi => h0 i (by omega))
    have h2 : sm (fun i => sm (fun j => f i j) n + f i n) n = _ := sm_add _ _ n
    rw [h2, h1, h0 n (by omega)]
    have h3 : sm (fun i => f i n) n = sm (fun i => f n i) n := sm_congr (fun j hj => hs j n (by omega) (by omega))
    rw [h3]
    omega
theorem lp_sum {ρ : Type} {F : Nat → Nat → Nat → Option ρ} {a d : Nat} (f : Nat → Nat) (K : Nat → Option ρ) (hs : ∀ n j c, a ≤ j → j < a + d → F (n + 1) j c = F n (j + 1) (c + f j)) (he : ∀ n c, F (n + 1) (a + d) c = K c) : ∀ (n c : Nat), d < n → F n a c = K (c + sm (fun k => f (a + k)) d) := by
  have key : ∀ (e i n c : Nat), i + e = d → e < n → F n (a + i) (c + sm (fun k => f (a + k)) i) = K (c + sm (fun k => f (a + k)) d) := by
    intro e
    induction e with
    | zero =>
      intro i n c hj hn
      obtain ⟨m, rfl⟩ : ∃ m, n = m + 1 := ⟨n - 1, by omega⟩
      have hj : i = d := by omega
      subst hj
      exact he m _
    | succ e ih =>
      intro i n c hj hn
      obtain ⟨m, rfl⟩ : ∃ m, n = m + 1 := ⟨n - 1, by omega⟩
      rw [hs m (a + i) _ (by omega) (by omega)]
      have h := ih (i + 1) m c (by omega) (by omega)
      simp only [sm, ← Nat.add_assoc] at h
      exact h
  intro n c hn
  exact key d 0 n c (by omega) hn
/-- a loop from 0 -/
theorem lp_sum0 {ρ : Type} {F : Nat → Nat → Nat → Option ρ} {d : Nat} (f : Nat → Nat) (K : Nat → Option ρ) (hs : ∀ n j c, j < d → F (n + 1) j c = F n (j + 1) (c + f j)) (he : ∀ n c, F (n + 1) d c = K c) (n c : Nat) (hn : d < n) : F n 0 c = K (c + sm f d) := by
  have h := lp_sum (F := F) (a := 0) (d := d) f K (fun n j c _ h => hs n j c (by omega)) (by rw [Nat.zero_add]; exact he) n c hn
  simp only [Nat.zero_add] at h
  exact h
/-- a search -/
theorem lp_any {ρ : Type} {F : Nat → Nat → Option ρ} {N : Nat} (P : Nat → Bool) (u v : Option ρ) (hs : ∀ n j, j < N → F (n + 1) j = if P j = true then u else F n (j + 1)) (he : ∀ n, F (n + 1) N = v) : ∀ (n : Nat), N < n → F n 0 = if cnt P N = 0 then v else u := by
  have key : ∀ (d n j : Nat), j + d = N → d < n → cnt P j = 0 → F n j = if cnt P N = 0 then v else u := by
    intro d
    induction d with
    | zero =>
      intro n j hj hn h0
      obtain ⟨m, rfl⟩ : ∃ m, n = m + 1 := ⟨n - 1, by omega⟩
      have hj : j = N := by omega
      subst hj
      rw [he, if_pos h0]
    | succ d ih =>
      intro n j hj hn h0
      obtain ⟨m, rfl⟩ : ∃ m, n = m + 1 := ⟨n - 1, by omega⟩
      rw [hs m j (by omega)]
      cases hp : P j
      · rw [if_neg (by simp)]
        exact ih m (j + 1) (by omega) (by omega) (by simp only [cnt]; rw [hp, h0]; rfl)
      · rw [if_pos rfl, if_neg]
        intro h
        have := cnt_zero.mp h j (by omega)
        rw [hp] at this
        cases this
  intro n hn
  exact key N n 0 (by omega) hn rfl
section
variable {x y0 kinds teeth s : Nat → Int32} {play : Int32} {n p q l : Nat}
theorem s_fits (hs : Good s n) (hX : RX x y0 s) (hK : RK kinds teeth s) (hy : play = s 59) (hp : p < 9) (hl : l < 2) : f_X0_fits x y0 kinds teeth (iN n) play (iN p) (iN l) = some (b2 (decide (cnt (fun q => tS s p q l false) n = 0))) := by
  have h9 := hs.2.1
  have h := lp_any (F := fun fu j => f_X0_fits_2 x y0 kinds teeth (iN n) play (iN p) (iN l) fu (iN j)) (N := n) (fun q => tS s p q l false) (some (iN 0)) (some (iN 1)) ?_ ?_ FU (FU_lt (by omega))
  · unfold f_X0_fits
    refine h.trans ?_
    by_cases h0 : cnt (fun q => tS s p q l false) n = 0 <;> simp [h0, b2]
  · intro fu j hj
    have m := s_areOverlapping hs hX hK hy hp (show j < 9 by omega) hl
    show f_X0_fits_2b x y0 kinds teeth (iN n) play (iN p) (iN l) (f_X0_fits_2 x y0 kinds teeth (iN n) play (iN p) (iN l) fu) (iN j) = _
    unfold f_X0_fits_2b
    simp (disch := omega) only [↓bd m, ↓lt_eq, ↓rd_n, ↓rd_l, ↓rd_a, ↓rd_s, ↓rd_sl, ↓rd_c, ↓rd_m, ↓rd_i, ↓wrI_n, ↓wrI_l, ↓wrI_a, ↓wrI_s, ↓wrI_sl, ↓wrI_c, ↓wrI_m, ↓wrI_i, ↓wrJ_n, ↓wrZ_n, ↓Option.bind_some, ↓reduceIte, Nat.reduceEqDiff, Nat.reduceLeDiff, Nat.reduceLT, Nat.reduceAdd, Nat.reduceMul, Nat.reduceSub, Nat.reduceDiv, Nat.reduceMod, eq_self, and_true, true_and, or_true, true_or, and_false, false_and, or_false, false_or, not_true_eq_false, not_false_eq_true, and_self, or_self, Bool.false_eq_true, reduceCtorEq, decide_true, decide_false, Nat.zero_le, Nat.le_refl, Nat.lt_irrefl, Nat.not_lt_zero, Nat.zero_ne_one, Nat.one_ne_zero, iN_lit, iN_add, iN_mul, iN_le, iN_lt, iN_eq, iN_m1, m1_iN, m1_le, le_m1, m1_lt, lt_m1, m1_m1, not_le_of hj]
    cases tS s p j l false <;> rfl
  · intro fu
    show f_X0_fits_2b x y0 kinds teeth (iN n) play (iN p) (iN l) (f_X0_fits_2 x y0 kinds teeth (iN n) play (iN p) (iN l) fu) (iN n) = _
    unfold f_X0_fits_2b
    simp (disch := omega) only [↓lt_eq, ↓rd_n, ↓rd_l, ↓rd_a, ↓rd_s, ↓rd_sl, ↓rd_c, ↓rd_m, ↓rd_i, ↓wrI_n, ↓wrI_l, ↓wrI_a, ↓wrI_s, ↓wrI_sl, ↓wrI_c, ↓wrI_m, ↓wrI_i, ↓wrJ_n, ↓wrZ_n, ↓Option.bind_some, ↓reduceIte, Nat.reduceEqDiff, Nat.reduceLeDiff, Nat.reduceLT, Nat.reduceAdd, Nat.reduceMul, Nat.reduceSub, Nat.reduceDiv, Nat.reduceMod, eq_self, and_true, true_and, or_true, true_or, and_false, false_and, or_false, false_or, not_true_eq_false, not_false_eq_true, and_self, or_self, Bool.false_eq_true, reduceCtorEq, decide_true, decide_false, Nat.zero_le, Nat.le_refl, Nat.lt_irrefl, Nat.not_lt_zero, Nat.zero_ne_one, Nat.one_ne_zero, iN_lit, iN_add, iN_mul, iN_le, iN_lt, iN_eq, iN_m1, m1_iN, m1_le, le_m1, m1_lt, lt_m1, m1_m1]
theorem s_meshesOnLevel (hs : Good s n) (hX : RX x y0 s) (hK : RK kinds teeth s) (hy : play = s 59) (hp : p < 9) (hl : l < 2) : f_X0_meshesOnLevel x y0 kinds teeth (iN n) play (iN p) (iN l) = some (iN (cnt (fun q => tS s p q l true) n)) := by
  have h9 := hs.2.1
  refine lp_cnt (F := fun fu j c => f_X0_meshesOnLevel_5 x y0 kinds teeth (iN n) play (iN p) (iN l) fu (iN c) (iN j)) (N := n) _ (fun c => some (iN c)) ?_ ?_ FU (FU_lt (by omega))
  · intro fu j c hj
    have m := s_areMeshing hs hX hK hy hp (show j < 9 by omega) hl
    show f_X0_meshesOnLevel_5b x y0 kinds teeth (iN n) play (iN p) (iN l) (f_X0_meshesOnLevel_5 x y0 kinds teeth (iN n) play (iN p) (iN l) fu) (iN c) (iN j) = _
    unfold f_X0_meshesOnLevel_5b f_X0_meshesOnLevel_28
    simp (disch := omega) only [↓bd m, ↓lt_eq, ↓rd_n, ↓rd_l, ↓rd_a, ↓rd_s, ↓rd_sl, ↓rd_c, ↓rd_m, ↓rd_i, ↓wrI_n, ↓wrI_l, ↓wrI_a, ↓wrI_s, ↓wrI_sl, ↓wrI_c, ↓wrI_m, ↓wrI_i, ↓wrJ_n, ↓wrZ_n, ↓Option.bind_some, ↓reduceIte, Nat.reduceEqDiff, Nat.reduceLeDiff, Nat.reduceLT, Nat.reduceAdd, Nat.reduceMul, Nat.reduceSub, Nat.reduceDiv, Nat.reduceMod, eq_self, and_true, true_and, or_true, true_or, and_false, false_and, or_false, false_or, not_true_eq_false, not_false_eq_true, and_self, or_self, Bool.false_eq_true, reduceCtorEq, decide_true, decide_false, Nat.zero_le, Nat.le_refl, Nat.lt_irrefl, Nat.not_lt_zero, Nat.zero_ne_one, Nat.one_ne_zero, iN_lit, iN_add, iN_mul, iN_le, iN_lt, iN_eq, iN_m1, m1_iN, m1_le, le_m1, m1_lt, lt_m1, m1_m1, not_le_of hj]
    cases tS s p j l true <;> rfl
  · intro fu c
    show f_X0_meshesOnLevel_5b x y0 kinds teeth (iN n) play (iN p) (iN l) (f_X0_meshesOnLevel_5 x y0 kinds teeth (iN n) play (iN p) (iN l) fu) (iN c) (iN n) = _
    unfold f_X0_meshesOnLevel_5b
    simp (disch := omega) only [↓lt_eq, ↓rd_n, ↓rd_l, ↓rd_a, ↓rd_s, ↓rd_sl, ↓rd_c, ↓rd_m, ↓rd_i, ↓wrI_n, ↓wrI_l, ↓wrI_a, ↓wrI_s, ↓wrI_sl, ↓wrI_c, ↓wrI_m, ↓wrI_i, ↓wrJ_n, ↓wrZ_n, ↓Option.bind_some, ↓reduceIte, Nat.reduceEqDiff, Nat.reduceLeDiff, Nat.reduceLT, Nat.reduceAdd, Nat.reduceMul, Nat.reduceSub, Nat.reduceDiv, Nat.reduceMod, eq_self, and_true, true_and, or_true, true_or, and_false, false_and, or_false, false_or, not_true_eq_false, not_false_eq_true, and_self, or_self, Bool.false_eq_true, reduceCtorEq, decide_true, decide_false, Nat.zero_le, Nat.le_refl, Nat.lt_irrefl, Nat.not_lt_zero, Nat.zero_ne_one, Nat.one_ne_zero, iN_lit, iN_add, iN_mul, iN_le, iN_lt, iN_eq, iN_m1, m1_iN, m1_le, le_m1, m1_lt, lt_m1, m1_m1]
end
/-- the reference counts the same on a level -/
theorem mS_bit0 (s : Nat → Int32) (p q : Nat) : decide (0 < mS s p q &&& 1) = tS s p q 0 true := by
  unfold mS
  cases tS s p q 0 true <;> cases tS s p q 1 true <;> rfl
theorem mS_bit1 (s : Nat → Int32) (p q : Nat) : decide (0 < mS s p q &&& 2) = tS s p q 1 true := by
  unfold mS
  cases tS s p q 0 true <;> cases tS s p q 1 true <;> rfl
theorem mS_bits (s : Nat → Int32) (p q : Nat) : decide (0 < mS s p q &&& 3) = decide (0 < mS s p q) := by
  unfold mS
  cases tS s p q 0 true <;> cases tS s p q 1 true <;> rfl
theorem s_partnersL {s : Nat → Int32} {n p l : Nat} (hs : Good s n) (hp : p < 9) (hl : l < 2) : f_X6_partners s (iN p) (1 <<< (iN l &&& 31)) = some (iN (cnt (fun q => tS s p q l true) n)) := by
  rcases (show l = 0 ∨ l = 1 by omega) with rfl | rfl
  · exact (s_partners (lv := 1) hs hp (by omega)).trans (by simp only [mS_bit0])
  · exact (s_partners (lv := 2) hs hp (by omega)).trans (by simp only [mS_bit1])
theorem s_partners3 {s : Nat → Int32} {n p : Nat} (hs : Good s n) (hp : p < 9) : f_X6_partners s (iN p) 3 = some (iN (cnt (fun q => decide (0 < mS s p q)) n)) :=
  (s_partners (lv := 3) hs hp (by omega)).trans (by simp only [mS_bits])
/-- the table of what meshes, as the class keeps it -/
def RM (mesh : Nat → Int32) (s : Nat → Int32) (n : Nat) : Prop := ∀ p q : Nat, p < n → q < n → mesh (p * 9 + q) = iN (mS s p q)
theorem s_levelsOf {mesh s : Nat → Int32} {n p q : Nat} (hs : Good s n) (hM : RM mesh s n) (hp : p < n) (hq : q < n) : f_X4_levelsOf mesh (iN p) (iN q) = some (iN (mS s p q)) := by
  have h9 := hs.2.1
  unfold f_X4_levelsOf
  simp (disch := omega) only [↓lt_eq, ↓rd_n, ↓rd_l, ↓rd_a, ↓rd_s, ↓rd_sl, ↓rd_c, ↓rd_m, ↓rd_i, ↓wrI_n, ↓wrI_l, ↓wrI_a, ↓wrI_s, ↓wrI_sl, ↓wrI_c, ↓wrI_m, ↓wrI_i, ↓wrJ_n, ↓wrZ_n, ↓Option.bind_some, ↓reduceIte, Nat.reduceEqDiff, Nat.reduceLeDiff, Nat.reduceLT, Nat.reduceAdd, Nat.reduceMul, Nat.reduceSub, Nat.reduceDiv, Nat.reduceMod, eq_self, and_true, true_and, or_true, true_or, and_false, false_and, or_false, false_or, not_true_eq_false, not_false_eq_true, and_self, or_self, Bool.false_eq_true, reduceCtorEq, decide_true, decide_false, Nat.zero_le, Nat.le_refl, Nat.lt_irrefl, Nat.not_lt_zero, Nat.zero_ne_one, Nat.one_ne_zero, iN_lit, iN_add, iN_mul, iN_le, iN_lt, iN_eq, iN_m1, m1_iN, m1_le, le_m1, m1_lt, lt_m1, m1_m1, hM p q hp hq]
theorem s_meshOnLevel {mesh s : Nat → Int32} {n p q l : Nat} (hs : Good s n) (hM : RM mesh s n) (hp : p < n) (hq : q < n) (hl : l < 2) : f_X4_meshOnLevel mesh (iN p) (iN q) (iN l) = some (b2 (tS s p q l true)) := by
  unfold f_X4_meshOnLevel
  rw [bd (s_levelsOf hs hM hp hq)]
  unfold mS
  rcases (show l = 0 ∨ l = 1 by omega) with rfl | rfl <;> cases tS s p q 0 true <;> cases tS s p q 1 true <;> rfl
theorem s_neighbours {mesh s : Nat → Int32} {n p : Nat} (hs : Good s n) (hM : RM mesh s n) (hp : p < n) : f_X4_neighbours mesh (iN n) (iN p) = some (iN (cnt (fun q => decide (0 < mS s p q)) n)) := by
  have h9 := hs.2.1
  refine lp_cnt (F := fun fu j c => f_X4_neighbours_5 mesh (iN n) (iN p) fu (iN c) (iN j)) (N := n) _ (fun c => some (iN c)) ?_ ?_ FU (FU_lt (by omega))
  · intro fu j c hj
    have m := s_levelsOf hs hM hp hj
    have m4 := mS_lt s p j
    show f_X4_neighbours_5b mesh (iN n) (iN p) (f_X4_neighbours_5 mesh (iN n) (iN p) fu) (iN c) (iN j) = _
    unfold f_X4_neighbours_5b f_X4_neighbours_27
    simp (disch := omega) only [↓bd m, ↓lt_eq, ↓rd_n, ↓rd_l, ↓rd_a, ↓rd_s, ↓rd_sl, ↓rd_c, ↓rd_m, ↓rd_i, ↓wrI_n, ↓wrI_l, ↓wrI_a, ↓wrI_s, ↓wrI_sl, ↓wrI_c, ↓wrI_m, ↓wrI_i, ↓wrJ_n, ↓wrZ_n, ↓Option.bind_some, ↓reduceIte, Nat.reduceEqDiff, Nat.reduceLeDiff, Nat.reduceLT, Nat.reduceAdd, Nat.reduceMul, Nat.reduceSub, Nat.reduceDiv, Nat.reduceMod, eq_self, and_true, true_and, or_true, true_or, and_false, false_and, or_false, false_or, not_true_eq_false, not_false_eq_true, and_self, or_self, Bool.false_eq_true, reduceCtorEq, decide_true, decide_false, Nat.zero_le, Nat.le_refl, Nat.lt_irrefl, Nat.not_lt_zero, Nat.zero_ne_one, Nat.one_ne_zero, iN_lit, iN_add, iN_mul, iN_le, iN_lt, iN_eq, iN_m1, m1_iN, m1_le, le_m1, m1_lt, lt_m1, m1_m1, not_le_of hj]
    by_cases h : 0 < mS s p j
    · rw [if_neg (by omega), decide_eq_true h]; rfl
    · rw [if_pos (by omega), decide_eq_false h]; rfl
  · intro fu c
    show f_X4_neighbours_5b mesh (iN n) (iN p) (f_X4_neighbours_5 mesh (iN n) (iN p) fu) (iN c) (iN n) = _
    unfold f_X4_neighbours_5b
    simp (disch := omega) only [↓lt_eq, ↓rd_n, ↓rd_l, ↓rd_a, ↓rd_s, ↓rd_sl, ↓rd_c, ↓rd_m, ↓rd_i, ↓wrI_n, ↓wrI_l, ↓wrI_a, ↓wrI_s, ↓wrI_sl, ↓wrI_c, ↓wrI_m, ↓wrI_i, ↓wrJ_n, ↓wrZ_n, ↓Option.bind_some, ↓reduceIte, Nat.reduceEqDiff, Nat.reduceLeDiff, Nat.reduceLT, Nat.reduceAdd, Nat.reduceMul, Nat.reduceSub, Nat.reduceDiv, Nat.reduceMod, eq_self, and_true, true_and, or_true, true_or, and_false, false_and, or_false, false_or, not_true_eq_false, not_false_eq_true, and_self, or_self, Bool.false_eq_true, reduceCtorEq, decide_true, decide_false, Nat.zero_le, Nat.le_refl, Nat.lt_irrefl, Nat.not_lt_zero, Nat.zero_ne_one, Nat.one_ne_zero, iN_lit, iN_add, iN_mul, iN_le, iN_lt, iN_eq, iN_m1, m1_iN, m1_le, le_m1, m1_lt, lt_m1, m1_m1]
