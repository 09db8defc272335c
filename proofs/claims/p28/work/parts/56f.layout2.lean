/-! the reference's layout, whole -/
abbrev TL : Type := (Nat → Int64) × (Nat → Int64) × (Nat → Int32) × Int32 × Int64 × Int64 × Int32
abbrev TLo : Type := (Nat → Int64) × (Nat → Int64) × (Nat → Int32) × Int32 × Int64 × Int64
theorem s_pass {s : Nat → Int32} {n d : Nat} (hs : Good s n) {J0 : Nat → Bool} {V0 : Nat → Int × Nat} {jm0 : Bool} {D0 : Nat → Nat → Nat → Prop} (h0 : LY s n d J0 V0 jm0 D0) {ab be : Nat → Int64} {jo : Nat → Int32} (hR : RY J0 V0 ab be jo) (k70 : (Nat → Int64) → (Nat → Int64) → (Nat → Int32) → Int32 → Int64 → Int64 → Int32 → Option TLo) (r1 r2 : Int64) :
    ∃ J V jm D ab' be' jo' r1' r2' mo, LY s n d J V jm D ∧ RY J V ab' be' jo' ∧ f_X6_layOut_78 s k70 FU ab be jo (b2 jm0) r1 r2 (iN 0) (iN 0) = k70 ab' be' jo' (b2 jm) r1' r2' (b2 mo) ∧ (mo = false → LF s n J D) ∧ (mo = true → cnt J0 9 < cnt J 9) := by
  have h9 := hs.2.1
  have H := lp_ex (σ := TL) (F := fun fu k σ => f_X6_layOut_78 s k70 fu σ.1 σ.2.1 σ.2.2.1 σ.2.2.2.1 σ.2.2.2.2.1 σ.2.2.2.2.2.1 σ.2.2.2.2.2.2 (iN k)) (N := 162)
    (I := fun k σ => ∃ J V jm D mo, σ.2.2.2.1 = b2 jm ∧ σ.2.2.2.2.2.2 = b2 mo ∧ LY s n d J V jm D ∧ RY J V σ.1 σ.2.1 σ.2.2.1 ∧ cnt J0 9 ≤ cnt J 9 ∧ (mo = true → cnt J0 9 < cnt J 9) ∧ (mo = false → ∀ p q l, 18 * p + 2 * q + l < k → q < 9 → l < 2 → J p = true → q < n → tS s p q l true = true → D p q l))
    (fun σ => k70 σ.1 σ.2.1 σ.2.2.1 σ.2.2.2.1 σ.2.2.2.2.1 σ.2.2.2.2.2.1 σ.2.2.2.2.2.2) ?_ ?_ 162 FU 0 (ab, be, jo, b2 jm0, r1, r2, b2 false) (by omega) (FU_lt (by omega)) ⟨J0, V0, jm0, D0, false, rfl, rfl, h0, hR, Nat.le_refl _, (fun h => by cases h), fun _ p q l hk => by omega⟩
  · obtain ⟨σ, ⟨J, V, jm, D, mo, i1, i2, i3, i4, i5, i6, i7⟩, e⟩ := H
    refine ⟨J, V, jm, D, σ.1, σ.2.1, σ.2.2.1, σ.2.2.2.2.1, σ.2.2.2.2.2.1, mo, i3, i4, ?_, fun hm p q l hp hq hl ht => ?_, i6⟩
    · rw [← i1, ← i2]
      exact e
    · have := i3.1.2.2.2.1 p hp
      exact i7 hm p q l (by omega) (by omega) hl hp hq ht
  · rintro fu k ⟨a1, a2, a3, a4, a5, a6, a7⟩ hk ⟨J, V, jm, D, mo, i1, i2, i3, i4, i5, i6, i7⟩
    simp only at i1 i2 i4
    subst i1
    subst i2
    obtain ⟨J', V', jm', D', ab', be', jo', r1', r2', mo', x1, x2, x3, x4, x5, x6⟩ := s_lay78 hs i3 i4 hk rfl rfl rfl k70 (f_X6_layOut_78 s k70 fu) a5 a6 mo
    refine ⟨(ab', be', jo', b2 jm', r1', r2', b2 mo'), ⟨J', V', jm', D', mo', rfl, rfl, x1, x2, ?_, ?_, ?_⟩, x3⟩
    · rcases x6 with ⟨-, rfl⟩ | ⟨-, h⟩ <;> omega
    · intro hm
      rcases x6 with ⟨rfl, rfl⟩ | ⟨-, h⟩
      · exact i6 hm
      · omega
    · intro hm p q l hlt hq hl hp hqn ht
      rcases x6 with ⟨rfl, rfl⟩ | ⟨h, -⟩
      · rcases Nat.lt_or_ge (18 * p + 2 * q + l) k with hc | hc
        · exact x4 p q l (i7 hm p q l hc hq hl hp hqn ht)
        · have hc : k = 18 * p + 2 * q + l := by omega
          have e1 : k / 18 = p := by omega
          have e2 : k / 2 % 9 = q := by omega
          have e3 : k % 2 = l := by omega
          rw [e1, e2, e3] at x5
          exact x5 hp hqn ht
      · rw [hm] at h
        cases h
  · rintro fu ⟨a1, a2, a3, a4, a5, a6, a7⟩ -
    show f_X6_layOut_78b s k70 (f_X6_layOut_78 s k70 fu) a1 a2 a3 a4 a5 a6 a7 (iN 162) = _
    unfold f_X6_layOut_78b
    simp (disch := omega) only [↓reduceIte, Nat.reduceEqDiff, Nat.reduceLeDiff, Nat.reduceLT, Nat.reduceAdd, Nat.reduceMul, Nat.reduceSub, Nat.reduceDiv, Nat.reduceMod, eq_self, and_true, true_and, or_true, true_or, and_false, false_and, or_false, false_or, not_true_eq_false, not_false_eq_true, and_self, or_self, Bool.false_eq_true, reduceCtorEq, decide_true, decide_false, Nat.zero_le, Nat.le_refl, Nat.lt_irrefl, Nat.not_lt_zero, Nat.zero_ne_one, Nat.one_ne_zero, iN_lit, iN_add, iN_mul, iN_le, iN_lt, iN_eq, iN_m1, m1_iN, m1_le, le_m1, m1_lt, lt_m1, m1_m1]
theorem lay70_0 (s : Nat → Int32) (f : Nat) (ab be : Nat → Int64) (jo : Nat → Int32) (j : Int32) (r1 r2 : Int64) : f_X6_layOut_70 s (f + 1) ab be jo j r1 r2 (iN 0) = f_X6_layOut_320 s FU ab be jo j r1 r2 (iN 0) := by
  show f_X6_layOut_70b s (f_X6_layOut_70 s f) ab be jo j r1 r2 (iN 0) = _
  unfold f_X6_layOut_70b
  simp (disch := omega) only [↓reduceIte, Nat.reduceEqDiff, Nat.reduceLeDiff, Nat.reduceLT, Nat.reduceAdd, Nat.reduceMul, Nat.reduceSub, Nat.reduceDiv, Nat.reduceMod, eq_self, and_true, true_and, or_true, true_or, and_false, false_and, or_false, false_or, not_true_eq_false, not_false_eq_true, and_self, or_self, Bool.false_eq_true, reduceCtorEq, decide_true, decide_false, Nat.zero_le, Nat.le_refl, Nat.lt_irrefl, Nat.not_lt_zero, Nat.zero_ne_one, Nat.one_ne_zero, iN_lit, iN_add, iN_mul, iN_le, iN_lt, iN_eq, iN_m1, m1_iN, m1_le, le_m1, m1_lt, lt_m1, m1_m1]
theorem lay70_1 (s : Nat → Int32) (f : Nat) (ab be : Nat → Int64) (jo : Nat → Int32) (j : Int32) (r1 r2 : Int64) : f_X6_layOut_70 s (f + 1) ab be jo j r1 r2 (iN 1) = f_X6_layOut_78 s (f_X6_layOut_70 s f) FU ab be jo j r1 r2 (iN 0) (iN 0) := by
  show f_X6_layOut_70b s (f_X6_layOut_70 s f) ab be jo j r1 r2 (iN 1) = _
  unfold f_X6_layOut_70b
  simp (disch := omega) only [↓reduceIte, Nat.reduceEqDiff, Nat.reduceLeDiff, Nat.reduceLT, Nat.reduceAdd, Nat.reduceMul, Nat.reduceSub, Nat.reduceDiv, Nat.reduceMod, eq_self, and_true, true_and, or_true, true_or, and_false, false_and, or_false, false_or, not_true_eq_false, not_false_eq_true, and_self, or_self, Bool.false_eq_true, reduceCtorEq, decide_true, decide_false, Nat.zero_le, Nat.le_refl, Nat.lt_irrefl, Nat.not_lt_zero, Nat.zero_ne_one, Nat.one_ne_zero, iN_lit, iN_add, iN_mul, iN_le, iN_lt, iN_eq, iN_m1, m1_iN, m1_le, le_m1, m1_lt, lt_m1, m1_m1]
theorem FU_s : ∃ f, FU = f + 2 := ⟨3998, rfl⟩
theorem s_while {s : Nat → Int32} {n d : Nat} (hs : Good s n) : ∀ (m fu : Nat) {J0 : Nat → Bool} {V0 : Nat → Int × Nat} {jm0 : Bool} {D0 : Nat → Nat → Nat → Prop} {ab be : Nat → Int64} {jo : Nat → Int32} (r1 r2 : Int64), LY s n d J0 V0 jm0 D0 → RY J0 V0 ab be jo → 9 - cnt J0 9 ≤ m → m + 2 ≤ fu →
    ∃ J V jm D ab' be' jo' r1' r2', LY s n d J V jm D ∧ RY J V ab' be' jo' ∧ LF s n J D ∧ f_X6_layOut_70 s fu ab be jo (b2 jm0) r1 r2 (iN 1) = f_X6_layOut_320 s FU ab' be' jo' (b2 jm) r1' r2' (iN 0) := by
  have z1 : (iN 1 = 0) = False := by rw [iN_lit, iN_eq (by omega) (by omega)]; simp
  intro m
  induction m with
  | zero =>
    intro fu J0 V0 jm0 D0 ab be jo r1 r2 h0 hR hm hf
    obtain ⟨f, rfl⟩ : ∃ f, fu = f + 2 := ⟨fu - 2, by omega⟩
    obtain ⟨J, V, jm, D, ab', be', jo', r1', r2', mo, x1, x2, x3, x4, x5⟩ := s_pass hs h0 hR (f_X6_layOut_70 s (f + 1)) r1 r2
    have hmo : mo = false := by
      rcases bdic mo with h | h
      · exact h
      · have := x5 h
        have := cnt_le J 9
        omega
    refine ⟨J, V, jm, D, ab', be', jo', r1', r2', x1, x2, x4 hmo, ?_⟩
    rw [lay70_1, x3, hmo, b2_f, lay70_0]
  | succ m ih =>
    intro fu J0 V0 jm0 D0 ab be jo r1 r2 h0 hR hm hf
    obtain ⟨f, rfl⟩ : ∃ f, fu = f + 2 := ⟨fu - 2, by omega⟩
    obtain ⟨J, V, jm, D, ab', be', jo', r1', r2', mo, x1, x2, x3, x4, x5⟩ := s_pass hs h0 hR (f_X6_layOut_70 s (f + 1)) r1 r2
    have e : f_X6_layOut_70 s (f + 2) ab be jo (b2 jm0) r1 r2 (iN 1) = f_X6_layOut_70 s (f + 1) ab' be' jo' (b2 jm) r1' r2' (b2 mo) := by
      rw [lay70_1, x3]
    rcases bdic mo with hmo | hmo
    · refine ⟨J, V, jm, D, ab', be', jo', r1', r2', x1, x2, x4 hmo, ?_⟩
      rw [e, hmo, b2_f, lay70_0]
    · have hlt := x5 hmo
      obtain ⟨J2, V2, jm2, D2, ab2, be2, jo2, r12, r22, y1, y2, y3, y4⟩ := ih (f + 1) r1' r2' x1 x2 (by omega) (by omega)
      refine ⟨J2, V2, jm2, D2, ab2, be2, jo2, r12, r22, y1, y2, y3, ?_⟩
      rw [e, hmo]
      exact y4
/-- a jam stops all -/
theorem s_lay320 {s : Nat → Int32} (ab be : Nat → Int64) (jo : Nat → Int32) (r1 r2 : Int64) (jm : Bool) : ∃ ab' be', f_X6_layOut_320 s FU ab be jo (b2 jm) r1 r2 (iN 0) = some (ab', be', jo, b2 jm, r1, r2) ∧ ∀ p, p < 9 → ab' p = (if jm = true then jZ 0 else ab p) ∧ be' p = (if jm = true then jZ 1 else be p) := by
  cases jm with
  | false =>
    refine ⟨ab, be, ?_, fun p _ => ⟨rfl, rfl⟩⟩
    obtain ⟨f, hf⟩ := FU_s
    rw [hf]
    show f_X6_layOut_320b s (f_X6_layOut_320 s (f + 1)) ab be jo (b2 false) r1 r2 (iN 0) = _
    unfold f_X6_layOut_320b
    simp (disch := omega) only [b2_f, ↓reduceIte, Nat.reduceEqDiff, Nat.reduceLeDiff, Nat.reduceLT, Nat.reduceAdd, Nat.reduceMul, Nat.reduceSub, Nat.reduceDiv, Nat.reduceMod, eq_self, and_true, true_and, or_true, true_or, and_false, false_and, or_false, false_or, not_true_eq_false, not_false_eq_true, and_self, or_self, Bool.false_eq_true, reduceCtorEq, decide_true, decide_false, Nat.zero_le, Nat.le_refl, Nat.lt_irrefl, Nat.not_lt_zero, Nat.zero_ne_one, Nat.one_ne_zero, iN_lit, iN_add, iN_mul, iN_le, iN_lt, iN_eq, iN_m1, m1_iN, m1_le, le_m1, m1_lt, lt_m1, m1_m1]
  | true =>
    have H := lp_ex (σ := (Nat → Int64) × (Nat → Int64)) (F := fun fu k σ => f_X6_layOut_320 s fu σ.1 σ.2 jo (b2 true) r1 r2 (iN k)) (N := 9) (I := fun k σ => ∀ p, p < k → σ.1 p = jZ 0 ∧ σ.2 p = jZ 1)
      (fun σ => some (σ.1, σ.2, jo, b2 true, r1, r2)) ?_ ?_ 9 FU 0 (ab, be) (by omega) (FU_lt (by omega)) (fun p hp => by omega)
    · obtain ⟨σ, i, e⟩ := H
      exact ⟨σ.1, σ.2, e, fun p hp => i p hp⟩
    · rintro fu k ⟨a1, a2⟩ hk i
      refine ⟨(vp_updL a1 k 0, vp_updL a2 k 1), fun p hp => ?_, ?_⟩
      · simp only [updL_at]
        by_cases h : p = k
        · rw [if_pos h, if_pos h]; exact ⟨rfl, rfl⟩
        · rw [if_neg h, if_neg h]; exact i p (by omega)
      · show f_X6_layOut_320b s (f_X6_layOut_320 s fu) a1 a2 jo (b2 true) r1 r2 (iN k) = _
        unfold f_X6_layOut_320b
        simp (disch := omega) only [b2_t, not_le_of hk, ↓lt_eq, ↓rd_n, ↓rd_l, ↓rd_a, ↓rd_s, ↓rd_sl, ↓rd_c, ↓rd_m, ↓rd_i, ↓wrI_n, ↓wrI_l, ↓wrI_a, ↓wrI_s, ↓wrI_sl, ↓wrI_c, ↓wrI_m, ↓wrI_i, ↓wrJ_n, ↓wrZ_n, ↓Option.bind_some, ↓reduceIte, Nat.reduceEqDiff, Nat.reduceLeDiff, Nat.reduceLT, Nat.reduceAdd, Nat.reduceMul, Nat.reduceSub, Nat.reduceDiv, Nat.reduceMod, eq_self, and_true, true_and, or_true, true_or, and_false, false_and, or_false, false_or, not_true_eq_false, not_false_eq_true, and_self, or_self, Bool.false_eq_true, reduceCtorEq, decide_true, decide_false, Nat.zero_le, Nat.le_refl, Nat.lt_irrefl, Nat.not_lt_zero, Nat.zero_ne_one, Nat.one_ne_zero, iN_lit, iN_add, iN_mul, iN_le, iN_lt, iN_eq, iN_m1, m1_iN, m1_le, le_m1, m1_lt, lt_m1, m1_m1]
    · rintro fu ⟨a1, a2⟩ -
      show f_X6_layOut_320b s (f_X6_layOut_320 s fu) a1 a2 jo (b2 true) r1 r2 (iN 9) = _
      unfold f_X6_layOut_320b
      simp (disch := omega) only [↓reduceIte, Nat.reduceEqDiff, Nat.reduceLeDiff, Nat.reduceLT, Nat.reduceAdd, Nat.reduceMul, Nat.reduceSub, Nat.reduceDiv, Nat.reduceMod, eq_self, and_true, true_and, or_true, true_or, and_false, false_and, or_false, false_or, not_true_eq_false, not_false_eq_true, and_self, or_self, Bool.false_eq_true, reduceCtorEq, decide_true, decide_false, Nat.zero_le, Nat.le_refl, Nat.lt_irrefl, Nat.not_lt_zero, Nat.zero_ne_one, Nat.one_ne_zero, iN_lit, iN_add, iN_mul, iN_le, iN_lt, iN_eq, iN_m1, m1_iN, m1_le, le_m1, m1_lt, lt_m1, m1_m1]
/-- the start: the driver alone -/
theorem s_lay7 {s : Nat → Int32} {dv : Nat → Bool} (hd : ∀ p, p < 9 → (iN p = s 55) = (dv p = true)) (ab be : Nat → Int64) (jo : Nat → Int32) (j0 : Int32) (r1 r2 : Int64) : ∃ ab' be' jo', f_X6_layOut_7 s FU ab be jo j0 r1 r2 (iN 0) = f_X6_layOut_70 s FU ab' be' jo' j0 r1 r2 (iN 1) ∧ ∀ p, p < 9 → jo' p = b2 (dv p) ∧ ab' p = (if dv p = true then jZ 1 else jZ 0) ∧ be' p = jZ 1 := by
  have H := lp_ex (σ := (Nat → Int64) × (Nat → Int64) × (Nat → Int32)) (F := fun fu k σ => f_X6_layOut_7 s fu σ.1 σ.2.1 σ.2.2 j0 r1 r2 (iN k)) (N := 9) (I := fun k σ => ∀ p, p < k → σ.2.2 p = b2 (dv p) ∧ σ.1 p = (if dv p = true then jZ 1 else jZ 0) ∧ σ.2.1 p = jZ 1)
      (fun σ => f_X6_layOut_70 s FU σ.1 σ.2.1 σ.2.2 j0 r1 r2 (iN 1)) ?_ ?_ 9 FU 0 (ab, be, jo) (by omega) (FU_lt (by omega)) (fun p hp => by omega)
  · obtain ⟨σ, i, e⟩ := H
    exact ⟨σ.1, σ.2.1, σ.2.2, e, i⟩
  · rintro fu k ⟨a1, a2, a3⟩ hk i
    refine ⟨(vp_updL a1 k (if dv k = true then jZ 1 else jZ 0), vp_updL a2 k (jZ 1), upd a3 k (b2 (dv k))), fun p hp => ?_, ?_⟩
    · simp only [updL_at, upd_at]
      by_cases h : p = k
      · subst h
        rw [if_pos rfl, if_pos rfl, if_pos rfl]; exact ⟨rfl, rfl, rfl⟩
      · rw [if_neg h, if_neg h, if_neg h]; exact i p (by omega)
    · have hk1 := hd k hk
      show f_X6_layOut_7b s (f_X6_layOut_7 s fu) a1 a2 a3 j0 r1 r2 (iN k) = _
      unfold f_X6_layOut_7b f_X6_layOut_34 f_X6_layOut_54
      rcases bdic (dv k) with h | h
      · simp (disch := omega) only [↓rd_55, hk1, h, not_le_of hk, ↓lt_eq, ↓rd_n, ↓rd_l, ↓rd_a, ↓rd_s, ↓rd_sl, ↓rd_c, ↓rd_m, ↓rd_i, ↓wrI_n, ↓wrI_l, ↓wrI_a, ↓wrI_s, ↓wrI_sl, ↓wrI_c, ↓wrI_m, ↓wrI_i, ↓wrJ_n, ↓wrZ_n, ↓Option.bind_some, ↓reduceIte, Nat.reduceEqDiff, Nat.reduceLeDiff, Nat.reduceLT, Nat.reduceAdd, Nat.reduceMul, Nat.reduceSub, Nat.reduceDiv, Nat.reduceMod, eq_self, and_true, true_and, or_true, true_or, and_false, false_and, or_false, false_or, not_true_eq_false, not_false_eq_true, and_self, or_self, Bool.false_eq_true, reduceCtorEq, decide_true, decide_false, Nat.zero_le, Nat.le_refl, Nat.lt_irrefl, Nat.not_lt_zero, Nat.zero_ne_one, Nat.one_ne_zero, iN_lit, iN_add, iN_mul, iN_le, iN_lt, iN_eq, iN_m1, m1_iN, m1_le, le_m1, m1_lt, lt_m1, m1_m1, upd_at, b2_f, nar_0]
        rfl
      · simp (disch := omega) only [↓rd_55, hk1, h, not_le_of hk, ↓lt_eq, ↓rd_n, ↓rd_l, ↓rd_a, ↓rd_s, ↓rd_sl, ↓rd_c, ↓rd_m, ↓rd_i, ↓wrI_n, ↓wrI_l, ↓wrI_a, ↓wrI_s, ↓wrI_sl, ↓wrI_c, ↓wrI_m, ↓wrI_i, ↓wrJ_n, ↓wrZ_n, ↓Option.bind_some, ↓reduceIte, Nat.reduceEqDiff, Nat.reduceLeDiff, Nat.reduceLT, Nat.reduceAdd, Nat.reduceMul, Nat.reduceSub, Nat.reduceDiv, Nat.reduceMod, eq_self, and_true, true_and, or_true, true_or, and_false, false_and, or_false, false_or, not_true_eq_false, not_false_eq_true, and_self, or_self, Bool.false_eq_true, reduceCtorEq, decide_true, decide_false, Nat.zero_le, Nat.le_refl, Nat.lt_irrefl, Nat.not_lt_zero, Nat.zero_ne_one, Nat.one_ne_zero, iN_lit, iN_add, iN_mul, iN_le, iN_lt, iN_eq, iN_m1, m1_iN, m1_le, le_m1, m1_lt, lt_m1, m1_m1, upd_at, b2_t, nar_1]
        rfl
  · rintro fu ⟨a1, a2, a3⟩ -
    show f_X6_layOut_7b s (f_X6_layOut_7 s fu) a1 a2 a3 j0 r1 r2 (iN 9) = _
    unfold f_X6_layOut_7b
    simp (disch := omega) only [↓reduceIte, Nat.reduceEqDiff, Nat.reduceLeDiff, Nat.reduceLT, Nat.reduceAdd, Nat.reduceMul, Nat.reduceSub, Nat.reduceDiv, Nat.reduceMod, eq_self, and_true, true_and, or_true, true_or, and_false, false_and, or_false, false_or, not_true_eq_false, not_false_eq_true, and_self, or_self, Bool.false_eq_true, reduceCtorEq, decide_true, decide_false, Nat.zero_le, Nat.le_refl, Nat.lt_irrefl, Nat.not_lt_zero, Nat.zero_ne_one, Nat.one_ne_zero, iN_lit, iN_add, iN_mul, iN_le, iN_lt, iN_eq, iN_m1, m1_iN, m1_le, le_m1, m1_lt, lt_m1, m1_m1]
/-- without a driver a pass changes nothing -/
theorem s_pass0 {s : Nat → Int32} {n : Nat} (hs : Good s n) {ab be : Nat → Int64} {jo : Nat → Int32} (hz : ∀ p, p < 9 → jo p = iN 0) (k70 : (Nat → Int64) → (Nat → Int64) → (Nat → Int32) → Int32 → Int64 → Int64 → Int32 → Option TLo) (j0 : Int32) (r1 r2 : Int64) : f_X6_layOut_78 s k70 FU ab be jo j0 r1 r2 (iN 0) (iN 0) = k70 ab be jo j0 r1 r2 (iN 0) := by
  have h9 := hs.2.1
  have H := lp_ex (σ := Unit) (F := fun fu k _ => f_X6_layOut_78 s k70 fu ab be jo j0 r1 r2 (iN 0) (iN k)) (N := 162) (I := fun _ _ => True) (fun _ => k70 ab be jo j0 r1 r2 (iN 0)) ?_ ?_ 162 FU 0 () (by omega) (FU_lt (by omega)) trivial
  · obtain ⟨σ, -, e⟩ := H
    exact e
  · rintro fu k - hk -
    refine ⟨(), trivial, ?_⟩
    have hp : k / 18 < 9 := by omega
    have hq : k / 2 % 9 < 9 := by omega
    show f_X6_layOut_78b s k70 (f_X6_layOut_78 s k70 fu) ab be jo j0 r1 r2 (iN 0) (iN k) = _
    unfold f_X6_layOut_78b f_X6_layOut_309
    by_cases a : n ≤ k / 18
    · simp (disch := omega) only [↓dv_18, ↓dv_2, ↓rm_9, ↓rm_2, ↓rd_0, hs.1, a, not_le_of hk, ↓lt_eq, ↓rd_n, ↓rd_l, ↓rd_a, ↓rd_s, ↓rd_sl, ↓rd_c, ↓rd_m, ↓rd_i, ↓wrI_n, ↓wrI_l, ↓wrI_a, ↓wrI_s, ↓wrI_sl, ↓wrI_c, ↓wrI_m, ↓wrI_i, ↓wrJ_n, ↓wrZ_n, ↓Option.bind_some, ↓reduceIte, Nat.reduceEqDiff, Nat.reduceLeDiff, Nat.reduceLT, Nat.reduceAdd, Nat.reduceMul, Nat.reduceSub, Nat.reduceDiv, Nat.reduceMod, eq_self, and_true, true_and, or_true, true_or, and_false, false_and, or_false, false_or, not_true_eq_false, not_false_eq_true, and_self, or_self, Bool.false_eq_true, reduceCtorEq, decide_true, decide_false, Nat.zero_le, Nat.le_refl, Nat.lt_irrefl, Nat.not_lt_zero, Nat.zero_ne_one, Nat.one_ne_zero, iN_lit, iN_add, iN_mul, iN_le, iN_lt, iN_eq, iN_m1, m1_iN, m1_le, le_m1, m1_lt, lt_m1, m1_m1]
    · by_cases b : n ≤ k / 2 % 9
      · simp (disch := omega) only [↓dv_18, ↓dv_2, ↓rm_9, ↓rm_2, ↓rd_0, hs.1, a, b, not_le_of hk, ↓lt_eq, ↓rd_n, ↓rd_l, ↓rd_a, ↓rd_s, ↓rd_sl, ↓rd_c, ↓rd_m, ↓rd_i, ↓wrI_n, ↓wrI_l, ↓wrI_a, ↓wrI_s, ↓wrI_sl, ↓wrI_c, ↓wrI_m, ↓wrI_i, ↓wrJ_n, ↓wrZ_n, ↓Option.bind_some, ↓reduceIte, Nat.reduceEqDiff, Nat.reduceLeDiff, Nat.reduceLT, Nat.reduceAdd, Nat.reduceMul, Nat.reduceSub, Nat.reduceDiv, Nat.reduceMod, eq_self, and_true, true_and, or_true, true_or, and_false, false_and, or_false, false_or, not_true_eq_false, not_false_eq_true, and_self, or_self, Bool.false_eq_true, reduceCtorEq, decide_true, decide_false, Nat.zero_le, Nat.le_refl, Nat.lt_irrefl, Nat.not_lt_zero, Nat.zero_ne_one, Nat.one_ne_zero, iN_lit, iN_add, iN_mul, iN_le, iN_lt, iN_eq, iN_m1, m1_iN, m1_le, le_m1, m1_lt, lt_m1, m1_m1]
      · simp (disch := omega) only [↓dv_18, ↓dv_2, ↓rm_9, ↓rm_2, ↓rd_0, hs.1, a, b, hz _ hp, not_le_of hk, ↓lt_eq, ↓rd_n, ↓rd_l, ↓rd_a, ↓rd_s, ↓rd_sl, ↓rd_c, ↓rd_m, ↓rd_i, ↓wrI_n, ↓wrI_l, ↓wrI_a, ↓wrI_s, ↓wrI_sl, ↓wrI_c, ↓wrI_m, ↓wrI_i, ↓wrJ_n, ↓wrZ_n, ↓Option.bind_some, ↓reduceIte, Nat.reduceEqDiff, Nat.reduceLeDiff, Nat.reduceLT, Nat.reduceAdd, Nat.reduceMul, Nat.reduceSub, Nat.reduceDiv, Nat.reduceMod, eq_self, and_true, true_and, or_true, true_or, and_false, false_and, or_false, false_or, not_true_eq_false, not_false_eq_true, and_self, or_self, Bool.false_eq_true, reduceCtorEq, decide_true, decide_false, Nat.zero_le, Nat.le_refl, Nat.lt_irrefl, Nat.not_lt_zero, Nat.zero_ne_one, Nat.one_ne_zero, iN_lit, iN_add, iN_mul, iN_le, iN_lt, iN_eq, iN_m1, m1_iN, m1_le, le_m1, m1_lt, lt_m1, m1_m1]
  · rintro fu - -
    show f_X6_layOut_78b s k70 (f_X6_layOut_78 s k70 fu) ab be jo j0 r1 r2 (iN 0) (iN 162) = _
    unfold f_X6_layOut_78b
    simp (disch := omega) only [↓reduceIte, Nat.reduceEqDiff, Nat.reduceLeDiff, Nat.reduceLT, Nat.reduceAdd, Nat.reduceMul, Nat.reduceSub, Nat.reduceDiv, Nat.reduceMod, eq_self, and_true, true_and, or_true, true_or, and_false, false_and, or_false, false_or, not_true_eq_false, not_false_eq_true, and_self, or_self, Bool.false_eq_true, reduceCtorEq, decide_true, decide_false, Nat.zero_le, Nat.le_refl, Nat.lt_irrefl, Nat.not_lt_zero, Nat.zero_ne_one, Nat.one_ne_zero, iN_lit, iN_add, iN_mul, iN_le, iN_lt, iN_eq, iN_m1, m1_iN, m1_le, le_m1, m1_lt, lt_m1, m1_m1]
theorem s_layOut {s : Nat → Int32} {n : Nat} (hs : Good s n) (ab be : Nat → Int64) (jo : Nat → Int32) (j0 : Int32) (r1 r2 : Int64) : ∃ ab' be' jo' jm r1' r2', f_X6_layOut s ab be jo j0 r1 r2 = some (ab', be', jo', b2 jm, r1', r2') ∧ Solved s n ab' be' jo' jm := by
  have h9 := hs.2.1
  rcases hs.2.2.2.2.1 with hd | ⟨d, hdn, hd⟩
  · obtain ⟨ab1, be1, jo1, e1, i1⟩ := s_lay7 (s := s) (dv := fun _ => false) (fun p hp => by rw [hd, iN_m1 (by omega)]; simp) ab be jo (iN 0) r1 r2
    obtain ⟨f, hf⟩ := FU_s
    have e2 : f_X6_layOut_70 s (f + 2) ab1 be1 jo1 (iN 0) r1 r2 (iN 1) = f_X6_layOut_320 s FU ab1 be1 jo1 (iN 0) r1 r2 (iN 0) := by
      rw [lay70_1, s_pass0 hs (fun p hp => (i1 p hp).1), lay70_0]
    rw [← hf] at e2
    obtain ⟨ab2, be2, e3, i3⟩ := s_lay320 (s := s) ab1 be1 jo1 r1 r2 false
    refine ⟨ab2, be2, jo1, false, r1, r2, ?_, Or.inl ⟨hd, rfl, fun p hp => ⟨(i3 p hp).1.trans (i1 p hp).2.1, (i3 p hp).2.trans (i1 p hp).2.2, (i1 p hp).1⟩⟩⟩
    unfold f_X6_layOut
    exact (e1.trans e2).trans e3
  · obtain ⟨ab1, be1, jo1, e1, i1⟩ := s_lay7 (s := s) (dv := fun p => decide (p = d)) (fun p hp => by rw [hd, iN_eq (by omega) (by omega)]; simp) ab be jo (iN 0) r1 r2
    have hL := LY_start (s := s) hdn h9 (J := fun p => decide (p = d)) (V := fun _ => (1, 1)) (fun _ => rfl) rfl
    have hR : RY (fun p => decide (p = d)) (fun _ => (1, 1)) ab1 be1 jo1 := fun p hp => ⟨(i1 p hp).1, (i1 p hp).2.1, by
      rw [(i1 p hp).2.2]
      split <;> rfl⟩
    obtain ⟨J, V, jm, D, ab2, be2, jo2, r12, r22, x1, x2, x3, x4⟩ := s_while hs 9 FU r1 r2 hL hR (by omega) (by decide)
    obtain ⟨ab3, be3, e3, i3⟩ := s_lay320 (s := s) ab2 be2 jo2 r12 r22 jm
    refine ⟨ab3, be3, jo2, jm, r12, r22, by unfold f_X6_layOut; exact (e1.trans x4).trans e3, Or.inr ⟨d, J, V, D, hd, x1, x3, fun p hp => ?_⟩⟩
    obtain ⟨y1, y2, y3⟩ := x2 p hp
    obtain ⟨z1, z2⟩ := i3 p hp
    refine ⟨y1, ?_, ?_⟩
    · rw [z1, y2]
      cases jm <;> simp
    · rw [z2, y3]
      cases jm <;> simp
