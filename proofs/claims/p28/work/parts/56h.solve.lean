/-! the class: what turns, by its queue -/
abbrev TN : Type := (Nat → Int64) × (Nat → Int64) × (Nat → Int32) × (Nat → Int32) × Int32 × Int32
def RC (J : Nat → Bool) (V : Nat → Int × Nat) (σ : TN) (jm : Bool) : Prop := RY J V σ.1 σ.2.1 σ.2.2.1 ∧ σ.2.2.2.2.1 = iN (cnt J 9) ∧ σ.2.2.2.2.2 = b2 jm ∧ (∀ q, J q = true → ∃ i, i < cnt J 9 ∧ σ.2.2.2.1 i = iN q) ∧ ∀ i, i < cnt J 9 → ∃ q, J q = true ∧ σ.2.2.2.1 i = iN q
/-- what goes on from one state of the search to a later one -/
def Ext (J0 : Nat → Bool) (D0 : Nat → Nat → Nat → Prop) (q0 : Nat → Int32) (J : Nat → Bool) (D : Nat → Nat → Nat → Prop) (q1 : Nat → Int32) : Prop := (∀ a b c, D0 a b c → D a b c) ∧ (∀ a, J0 a = true → J a = true) ∧ cnt J0 9 ≤ cnt J 9 ∧ ∀ i, i < cnt J0 9 → q1 i = q0 i
theorem Ext.rf (J : Nat → Bool) (D : Nat → Nat → Nat → Prop) (q : Nat → Int32) : Ext J D q J D q := ⟨fun _ _ _ h => h, fun _ h => h, Nat.le_refl _, fun _ _ => rfl⟩
theorem Ext.tr {J0 J1 J2 : Nat → Bool} {D0 D1 D2 : Nat → Nat → Nat → Prop} {q0 q1 q2_ : Nat → Int32} (h : Ext J0 D0 q0 J1 D1 q1) (h' : Ext J1 D1 q1 J2 D2 q2_) : Ext J0 D0 q0 J2 D2 q2_ := ⟨fun a b c x => h'.1 a b c (h.1 a b c x), fun a x => h'.2.1 a (h.2.1 a x), Nat.le_trans h.2.2.1 h'.2.2.1, fun i hi => (h'.2.2.2 i (Nat.lt_of_lt_of_le hi h.2.2.1)).trans (h.2.2.2 i hi)⟩
theorem s_edge {kinds teeth s : Nat → Int32} {n d p q l : Nat} (hs : Good s n) (hK : RK kinds teeth s) {J : Nat → Bool} {V : Nat → Int × Nat} {jm : Bool} {D : Nat → Nat → Nat → Prop} (h : LY s n d J V jm D) {σ : TN} (hR : RC J V σ jm) (hp : J p = true) (hqn : q < n) (hl : l < 2) (hm : tS s p q l true = true) :
    ∃ J' V' jm' D' σ', LY s n d J' V' jm' D' ∧ RC J' V' σ' jm' ∧ Ext J D σ.2.2.2.1 J' D' σ'.2.2.2.1 ∧ D' p q l ∧ f_X4_turn σ.1 σ.2.1 σ.2.2.1 σ.2.2.2.1 σ.2.2.2.2.1 σ.2.2.2.2.2 kinds teeth (iN p) (iN q) (iN l) = some σ' := by
  have h9 := hs.2.1
  have hpn := h.1.2.2.2.1 p hp
  obtain ⟨nu, de, jo, qu, jp, jI⟩ := σ
  obtain ⟨r1, r2, r3, r4, r5⟩ := hR
  simp only at r1 r2 r3 r4 r5
  obtain ⟨p1, p2, p3⟩ := r1 p (by omega)
  obtain ⟨q1, q2_, q3⟩ := r1 q (by omega)
  rw [hp, if_pos rfl] at p2 p3
  have sm := LY_small h.1 hp
  obtain ⟨w1, w2⟩ := stS_ok hs sm (show p < 9 by omega) (show q < 9 by omega) hl hm
  have ev := s_turn hs hK sm (show p < 9 by omega) (show q < 9 by omega) hl hm nu de jo qu jp jI p2 p3
  rcases bdic (J q) with hjq | hjq
  · rw [hjq] at q1
    have hc := cnt_up hjq 9
    rw [if_pos (by omega)] at hc
    have hc9 := cnt_le (up2 J q true) 9
    refine ⟨_, _, jm, _, (vp_updL nu q (jZ (stS s (V p) p q l).1), vp_updL de q (jZ (stS s (V p) p q l).2), upd jo q (iN 1), upd qu (cnt J 9) (iN q), iN (cnt J 9 + 1), b2 jm), LY_new hs h hp hjq hqn hl hm, ⟨fun a ha => ?_, by rw [hc], rfl, fun a ha => ?_, fun i hi => ?_⟩, ⟨fun _ _ _ x => Or.inl x, fun a ha => ?_, by omega, fun i hi => ?_⟩, Or.inr ⟨rfl, rfl, rfl⟩, ?_⟩
    · simp only [updL_at, upd_at]
      by_cases hx : a = q
      · subst hx
        rw [if_pos rfl, if_pos rfl, if_pos rfl, up2_same, up2_same]
        exact ⟨rfl, rfl, rfl⟩
      · rw [if_neg hx, if_neg hx, if_neg hx, up2_ne _ _ hx, up2_ne _ _ hx]
        exact r1 a ha
    · by_cases hx : a = q
      · refine ⟨cnt J 9, by rw [hc]; omega, ?_⟩
        simp only [upd_at]
        rw [if_pos trivial, hx]
      · rw [up2_ne _ _ hx] at ha
        obtain ⟨i, i1, i2⟩ := r4 a ha
        refine ⟨i, by rw [hc]; omega, ?_⟩
        simp only [upd_at]
        rw [if_neg (by omega)]
        exact i2
    · simp only [upd_at]
      by_cases hx : i = cnt J 9
      · refine ⟨q, up2_same _ _ _, ?_⟩
        rw [if_pos hx]
      · obtain ⟨b, b1, b2_⟩ := r5 i (by rw [hc] at hi; omega)
        refine ⟨b, ?_, by rw [if_neg hx]; exact b2_⟩
        by_cases hb : b = q
        · rw [hb]; exact up2_same _ _ _
        · rw [up2_ne _ _ hb]; exact b1
    · by_cases hx : a = q
      · rw [hx]; exact up2_same _ _ _
      · rw [up2_ne _ _ hx]; exact ha
    · simp only [upd_at]
      rw [if_neg (by omega)]
    · rw [ev]
      unfold f_X4_turn_81 f_X4_join
      have hlt : (cnt J 9 < 9) = True := eq_true (by omega)
      simp (disch := omega) only [q1, r2, r3, b2_f, hlt, ↓lt_eq, ↓rd_n, ↓rd_l, ↓rd_a, ↓rd_s, ↓rd_sl, ↓rd_c, ↓rd_m, ↓rd_i, ↓wrI_n, ↓wrI_l, ↓wrI_a, ↓wrI_s, ↓wrI_sl, ↓wrI_c, ↓wrI_m, ↓wrI_i, ↓wrJ_n, ↓wrZ_n, ↓Option.bind_some, ↓reduceIte, Nat.reduceEqDiff, Nat.reduceLeDiff, Nat.reduceLT, Nat.reduceAdd, Nat.reduceMul, Nat.reduceSub, Nat.reduceDiv, Nat.reduceMod, eq_self, and_true, true_and, or_true, true_or, and_false, false_and, or_false, false_or, not_true_eq_false, not_false_eq_true, and_self, or_self, Bool.false_eq_true, reduceCtorEq, decide_true, decide_false, Nat.zero_le, Nat.le_refl, Nat.lt_irrefl, Nat.not_lt_zero, Nat.zero_ne_one, Nat.one_ne_zero, iN_lit, iN_add, iN_mul, iN_le, iN_lt, iN_eq, iN_m1, m1_iN, m1_le, le_m1, m1_lt, lt_m1, m1_m1, nar_1]
  · rw [hjq] at q1
    rw [hjq, if_pos rfl] at q2_ q3
    obtain ⟨x1, x2⟩ := small_ok (LY_small h.1 hjq)
    refine ⟨J, V, _, _, (nu, de, jo, qu, jp, b2 (jm || decide (V q ≠ stS s (V p) p q l))), LY_old h hp hjq hl hm, ⟨r1, r2, rfl, r4, r5⟩, ⟨fun _ _ _ x => Or.inl x, fun _ x => x, Nat.le_refl _, fun _ _ => rfl⟩, Or.inr ⟨rfl, rfl, rfl⟩, ?_⟩
    rw [ev]
    unfold f_X4_turn_81
    simp (disch := omega) only [q1, q2_, q3, r3, b2_t, cmp_eqN, jZ_eq x1 w1, jZ_eq x2 w2, ↓lt_eq, ↓rd_n, ↓rd_l, ↓rd_a, ↓rd_s, ↓rd_sl, ↓rd_c, ↓rd_m, ↓rd_i, ↓wrI_n, ↓wrI_l, ↓wrI_a, ↓wrI_s, ↓wrI_sl, ↓wrI_c, ↓wrI_m, ↓wrI_i, ↓wrJ_n, ↓wrZ_n, ↓Option.bind_some, ↓reduceIte, Nat.reduceEqDiff, Nat.reduceLeDiff, Nat.reduceLT, Nat.reduceAdd, Nat.reduceMul, Nat.reduceSub, Nat.reduceDiv, Nat.reduceMod, eq_self, and_true, true_and, or_true, true_or, and_false, false_and, or_false, false_or, not_true_eq_false, not_false_eq_true, and_self, or_self, Bool.false_eq_true, reduceCtorEq, decide_true, decide_false, Nat.zero_le, Nat.le_refl, Nat.lt_irrefl, Nat.not_lt_zero, Nat.zero_ne_one, Nat.one_ne_zero, iN_lit, iN_add, iN_mul, iN_le, iN_lt, iN_eq, iN_m1, m1_iN, m1_le, le_m1, m1_lt, lt_m1, m1_m1]
    by_cases hv : V q = stS s (V p) p q l
    · rw [if_pos (by rw [hv]), if_pos (by rw [hv]), decide_eq_false (fun x => x hv), Bool.or_false]
    · rw [decide_eq_true hv, Bool.or_true]
      by_cases h1 : (V q).1 = (stS s (V p) p q l).1
      · rw [if_pos h1, if_neg]
        · rfl
        · intro h2
          exact hv (Prod.ext h1 (Int.ofNat.inj h2))
      · rw [if_neg h1]
        rfl
