/-! the reference lays out what turns -/
def Solved (s : Nat → Int32) (n : Nat) (nu de : Nat → Int64) (jo : Nat → Int32) (jm : Bool) : Prop :=
  (s 55 = -iN 1 ∧ jm = false ∧ ∀ p, p < 9 → nu p = jZ 0 ∧ de p = jZ 1 ∧ jo p = iN 0) ∨
  ∃ d J V D, s 55 = iN d ∧ LY s n d J V jm D ∧ LF s n J D ∧ ∀ p, p < 9 → jo p = b2 (J p) ∧ nu p = (if jm = false ∧ J p = true then jZ (V p).1 else jZ 0) ∧ de p = (if jm = false ∧ J p = true then jZ (V p).2 else jZ 1)
theorem Solved_unique {s : Nat → Int32} {n : Nat} (hs : Good s n) {nu1 de1 nu2 de2 : Nat → Int64} {jo1 jo2 : Nat → Int32} {m1 m2 : Bool} (h1 : Solved s n nu1 de1 jo1 m1) (h2 : Solved s n nu2 de2 jo2 m2) : m1 = m2 ∧ ∀ p, p < 9 → nu1 p = nu2 p ∧ de1 p = de2 p ∧ jo1 p = jo2 p := by
  have h9 := hs.2.1
  rcases h1 with ⟨a1, a2, a3⟩ | ⟨d, J, V, D, b1, b2_, b3, b4⟩
  · rcases h2 with ⟨c1, c2, c3⟩ | ⟨d', J', V', D', c1, c2, c3, c4⟩
    · exact ⟨a2.trans c2.symm, fun p hp => ⟨(a3 p hp).1.trans (c3 p hp).1.symm, (a3 p hp).2.1.trans (c3 p hp).2.1.symm, (a3 p hp).2.2.trans (c3 p hp).2.2.symm⟩⟩
    · have hd := c2.1.1
      rw [a1, m1_iN (by omega)] at c1
      exact c1.elim
  · rcases h2 with ⟨c1, c2, c3⟩ | ⟨d', J', V', D', c1, c2, c3, c4⟩
    · have hd := b2_.1.1
      rw [c1, m1_iN (by omega)] at b1
      exact b1.elim
    · have hd := b2_.1.1
      have hd' := c2.1.1
      have e : d = d' := by
        rw [b1, iN_eq (by omega) (by omega)] at c1
        exact c1
      subst e
      obtain ⟨u1, u2, u3⟩ := LY_unique b2_ b3 c2 c3
      refine ⟨u2, fun p hp => ?_⟩
      obtain ⟨x1, x2, x3⟩ := b4 p hp
      obtain ⟨y1, y2, y3⟩ := c4 p hp
      rw [x1, x2, x3, y1, y2, y3, ← u1 p, ← u2]
      by_cases h : m1 = false ∧ J p = true
      · rw [u3 h.1 p h.2]
        exact ⟨rfl, rfl, rfl⟩
      · rw [if_neg h, if_neg h, if_neg h, if_neg h]
        exact ⟨rfl, rfl, rfl⟩
/-- the arrays of a layout under way -/
def RY (J : Nat → Bool) (V : Nat → Int × Nat) (ab be : Nat → Int64) (jo : Nat → Int32) : Prop := ∀ p, p < 9 → jo p = b2 (J p) ∧ ab p = (if J p = true then jZ (V p).1 else jZ 0) ∧ be p = (if J p = true then jZ (V p).2 else jZ 1)
theorem dv_18 {ρ : Type} {a : Nat} {k : Int32 → Option ρ} (ha : a < 2147483648) : dvI (iN a) 18 k = k (iN (a / 18)) := dvI_n (b := 18) (by omega) ha (by omega)
theorem dv_2 {ρ : Type} {a : Nat} {k : Int32 → Option ρ} (ha : a < 2147483648) : dvI (iN a) 2 k = k (iN (a / 2)) := dvI_n (b := 2) (by omega) ha (by omega)
theorem rm_9 {ρ : Type} {a : Nat} {k : Int32 → Option ρ} (ha : a < 2147483648) : rmI (iN a) 9 k = k (iN (a % 9)) := rmI_n (b := 9) (by omega) ha (by omega)
theorem rm_2 {ρ : Type} {a : Nat} {k : Int32 → Option ρ} (ha : a < 2147483648) : rmI (iN a) 2 k = k (iN (a % 2)) := rmI_n (b := 2) (by omega) ha (by omega)
theorem rd_0 {ρ α : Type} {f : Nat → α} {n : Nat} {k : α → Option ρ} (hn : 0 < n) : rd f n 0 k = k (f 0) := rd_n (j := 0) hn (by omega)
theorem rd_55 {ρ α : Type} {f : Nat → α} {k : α → Option ρ} : rd f 60 55 k = k (f 55) := rd_n (j := 55) (by omega) (by omega)
theorem rd_56 {ρ α : Type} {f : Nat → α} {k : α → Option ρ} : rd f 60 56 k = k (f 56) := rd_n (j := 56) (by omega) (by omega)
theorem rd_57 {ρ α : Type} {f : Nat → α} {k : α → Option ρ} : rd f 60 57 k = k (f 57) := rd_n (j := 57) (by omega) (by omega)
theorem rd_58 {ρ α : Type} {f : Nat → α} {k : α → Option ρ} : rd f 60 58 k = k (f 58) := rd_n (j := 58) (by omega) (by omega)
theorem rd_59 {ρ α : Type} {f : Nat → α} {k : α → Option ρ} : rd f 60 59 k = k (f 59) := rd_n (j := 59) (by omega) (by omega)
theorem bdic (b : Bool) : b = false ∨ b = true := by cases b <;> simp
theorem stS_ok {s : Nat → Int32} {n p q l : Nat} {v : Int × Nat} (hs : Good s n) (hv : smallV v) (hp : p < 9) (hq : q < 9) (hl : l < 2) (hm : tS s p q l true = true) : okJ (stS s v p q l).1 ∧ okJ ((stS s v p q l).2 : Int) := by
  obtain ⟨o1, o2, o3, o4, o5, o6⟩ := step_ok hs hv hp hq hl hm
  constructor
  · have e : ((stS s v p q l).1).natAbs ≤ (v.1 * wT s p q l).natAbs := by
      show ((v.1 * wT s p q l).tdiv (Nat.gcd (v.1 * wT s p q l).natAbs (v.2 * tN s q l) : Nat)).natAbs ≤ _
      rw [Int.natAbs_tdiv]
      exact Nat.div_le_self _ _
    unfold okJ at o1 ⊢
    omega
  · refine ok_nat ?_
    have e : (stS s v p q l).2 ≤ v.2 * tN s q l := Nat.div_le_self _ _
    omega
theorem small_ok {v : Int × Nat} (hv : smallV v) : okJ v.1 ∧ okJ (v.2 : Int) := by
  obtain ⟨h1, h2, h3, h4⟩ := hv
  unfold okJ
  omega
theorem s_lay216 {s : Nat → Int32} {q k : Nat} (hq : q < 9) (k78 : (Nat → Int64) → (Nat → Int64) → (Nat → Int32) → Int32 → Int64 → Int64 → Int32 → Int32 → Option ((Nat → Int64) × (Nat → Int64) × (Nat → Int32) × Int32 × Int64 × Int64)) {ab be : Nat → Int64} {jo : Nat → Int32} {jq : Bool} (e : jo q = b2 jq) (j0 : Int32) (r1 r2 : Int64) (mo jm : Bool) :
    f_X6_layOut_216 s k78 ab be jo j0 r1 r2 (b2 mo) (iN k) (iN q) (b2 jm) = k78 (vp_updL ab q (if jq = true then ab q else r1)) (vp_updL be q (if jq = true then be q else r2)) (upd jo q (iN 1)) (b2 jm) r1 r2 (b2 (mo || !jq)) (iN (k + 1)) := by
  unfold f_X6_layOut_216 f_X6_layOut_233 f_X6_layOut_238 f_X6_layOut_269 f_X6_layOut_300 f_X6_layOut_309
  rw [gz_b]
  cases mo <;> cases jq <;> simp (disch := omega) only [↓lt_eq, ↓rd_n, ↓rd_l, ↓rd_a, ↓rd_s, ↓rd_sl, ↓rd_c, ↓rd_m, ↓rd_i, ↓wrI_n, ↓wrI_l, ↓wrI_a, ↓wrI_s, ↓wrI_sl, ↓wrI_c, ↓wrI_m, ↓wrI_i, ↓wrJ_n, ↓wrZ_n, ↓Option.bind_some, ↓reduceIte, Nat.reduceEqDiff, Nat.reduceLeDiff, Nat.reduceLT, Nat.reduceAdd, Nat.reduceMul, Nat.reduceSub, Nat.reduceDiv, Nat.reduceMod, eq_self, and_true, true_and, or_true, true_or, and_false, false_and, or_false, false_or, not_true_eq_false, not_false_eq_true, and_self, or_self, Bool.false_eq_true, reduceCtorEq, decide_true, decide_false, Nat.zero_le, Nat.le_refl, Nat.lt_irrefl, Nat.not_lt_zero, Nat.zero_ne_one, Nat.one_ne_zero, iN_lit, iN_add, iN_mul, iN_le, iN_lt, iN_eq, iN_m1, m1_iN, m1_le, le_m1, m1_lt, lt_m1, m1_m1, e, b2_t, b2_f, nar_1, Bool.or_true, Bool.or_false, Bool.not_true, Bool.not_false, Bool.true_or, Bool.false_or]
/-- one edge of a pass of the reference -/
theorem s_lay78 {s : Nat → Int32} {n d p q l k : Nat} (hs : Good s n) {J : Nat → Bool} {V : Nat → Int × Nat} {jm : Bool} {D : Nat → Nat → Nat → Prop} (h : LY s n d J V jm D) {ab be : Nat → Int64} {jo : Nat → Int32} (hR : RY J V ab be jo) (hk : k < 162) (e1 : k / 18 = p) (e2 : k / 2 % 9 = q) (e3 : k % 2 = l) (k70 : (Nat → Int64) → (Nat → Int64) → (Nat → Int32) → Int32 → Int64 → Int64 → Int32 → Option ((Nat → Int64) × (Nat → Int64) × (Nat → Int32) × Int32 × Int64 × Int64)) (k78 : (Nat → Int64) → (Nat → Int64) → (Nat → Int32) → Int32 → Int64 → Int64 → Int32 → Int32 → Option ((Nat → Int64) × (Nat → Int64) × (Nat → Int32) × Int32 × Int64 × Int64)) (r1 r2 : Int64) (mo : Bool) :
    ∃ J' V' jm' D' ab' be' jo' r1' r2' mo', LY s n d J' V' jm' D' ∧ RY J' V' ab' be' jo' ∧ f_X6_layOut_78b s k70 k78 ab be jo (b2 jm) r1 r2 (b2 mo) (iN k) = k78 ab' be' jo' (b2 jm') r1' r2' (b2 mo') (iN (k + 1)) ∧
      (∀ a b c, D a b c → D' a b c) ∧ (J p = true → q < n → tS s p q l true = true → D' p q l) ∧ ((mo' = mo ∧ J' = J) ∨ (mo' = true ∧ cnt J' 9 = cnt J 9 + 1)) := by
  have h9 := hs.2.1
  have hp : p < 9 := by omega
  have hq : q < 9 := by omega
  have hl : l < 2 := by omega
  obtain ⟨p1, p2, p3⟩ := hR p hp
  obtain ⟨q1, q2, q3⟩ := hR q hq
  have m := s_meshOn hs hp hq hl
  have same : ∀ (X : f_X6_layOut_78b s k70 k78 ab be jo (b2 jm) r1 r2 (b2 mo) (iN k) = k78 ab be jo (b2 jm) r1 r2 (b2 mo) (iN (k + 1))) (_ : ¬ (J p = true ∧ q < n ∧ tS s p q l true = true)), ∃ J' V' jm' D' ab' be' jo' r1' r2' mo', LY s n d J' V' jm' D' ∧ RY J' V' ab' be' jo' ∧ f_X6_layOut_78b s k70 k78 ab be jo (b2 jm) r1 r2 (b2 mo) (iN k) = k78 ab' be' jo' (b2 jm') r1' r2' (b2 mo') (iN (k + 1)) ∧
      (∀ a b c, D a b c → D' a b c) ∧ (J p = true → q < n → tS s p q l true = true → D' p q l) ∧ ((mo' = mo ∧ J' = J) ∨ (mo' = true ∧ cnt J' 9 = cnt J 9 + 1)) :=
    fun X hno => ⟨J, V, jm, D, ab, be, jo, r1, r2, mo, h, hR, X, fun _ _ _ x => x, fun x1 x2 x3 => absurd ⟨x1, x2, x3⟩ hno, Or.inl ⟨rfl, rfl⟩⟩
  by_cases hpn : p < n
  · by_cases hqn : q < n
    · rcases bdic (J p) with hj | hj
      · refine same ?_ (fun hh => by rw [hj] at hh; exact absurd hh.1 (by simp))
        unfold f_X6_layOut_78b f_X6_layOut_309
        simp (disch := omega) only [↓dv_18, ↓dv_2, ↓rm_9, ↓rm_2, ↓rd_0, e1, e2, e3, hs.1, not_le_of hpn, not_le_of hqn, not_le_of hk, p1, hj, b2_f, ↓lt_eq, ↓rd_n, ↓rd_l, ↓rd_a, ↓rd_s, ↓rd_sl, ↓rd_c, ↓rd_m, ↓rd_i, ↓wrI_n, ↓wrI_l, ↓wrI_a, ↓wrI_s, ↓wrI_sl, ↓wrI_c, ↓wrI_m, ↓wrI_i, ↓wrJ_n, ↓wrZ_n, ↓Option.bind_some, ↓reduceIte, Nat.reduceEqDiff, Nat.reduceLeDiff, Nat.reduceLT, Nat.reduceAdd, Nat.reduceMul, Nat.reduceSub, Nat.reduceDiv, Nat.reduceMod, eq_self, and_true, true_and, or_true, true_or, and_false, false_and, or_false, false_or, not_true_eq_false, not_false_eq_true, and_self, or_self, Bool.false_eq_true, reduceCtorEq, decide_true, decide_false, Nat.zero_le, Nat.le_refl, Nat.lt_irrefl, Nat.not_lt_zero, Nat.zero_ne_one, Nat.one_ne_zero, iN_lit, iN_add, iN_mul, iN_le, iN_lt, iN_eq, iN_m1, m1_iN, m1_le, le_m1, m1_lt, lt_m1, m1_m1]
      · rcases bdic (tS s p q l true) with hm | hm
        · rw [hm] at m
          refine same ?_ (fun hh => by rw [hm] at hh; exact absurd hh.2.2 (by simp))
          unfold f_X6_layOut_78b f_X6_layOut_309
          simp (disch := omega) only [↓dv_18, ↓dv_2, ↓rm_9, ↓rm_2, ↓rd_0, ↓bd m, e1, e2, e3, hs.1, not_le_of hpn, not_le_of hqn, not_le_of hk, p1, hj, b2_f, b2_t, ↓lt_eq, ↓rd_n, ↓rd_l, ↓rd_a, ↓rd_s, ↓rd_sl, ↓rd_c, ↓rd_m, ↓rd_i, ↓wrI_n, ↓wrI_l, ↓wrI_a, ↓wrI_s, ↓wrI_sl, ↓wrI_c, ↓wrI_m, ↓wrI_i, ↓wrJ_n, ↓wrZ_n, ↓Option.bind_some, ↓reduceIte, Nat.reduceEqDiff, Nat.reduceLeDiff, Nat.reduceLT, Nat.reduceAdd, Nat.reduceMul, Nat.reduceSub, Nat.reduceDiv, Nat.reduceMod, eq_self, and_true, true_and, or_true, true_or, and_false, false_and, or_false, false_or, not_true_eq_false, not_false_eq_true, and_self, or_self, Bool.false_eq_true, reduceCtorEq, decide_true, decide_false, Nat.zero_le, Nat.le_refl, Nat.lt_irrefl, Nat.not_lt_zero, Nat.zero_ne_one, Nat.one_ne_zero, iN_lit, iN_add, iN_mul, iN_le, iN_lt, iN_eq, iN_m1, m1_iN, m1_le, le_m1, m1_lt, lt_m1, m1_m1]
        · rw [hm] at m
          rw [hj] at p1 p2 p3
          rw [if_pos rfl] at p2 p3
          have sm := LY_small h.1 hj
          have g := s_goOn hs sm hp hq hl hm r1 r2
          obtain ⟨w1, w2⟩ := stS_ok hs sm hp hq hl hm
          have ev : f_X6_layOut_78b s k70 k78 ab be jo (b2 jm) r1 r2 (b2 mo) (iN k) = f_X6_layOut_216 s k78 ab be jo (b2 jm) (jZ (stS s (V p) p q l).1) (jZ (stS s (V p) p q l).2) (b2 mo) (iN k) (iN q) (b2 (jm || (J q && decide (V q ≠ stS s (V p) p q l)))) := by
            unfold f_X6_layOut_78b f_X6_layOut_211 f_X6_layOut_215
            simp (disch := omega) only [↓dv_18, ↓dv_2, ↓rm_9, ↓rm_2, ↓rd_0, ↓rd_n, ↓bd m, ↓bd g, e1, e2, e3, hs.1, not_le_of hpn, not_le_of hqn, not_le_of hk, p1, p2, p3, b2_f, b2_t, ↓reduceIte, Nat.reduceEqDiff, Nat.reduceLeDiff, Nat.reduceLT, Nat.reduceAdd, Nat.reduceMul, Nat.reduceSub, Nat.reduceDiv, Nat.reduceMod, eq_self, and_true, true_and, or_true, true_or, and_false, false_and, or_false, false_or, not_true_eq_false, not_false_eq_true, and_self, or_self, Bool.false_eq_true, reduceCtorEq, decide_true, decide_false, Nat.zero_le, Nat.le_refl, Nat.lt_irrefl, Nat.not_lt_zero, Nat.zero_ne_one, Nat.one_ne_zero, iN_lit, iN_add, iN_mul, iN_le, iN_lt, iN_eq, iN_m1, m1_iN, m1_le, le_m1, m1_lt, lt_m1, m1_m1]
            cases jm with
            | true => rfl
            | false =>
              cases hjq : J q with
              | false =>
                rw [hjq] at q1
                simp (disch := omega) only [q1, b2_f, b2_t, Bool.false_and, Bool.or_false, ↓reduceIte, Nat.reduceEqDiff, Nat.reduceLeDiff, Nat.reduceLT, Nat.reduceAdd, Nat.reduceMul, Nat.reduceSub, Nat.reduceDiv, Nat.reduceMod, eq_self, and_true, true_and, or_true, true_or, and_false, false_and, or_false, false_or, not_true_eq_false, not_false_eq_true, and_self, or_self, Bool.false_eq_true, reduceCtorEq, decide_true, decide_false, Nat.zero_le, Nat.le_refl, Nat.lt_irrefl, Nat.not_lt_zero, Nat.zero_ne_one, Nat.one_ne_zero, iN_lit, iN_add, iN_mul, iN_le, iN_lt, iN_eq, iN_m1, m1_iN, m1_le, le_m1, m1_lt, lt_m1, m1_m1]
              | true =>
                rw [hjq] at q1 q2 q3
                rw [if_pos rfl] at q2 q3
                obtain ⟨x1, x2⟩ := small_ok (LY_small h.1 hjq)
                simp (disch := omega) only [q1, q2, q3, cmp_eqN, jZ_eq x1 w1, jZ_eq x2 w2, b2_f, b2_t, Bool.true_and, Bool.false_or, ↓reduceIte, Nat.reduceEqDiff, Nat.reduceLeDiff, Nat.reduceLT, Nat.reduceAdd, Nat.reduceMul, Nat.reduceSub, Nat.reduceDiv, Nat.reduceMod, eq_self, and_true, true_and, or_true, true_or, and_false, false_and, or_false, false_or, not_true_eq_false, not_false_eq_true, and_self, or_self, Bool.false_eq_true, reduceCtorEq, decide_true, decide_false, Nat.zero_le, Nat.le_refl, Nat.lt_irrefl, Nat.not_lt_zero, Nat.zero_ne_one, Nat.one_ne_zero, iN_lit, iN_add, iN_mul, iN_le, iN_lt, iN_eq, iN_m1, m1_iN, m1_le, le_m1, m1_lt, lt_m1, m1_m1]
                by_cases hv : V q = stS s (V p) p q l
                · rw [if_pos (by rw [hv]), if_pos (by rw [hv]), decide_eq_false (fun x => x hv)]
                  rfl
                · rw [decide_eq_true hv]
                  by_cases h1 : (V q).1 = (stS s (V p) p q l).1
                  · rw [if_pos h1, if_neg]
                    · rfl
                    · intro h2
                      exact hv (Prod.ext h1 (Int.ofNat.inj h2))
                  · rw [if_neg h1]
                    rfl
          rcases bdic (J q) with hjq | hjq
          rotate_left
          · rw [hjq] at ev q1 q2 q3
            rw [if_pos rfl] at q2 q3
            refine ⟨J, V, _, _, vp_updL ab q (ab q), vp_updL be q (be q), upd jo q (iN 1), jZ (stS s (V p) p q l).1, jZ (stS s (V p) p q l).2, mo, LY_old h hj hjq hl hm, ?_, ?_, fun a b c x => Or.inl x, fun _ _ _ => Or.inr ⟨rfl, rfl, rfl⟩, Or.inl ⟨rfl, rfl⟩⟩
            rotate_left
            · rw [ev, s_lay216 hq k78 q1]
              simp only [Bool.true_and, Bool.not_true, Bool.or_false, if_true]
            · intro a ha
              simp only [updL_at, upd_at]
              by_cases hx : a = q
              · subst hx
                rw [if_pos rfl, if_pos rfl, if_pos rfl, hjq, if_pos rfl, if_pos rfl, q2, q3]
                exact ⟨rfl, rfl, rfl⟩
              · rw [if_neg hx, if_neg hx, if_neg hx]
                exact hR a ha
          · rw [hjq] at ev q1
            refine ⟨_, _, jm, _, vp_updL ab q (jZ (stS s (V p) p q l).1), vp_updL be q (jZ (stS s (V p) p q l).2), upd jo q (iN 1), jZ (stS s (V p) p q l).1, jZ (stS s (V p) p q l).2, true, LY_new hs h hj hjq hqn hl hm, ?_, ?_, fun a b c x => Or.inl x, fun _ _ _ => Or.inr ⟨rfl, rfl, rfl⟩, Or.inr ⟨rfl, by rw [cnt_up hjq 9, if_pos hq]⟩⟩
            rotate_left
            · rw [ev, s_lay216 hq k78 q1]
              simp only [Bool.false_and, Bool.or_false, Bool.not_false, Bool.or_true, Bool.false_eq_true, if_false]
            · intro a ha
              simp only [updL_at, upd_at]
              by_cases hx : a = q
              · subst hx
                rw [if_pos rfl, if_pos rfl, if_pos rfl, up2_same, up2_same]
                exact ⟨rfl, rfl, rfl⟩
              · rw [if_neg hx, if_neg hx, if_neg hx, up2_ne _ _ hx, up2_ne _ _ hx]
                exact hR a ha
    · refine same ?_ (fun hh => hqn hh.2.1)
      have e : (n ≤ q) = True := eq_true (by omega)
      unfold f_X6_layOut_78b f_X6_layOut_309
      simp (disch := omega) only [↓dv_18, ↓dv_2, ↓rm_9, ↓rm_2, ↓rd_0, e1, e2, e3, hs.1, not_le_of hpn, e, not_le_of hk, ↓lt_eq, ↓rd_n, ↓rd_l, ↓rd_a, ↓rd_s, ↓rd_sl, ↓rd_c, ↓rd_m, ↓rd_i, ↓wrI_n, ↓wrI_l, ↓wrI_a, ↓wrI_s, ↓wrI_sl, ↓wrI_c, ↓wrI_m, ↓wrI_i, ↓wrJ_n, ↓wrZ_n, ↓Option.bind_some, ↓reduceIte, Nat.reduceEqDiff, Nat.reduceLeDiff, Nat.reduceLT, Nat.reduceAdd, Nat.reduceMul, Nat.reduceSub, Nat.reduceDiv, Nat.reduceMod, eq_self, and_true, true_and, or_true, true_or, and_false, false_and, or_false, false_or, not_true_eq_false, not_false_eq_true, and_self, or_self, Bool.false_eq_true, reduceCtorEq, decide_true, decide_false, Nat.zero_le, Nat.le_refl, Nat.lt_irrefl, Nat.not_lt_zero, Nat.zero_ne_one, Nat.one_ne_zero, iN_lit, iN_add, iN_mul, iN_le, iN_lt, iN_eq, iN_m1, m1_iN, m1_le, le_m1, m1_lt, lt_m1, m1_m1]
  · refine same ?_ (fun hh => hpn (h.1.2.2.2.1 p hh.1))
    have e : (n ≤ p) = True := eq_true (by omega)
    unfold f_X6_layOut_78b f_X6_layOut_309
    simp (disch := omega) only [↓dv_18, ↓dv_2, ↓rm_9, ↓rm_2, ↓rd_0, e1, e2, e3, hs.1, e, not_le_of hk, ↓lt_eq, ↓rd_n, ↓rd_l, ↓rd_a, ↓rd_s, ↓rd_sl, ↓rd_c, ↓rd_m, ↓rd_i, ↓wrI_n, ↓wrI_l, ↓wrI_a, ↓wrI_s, ↓wrI_sl, ↓wrI_c, ↓wrI_m, ↓wrI_i, ↓wrJ_n, ↓wrZ_n, ↓Option.bind_some, ↓reduceIte, Nat.reduceEqDiff, Nat.reduceLeDiff, Nat.reduceLT, Nat.reduceAdd, Nat.reduceMul, Nat.reduceSub, Nat.reduceDiv, Nat.reduceMod, eq_self, and_true, true_and, or_true, true_or, and_false, false_and, or_false, false_or, not_true_eq_false, not_false_eq_true, and_self, or_self, Bool.false_eq_true, reduceCtorEq, decide_true, decide_false, Nat.zero_le, Nat.le_refl, Nat.lt_irrefl, Nat.not_lt_zero, Nat.zero_ne_one, Nat.one_ne_zero, iN_lit, iN_add, iN_mul, iN_le, iN_lt, iN_eq, iN_m1, m1_iN, m1_le, le_m1, m1_lt, lt_m1, m1_m1]
