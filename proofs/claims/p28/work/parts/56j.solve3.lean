/-! the class's works beside the bench -/
def Wk (w : TW) (s : Nat → Int32) (n : Nat) : Prop := RM w.1 s n ∧ ∃ jm, Solved s n w.2.1 w.2.2.1 w.2.2.2.1 jm ∧ w.2.2.2.2.2.2 = b2 jm ∧ w.2.2.2.2.2.1 = iN (cnt (fun p => decide (w.2.2.2.1 p = iN 1)) 9)
theorem cnt_jo {J : Nat → Bool} {jo : Nat → Int32} (h : ∀ p, p < 9 → jo p = b2 (J p)) : cnt (fun p => decide (jo p = iN 1)) 9 = cnt J 9 := cnt_congr (fun p hp => by simp only [h p hp, b2_eq1]; simp)
theorem s_solve95 {x y0 kinds teeth mesh s : Nat → Int32} {play dr : Int32} {n d : Nat} (hM : RM mesh s n) (hd : s 55 = iN d) {J : Nat → Bool} {V : Nat → Int × Nat} {jm : Bool} {D : Nat → Nat → Nat → Prop} {σ : TN} (h : LY s n d J V jm D) (hR : RC J V σ jm) (hF : LF s n J D) : ∃ w, f_X4_solve_95 x y0 kinds teeth (iN n) dr play mesh σ.1 σ.2.1 σ.2.2.1 σ.2.2.2.1 σ.2.2.2.2.1 σ.2.2.2.2.2 = some w ∧ Wk w s n := by
  obtain ⟨nu, de, jo, qu, jp, jI⟩ := σ
  obtain ⟨r1, r2, r3, r4, r5⟩ := hR
  simp only at r1 r2 r3 r4 r5
  subst r2
  subst r3
  have hc := cnt_jo (fun p hp => (r1 p hp).1)
  unfold f_X4_solve_95
  rcases bdic jm with hj | hj
  · subst hj
    refine ⟨(mesh, nu, de, jo, qu, iN (cnt J 9), b2 false), by dsimp only; rw [if_pos (by decide)], hM, false, Or.inr ⟨d, J, V, D, hd, h, hF, fun p hp => ?_⟩, rfl, by rw [← hc]⟩
    obtain ⟨a, b, c⟩ := r1 p hp
    simp only [true_and]
    exact ⟨a, b, c⟩
  · subst hj
    obtain ⟨v, v1, v2⟩ := s_stop nu de
    refine ⟨(mesh, v.1, v.2, jo, qu, iN (cnt J 9), b2 true), by dsimp only; rw [if_neg (by decide), bd v1], hM, true, Or.inr ⟨d, J, V, D, hd, h, hF, fun p hp => ?_⟩, rfl, by rw [← hc]⟩
    obtain ⟨a, b, c⟩ := r1 p hp
    simp only [Bool.true_eq_false, false_and, if_false]
    exact ⟨a, v2 p hp⟩
theorem s_solve {x y0 kinds teeth s : Nat → Int32} {play dr : Int32} {n : Nat} (hs : Good s n) (hX : RX x y0 s) (hK : RK kinds teeth s) (hy : play = s 59) (hd : dr = s 55) (mesh : Nat → Int32) (nu de : Nat → Int64) (jo qu : Nat → Int32) (jp jm : Int32) : ∃ w, f_X4_solve mesh nu de jo qu jp jm x y0 kinds teeth (iN n) dr play = some w ∧ Wk w s n := by
  have h9 := hs.2.1
  obtain ⟨m', hm1, hM⟩ := s_find hs hX hK hy mesh
  obtain ⟨v, hv1, hv2⟩ := s_stop nu de
  have H := lp_ex (σ := Nat → Int32) (F := fun fu k jo => f_X4_solve_11 x y0 kinds teeth (iN n) dr play fu m' v.1 v.2 jo qu jp jm (iN k)) (N := 9) (I := fun k jo => ∀ p, p < k → jo p = iN 0) (fun jo => (f_X0_hasPeg (iN n) dr).bind fun v5 => if v5 = iN 0 then some (m', v.1, v.2, jo, qu, iN 0, iN 0) else (f_X4_join v.1 v.2 jo qu (iN 0) dr 1 1).bind fun v6 => f_X4_solve_64 x y0 kinds teeth (iN n) dr play FU m' v6.1 v6.2.1 v6.2.2.1 v6.2.2.2.1 v6.2.2.2.2 (iN 0) (iN 0)) ?_ ?_ 9 FU 0 jo (by omega) (FU_lt (by omega)) (fun p h => by omega)
  · obtain ⟨jo', hz, e⟩ := H
    unfold f_X4_solve
    rw [bd hm1, bd hv1]
    have e' : f_X4_solve_11 x y0 kinds teeth (iN n) dr play FU m' v.1 v.2 jo qu jp jm (iN 0) = _ := e
    rw [show (0 : Int32) = iN 0 from rfl, e']
    rcases hs.2.2.2.2.1 with h55 | ⟨d, hdn, h55⟩
    · rcases s_peg hs dr with ⟨p, hp, hpe, -⟩ | ⟨-, -, hno⟩
      · rw [hd, h55, m1_iN (by omega)] at hpe
        exact hpe.elim
      · rw [bd hno, if_pos rfl]
        refine ⟨_, rfl, hM, false, Or.inl ⟨h55, rfl, fun p hp => ⟨(hv2 p hp).1, (hv2 p hp).2, hz p hp⟩⟩, rfl, ?_⟩
        show iN 0 = iN (cnt (fun p => decide (jo' p = iN 1)) 9)
        congr 1
        refine (cnt_zero.mpr (fun p hp => ?_)).symm
        rw [hz p hp]
        rfl
    · rcases s_peg hs dr with ⟨p, hp, hpe, -, hyes⟩ | ⟨hno, -⟩
      · have hpd : p = d := by
          rw [hd, h55, iN_eq (by omega) (by omega)] at hpe
          exact hpe.symm
        subst hpd
        rw [bd hyes, if_neg (by rw [iN_eq (by omega) (by omega)]; omega), hpe]
        have hJ : f_X4_join v.1 v.2 jo' qu (iN 0) (iN p) 1 1 = some (vp_updL v.1 p 1, vp_updL v.2 p 1, upd jo' p (iN 1), upd qu 0 (iN p), iN 1) := by
          unfold f_X4_join
          simp (disch := omega) only [↓lt_eq, ↓rd_n, ↓rd_l, ↓rd_a, ↓rd_s, ↓rd_sl, ↓rd_c, ↓rd_m, ↓rd_i, ↓wrI_n, ↓wrI_l, ↓wrI_a, ↓wrI_s, ↓wrI_sl, ↓wrI_c, ↓wrI_m, ↓wrI_i, ↓wrJ_n, ↓wrZ_n, ↓Option.bind_some, ↓reduceIte, Nat.reduceEqDiff, Nat.reduceLeDiff, Nat.reduceLT, Nat.reduceAdd, Nat.reduceMul, Nat.reduceSub, Nat.reduceDiv, Nat.reduceMod, eq_self, and_true, true_and, or_true, true_or, and_false, false_and, or_false, false_or, not_true_eq_false, not_false_eq_true, and_self, or_self, Bool.false_eq_true, reduceCtorEq, decide_true, decide_false, Nat.zero_le, Nat.le_refl, Nat.lt_irrefl, Nat.not_lt_zero, Nat.zero_ne_one, Nat.one_ne_zero, iN_lit, iN_add, iN_mul, iN_le, iN_lt, iN_eq, iN_m1, m1_iN, m1_le, le_m1, m1_lt, lt_m1, m1_m1, nar_1, Nat.zero_lt_succ]
        rw [bd hJ]
        have hup : ∀ q, up2 (fun _ => false) p true q = decide (q = p) := fun q => by unfold up2; split <;> simp_all
        have hc1 : cnt (up2 (fun _ => false) p true) 9 = 1 := by
          rw [cnt_up rfl 9, if_pos (by omega), cnt_zero.mpr (fun _ _ => rfl)]
        have hL := LY_start (s := s) hp h9 hup (V := fun _ => (1, 1)) rfl
        have hR : RC (up2 (fun _ => false) p true) (fun _ => (1, 1)) (vp_updL v.1 p 1, vp_updL v.2 p 1, upd jo' p (iN 1), upd qu 0 (iN p), iN 1, iN 0) false := by
          refine ⟨fun a ha => ?_, by rw [hc1], rfl, fun q hq => ?_, fun i hi => ?_⟩
          · simp only [updL_at, upd_at]
            by_cases hx : a = p
            · rw [if_pos hx, if_pos hx, if_pos hx, hup, decide_eq_true hx, if_pos rfl, if_pos rfl]
              exact ⟨rfl, rfl, rfl⟩
            · rw [if_neg hx, if_neg hx, if_neg hx, hup, decide_eq_false hx, if_neg (by simp), if_neg (by simp)]
              exact ⟨hz a ha, hv2 a ha⟩
          · rw [hup] at hq
            simp at hq
            exact ⟨0, by rw [hc1]; omega, by simp only [upd_at]; rw [hq]; rfl⟩
          · rw [hc1] at hi
            have : i = 0 := by omega
            subst this
            exact ⟨p, by rw [hup]; simp, by simp only [upd_at]; rfl⟩
        obtain ⟨J, V, jm', D, σ, x1, x2, x3, x4⟩ := s_solve64 (x := x) (y0 := y0) (play := play) (dr := iN p) hs hK hM 9 FU 0 hL hR (fun i hi => by omega) (by omega) (by omega) (FU_lt (by omega))
        obtain ⟨w, w1, w2⟩ := s_solve95 (x := x) (y0 := y0) (kinds := kinds) (teeth := teeth) (play := play) (dr := iN p) hM h55 x1 x2 x3
        exact ⟨w, x4.trans w1, w2⟩
      · exact absurd (hd.trans h55) (hno d hdn)
  · intro fu k jo hk i
    refine ⟨upd jo k (iN 0), fun p hp => ?_, ?_⟩
    · simp only [upd_at]
      by_cases h : p = k
      · rw [if_pos h]
      · rw [if_neg h]; exact i p (by omega)
    · show f_X4_solve_11b x y0 kinds teeth (iN n) dr play (f_X4_solve_11 x y0 kinds teeth (iN n) dr play fu) m' v.1 v.2 jo qu jp jm (iN k) = _
      unfold f_X4_solve_11b
      simp (disch := omega) only [not_le_of hk, ↓lt_eq, ↓rd_n, ↓rd_l, ↓rd_a, ↓rd_s, ↓rd_sl, ↓rd_c, ↓rd_m, ↓rd_i, ↓wrI_n, ↓wrI_l, ↓wrI_a, ↓wrI_s, ↓wrI_sl, ↓wrI_c, ↓wrI_m, ↓wrI_i, ↓wrJ_n, ↓wrZ_n, ↓Option.bind_some, ↓reduceIte, Nat.reduceEqDiff, Nat.reduceLeDiff, Nat.reduceLT, Nat.reduceAdd, Nat.reduceMul, Nat.reduceSub, Nat.reduceDiv, Nat.reduceMod, eq_self, and_true, true_and, or_true, true_or, and_false, false_and, or_false, false_or, not_true_eq_false, not_false_eq_true, and_self, or_self, Bool.false_eq_true, reduceCtorEq, decide_true, decide_false, Nat.zero_le, Nat.le_refl, Nat.lt_irrefl, Nat.not_lt_zero, Nat.zero_ne_one, Nat.one_ne_zero, iN_lit, iN_add, iN_mul, iN_le, iN_lt, iN_eq, iN_m1, m1_iN, m1_le, le_m1, m1_lt, lt_m1, m1_m1, nar_0]
  · intro fu jo _
    show f_X4_solve_11b x y0 kinds teeth (iN n) dr play (f_X4_solve_11 x y0 kinds teeth (iN n) dr play fu) m' v.1 v.2 jo qu jp jm (iN 9) = _
    unfold f_X4_solve_11b
    simp (disch := omega) only [↓lt_eq, ↓reduceIte, Nat.reduceEqDiff, Nat.reduceLeDiff, Nat.reduceLT, Nat.reduceAdd, Nat.reduceMul, Nat.reduceSub, Nat.reduceDiv, Nat.reduceMod, eq_self, and_true, true_and, or_true, true_or, and_false, false_and, or_false, false_or, not_true_eq_false, not_false_eq_true, and_self, or_self, Bool.false_eq_true, reduceCtorEq, decide_true, decide_false, Nat.zero_le, Nat.le_refl, Nat.lt_irrefl, Nat.not_lt_zero, Nat.zero_ne_one, Nat.one_ne_zero, iN_lit, iN_add, iN_mul, iN_le, iN_lt, iN_eq, iN_m1, m1_iN, m1_le, le_m1, m1_lt, lt_m1, m1_m1]
    rfl
