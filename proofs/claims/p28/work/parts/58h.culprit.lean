/-! who jams -/
def clr (s : Nat → Int32) (p : Nat) : Nat → Int32 := sPut (sPut s p 0 0 0) p 1 0 0
def frB (s : Nat → Int32) (p : Nat) : Bool := !jB (clr s p) && decide (1 < jC (clr s p))
theorem Good_clr {s : Nat → Int32} {n p : Nat} (hs : Good s n) (hp : p < 9) : Good (clr s p) n := Good_put (Good_put hs hp (by omega) (by omega) (by omega) (by omega)) hp (by omega) (by omega) (by omega) (by omega)
theorem clr_hi {s : Nat → Int32} {p j : Nat} (hp : p < 9) (hj : 55 ≤ j) : clr s p j = s j := by
  unfold clr
  rw [sPut_hi _ hp (by omega) hj, sPut_hi _ hp (by omega) hj]
theorem s_frees {s : Nat → Int32} {n p : Nat} (hs : Good s n) {b : TB} (hB : RB b s) (T : TB) (tw : TW) (hp : p < n) : ∃ T' tw', f_X5_freesJam b T tw (iN p) = some (b2 (frB s p), T', tw') := by
  have h9 := hs.2.1
  have hp9 : p < 9 := by omega
  obtain ⟨v, v1, v2⟩ := s_startTrial T hB
  have st : ∀ (f l : Nat) (T : TB), l < 2 → f_X5_freesJam_6 b (iN p) (f + 1) T tw (iN l) = f_X5_freesJam_6 b (iN p) f (T.1, T.2.1, upd T.2.2.1 (l * 9 + p) (iN 0), upd T.2.2.2.1 (l * 9 + p) (iN 0), T.2.2.2.2.1, T.2.2.2.2.2.1, T.2.2.2.2.2.2.1, T.2.2.2.2.2.2.2.1, T.2.2.2.2.2.2.2.2.1, T.2.2.2.2.2.2.2.2.2) tw (iN (l + 1)) := by
    intro f l T hl
    have r := s_replace (kinds := T.2.2.1) (teeth := T.2.2.2.1) (iN 0) (iN 0) hp9 hl
    show f_X5_freesJam_6b b (iN p) (f_X5_freesJam_6 b (iN p) f) T tw (iN l) = _
    unfold f_X5_freesJam_6b
    rw [if_neg (by rw [iN_lit, iN_le (by omega) (by omega)]; omega), show (0 : Int32) = iN 0 from rfl, bd r, lt_eq, show iN l + 1 = iN (l + 1) from iN_add l 1]
  have en : ∀ (f : Nat) (T : TB), RB T (clr s p) → ∃ tw', f_X5_freesJam_6 b (iN p) (f + 1) T tw (iN 2) = some (b2 (frB s p), T, tw') := by
    intro f T hT
    have hG := Good_clr hs hp9
    obtain ⟨w', w1, w2⟩ := s_solveB hG hT tw
    obtain ⟨a1, a2, a3, a4⟩ := Wk_all hG (Ww_of w2)
    refine ⟨w', ?_⟩
    have hc : jC (clr s p) ≤ 9 := cnt_le _ _
    show f_X5_freesJam_6b b (iN p) (f_X5_freesJam_6 b (iN p) f) T tw (iN 2) = _
    unfold f_X5_freesJam_6b frB
    rw [if_pos (show (2 : Int32) ≤ iN 2 from Int32.le_refl _), bd w1]
    rcases bdic (jB (clr s p)) with h | h
    · rw [if_pos (show w'.2.2.2.2.2.2 = 0 by rw [a2, h]; rfl), h]
      by_cases h1 : 1 < jC (clr s p)
      · rw [if_neg (show ¬ w'.2.2.2.2.2.1 ≤ 1 by rw [a3, iN_lit, iN_le (by omega) (by omega)]; omega), decide_eq_true h1]
        rfl
      · rw [if_pos (show w'.2.2.2.2.2.1 ≤ 1 by rw [a3, iN_lit, iN_le (by omega) (by omega)]; omega), decide_eq_false h1]
        rfl
    · rw [if_neg (show ¬ w'.2.2.2.2.2.2 = 0 by rw [a2, h]; decide), h, Bool.not_true, Bool.false_and]
      rfl
  have hR : RB (v.1, v.2.1, upd (upd v.2.2.1 (0 * 9 + p) (iN 0)) (1 * 9 + p) (iN 0), upd (upd v.2.2.2.1 (0 * 9 + p) (iN 0)) (1 * 9 + p) (iN 0), v.2.2.2.2.1, v.2.2.2.2.2.1, v.2.2.2.2.2.2.1, v.2.2.2.2.2.2.2.1, v.2.2.2.2.2.2.2.2.1, v.2.2.2.2.2.2.2.2.2) (clr s p) := by
    obtain ⟨hX, hK, r0, r1, r2, r3, r4, r5⟩ := v2
    have hG := Good_clr hs hp9
    exact ⟨RX_put (RX_put hX), RK_put (RK_put hK hp9 (by omega)) hp9 (by omega), r0.trans (hs.1.trans hG.1.symm), r1.trans (clr_hi hp9 (by omega)).symm, r2.trans (clr_hi hp9 (by omega)).symm, r3.trans (clr_hi hp9 (by omega)).symm, r4.trans (clr_hi hp9 (by omega)).symm, r5.trans (clr_hi hp9 (by omega)).symm⟩
  obtain ⟨f, hf⟩ : ∃ f, FU = f + 1 + 1 + 1 := ⟨3997, rfl⟩
  obtain ⟨tw', e⟩ := en f _ hR
  refine ⟨_, tw', Eq.trans ?_ e⟩
  unfold f_X5_freesJam
  rw [bd v1, hf, show (0 : Int32) = iN 0 from rfl, st _ 0 _ (by omega), st _ 1 _ (by omega)]
def cuB (s : Nat → Int32) (p : Nat) : Bool := !decide (s 55 = iN p) && frB s p
def cuR (s : Nat → Int32) (n : Nat) (x : Option Nat) : Prop := match x with
  | none => jB s = false ∨ ∀ c, c < n → cuB s c = false
  | some c => jB s = true ∧ c < n ∧ cuB s c = true ∧ ∀ i, i < c → cuB s i = false
theorem cuR_one {s : Nat → Int32} {n : Nat} {x y : Option Nat} (h1 : cuR s n x) (h2 : cuR s n y) : x = y := by
  cases x with
  | none =>
    cases y with
    | none => rfl
    | some c =>
      obtain ⟨a1, a3, a4, a5⟩ := h2
      rcases h1 with h | h
      · rw [a1] at h; cases h
      · rw [h c a3] at a4; cases a4
  | some d =>
    cases y with
    | none =>
      obtain ⟨a1, a3, a4, a5⟩ := h1
      rcases h2 with h | h
      · rw [a1] at h; cases h
      · rw [h d a3] at a4; cases a4
    | some c =>
      obtain ⟨a1, a3, a4, a5⟩ := h1
      obtain ⟨b1, b3, b4, b5⟩ := h2
      rcases Nat.lt_trichotomy c d with h | h | h
      · rw [a5 c h] at b4; cases b4
      · rw [h]
      · rw [b5 d h] at a4; cases a4
theorem s_culpritC {s : Nat → Int32} {n : Nat} (hs : Good s n) {b : TB} (hB : RB b s) {w : TW} (hW : Ww w s n) (T : TB) (tw : TW) : ∃ x T' tw', f_X5_culprit b w T tw = some (oN x, T', tw') ∧ cuR s n x := by
  have h9 := hs.2.1
  have e55 : b.2.2.2.2.2.1 = s 55 := hB.2.2.2.1
  unfold f_X5_culprit
  rw [(Wk_all hs hW).2.1]
  rcases bdic (jB s) with hj | hj
  · rw [hj, if_pos (show b2 false = 0 from rfl)]
    exact ⟨none, T, tw, rfl, Or.inl hj⟩
  · rw [hj, if_neg (show ¬ b2 true = 0 by decide)]
    have H := lp_first (σ := TB × TW) (F := fun fu j σ => f_X5_culprit_14 b w fu σ.1 σ.2 (iN j)) (N := n) (I := fun _ => True) (cuB s) (fun c σ => some (iN c, σ.1, σ.2)) (fun σ => some (-1, σ.1, σ.2)) ?_ ?_ n FU 0 (T, tw) (by omega) (FU_lt (by omega)) trivial (fun i hi => by omega)
    · rcases H with ⟨hno, σ, -, e⟩ | ⟨c, hc1, hc2, hc3, σ, -, e⟩
      · exact ⟨none, σ.1, σ.2, e, Or.inr hno⟩
      · exact ⟨some c, σ.1, σ.2, e, hj, hc1, hc2, hc3⟩
    · rintro fu j ⟨T1, tw1⟩ hj2 -
      by_cases hd : s 55 = iN j
      · refine ⟨(T1, tw1), trivial, ?_⟩
        rw [if_neg (by unfold cuB; rw [decide_eq_true hd]; simp)]
        show f_X5_culprit_14b b w (f_X5_culprit_14 b w fu) T1 tw1 (iN j) = _
        unfold f_X5_culprit_14b f_X5_culprit_46
        rw [RB_pegs hs hB, if_neg (by rw [iN_le (by omega) (by omega)]; omega), if_pos (by rw [e55, hd]), lt_eq, show iN j + 1 = iN (j + 1) from iN_add j 1]
      · obtain ⟨T2, tw2, c1⟩ := s_frees hs hB T1 tw1 hj2
        refine ⟨(T2, tw2), trivial, ?_⟩
        have ec : cuB s j = frB s j := by unfold cuB; rw [decide_eq_false hd]; rfl
        rw [ec]
        show f_X5_culprit_14b b w (f_X5_culprit_14 b w fu) T1 tw1 (iN j) = _
        unfold f_X5_culprit_14b f_X5_culprit_46
        rw [RB_pegs hs hB, if_neg (by rw [iN_le (by omega) (by omega)]; omega), if_neg (by rw [e55]; exact fun h => hd h.symm), bd c1]
        rcases bdic (frB s j) with h | h
        · rw [h, if_pos (show b2 false = 0 from rfl), if_neg (by decide), lt_eq, show iN j + 1 = iN (j + 1) from iN_add j 1]
        · rw [h, if_neg (show ¬ b2 true = 0 by decide), if_pos rfl]
    · rintro fu ⟨T1, tw1⟩ -
      show f_X5_culprit_14b b w (f_X5_culprit_14 b w fu) T1 tw1 (iN n) = _
      unfold f_X5_culprit_14b
      rw [RB_pegs hs hB, if_pos (Int32.le_refl _)]
theorem s_freesM {s : Nat → Int32} {n : Nat} (hs : Good s n) (a : Nat → Int32) (ab be : Nat → Int64) (jo : Nat → Int32) (j0 : Int32) (r1 r2 : Int64) : ∃ (x : Option Nat) (σ : TA), f_X6_frees s a ab be jo j0 r1 r2 = some (oN x, σ) ∧ σ.1 = s ∧ cuR s n x := by
  have h9 := hs.2.1
  obtain ⟨v, v1, v2, v3, v4, v5, v6⟩ := lay hs ab be jo j0 r1 r2
  unfold f_X6_frees
  rw [bd v1, v3]
  rcases bdic (jB s) with hj | hj
  · refine ⟨none, (s, a, v.1, v.2.1, v.2.2.1, v.2.2.2.1, v.2.2.2.2.1, v.2.2.2.2.2), ?_, rfl, Or.inl hj⟩
    rw [hj, if_pos (show b2 false = 0 from rfl), ← v3.trans (congrArg b2 hj)]
    rfl
  · rw [hj, if_neg (show ¬ b2 true = 0 by decide)]
    have H := lp_first (σ := TA) (ρ := Int32 × TA) (F := fun fu j σ => f_X6_frees_15 fu σ.1 σ.2.1 σ.2.2.1 σ.2.2.2.1 σ.2.2.2.2.1 σ.2.2.2.2.2.1 σ.2.2.2.2.2.2.1 σ.2.2.2.2.2.2.2 (iN j)) (N := n) (I := fun σ => σ.1 = s) (cuB s) (fun c σ => some (iN c, σ)) (fun σ => some (-1, σ)) ?_ ?_ n FU 0 (s, a, v.1, v.2.1, v.2.2.1, b2 true, v.2.2.2.2.1, v.2.2.2.2.2) (by omega) (FU_lt (by omega)) rfl (fun i hi => by omega)
    · rcases H with ⟨hno, σ, hσ, e⟩ | ⟨c, hc1, hc2, hc3, σ, hσ, e⟩
      · exact ⟨none, σ, e, hσ, Or.inr hno⟩
      · exact ⟨some c, σ, e, hσ, hj, hc1, hc2, hc3⟩
    · rintro fu c ⟨s1, a1, ab1, be1, jo1, j1, q1, q2⟩ hc hI
      have hI : s1 = s := hI
      subst hI
      have hp9 : c < 9 := by omega
      by_cases hd : s1 55 = iN c
      · refine ⟨(s1, a1, ab1, be1, jo1, j1, q1, q2), rfl, ?_⟩
        rw [if_neg (by unfold cuB; rw [decide_eq_true hd]; simp)]
        show f_X6_frees_15b (f_X6_frees_15 fu) s1 a1 ab1 be1 jo1 j1 q1 q2 (iN c) = _
        unfold f_X6_frees_15b f_X6_frees_91
        rw [rd_0 (by omega), hs.1, if_neg (by rw [iN_le (by omega) (by omega)]; omega), rd_55, if_pos hd.symm, lt_eq, show iN c + 1 = iN (c + 1) from iN_add c 1]
      · have hG := Good_clr hs hp9
        obtain ⟨a', e1, e2⟩ := s_putAside s1 a1
        have p1 : f_X6_put s1 (iN c) (iN 0) (iN 0) (iN 0) = some (sPut s1 c 0 0 0) := s_put (k := 0) (t := 0) hp9 (by omega) (by omega)
        have p2 : f_X6_put (sPut s1 c 0 0 0) (iN c) (iN 1) (iN 0) (iN 0) = some (clr s1 c) := s_put (k := 0) (t := 0) hp9 (by omega) (by omega)
        obtain ⟨u, u1, u2, u3, u4, u5, u6⟩ := lay hG ab1 be1 jo1 j1 q1 q2
        have uj := (s_joined (Solved_jo u2)).trans (by rw [u5])
        have bk := s_back (u := clr s1 c) e2 (fun j hj => clr_hi hp9 (by omega))
        have hcc : jC (clr s1 c) ≤ 9 := cnt_le _ _
        have ec : cuB s1 c = frB s1 c := by unfold cuB; rw [decide_eq_false hd]; rfl
        refine ⟨(s1, a', u.1, u.2.1, u.2.2.1, u.2.2.2.1, u.2.2.2.2.1, u.2.2.2.2.2), rfl, ?_⟩
        rw [ec]
        show f_X6_frees_15b (f_X6_frees_15 fu) s1 a1 ab1 be1 jo1 j1 q1 q2 (iN c) = _
        have e0 : (0 : Int32) = iN 0 := rfl
        have ee1 : (1 : Int32) = iN 1 := rfl
        unfold f_X6_frees_15b f_X6_frees_91 f_X6_frees_79 f_X6_frees_80 f_X6_frees_91 frB
        rw [rd_0 (by omega), hs.1, if_neg (by rw [iN_le (by omega) (by omega)]; omega), rd_55, if_neg (fun h => hd h.symm), bd e1, e0, ee1, bd p1, bd p2, bd u1, u3]
        rcases bdic (jB (clr s1 c)) with h | h
        · rw [h, if_pos (show b2 false = iN 0 from rfl), bd uj]
          by_cases h1 : 1 < jC (clr s1 c)
          · rw [if_neg (by rw [iN_le (by omega) (by omega)]; omega), bd bk, if_neg (by decide), decide_eq_true h1, if_pos (by rfl)]
          · rw [if_pos (by rw [iN_le (by omega) (by omega)]; omega), bd bk, if_pos (by rfl), decide_eq_false h1, if_neg (by decide), lt_eq, iN_add]
        · rw [h, if_neg (show ¬ b2 true = iN 0 by decide), bd bk, if_pos (by rfl), if_neg (by simp), lt_eq, iN_add]
    · rintro fu ⟨s1, a1, ab1, be1, jo1, j1, q1, q2⟩ hI
      have hI : s1 = s := hI
      subst hI
      show f_X6_frees_15b (f_X6_frees_15 fu) s1 a1 ab1 be1 jo1 j1 q1 q2 (iN n) = _
      unfold f_X6_frees_15b
      rw [rd_0 (by omega), hs.1, if_pos (Int32.le_refl _)]
