/-! looks: calls of both -/
theorem n10 : ¬ iN 1 = iN 0 := by decide
theorem p00 : iN 0 = iN 0 := rfl
theorem Q00 : 0 = 0 := rfl
theorem Q10 : ¬ 1 = 0 := by decide
abbrev L6 : Type := (Nat → Int64) × (Nat → Int64) × (Nat → Int32) × Int32 × Int64 × Int64
theorem pV_lo {s : Nat → Int32} {n p k : Nat} {ab : Nat → Int64} {jo : Nat → Int32} (hp : p < 9) (h : ∀ p, p < 9 → ab p = (lo s).1 p ∧ jo p = (lo s).2.2.1 p) : pV s n ab jo p k = pV s n (lo s).1 (lo s).2.2.1 p k := by
  unfold pV
  rw [(h p hp).1, (h p hp).2]
theorem C_peg {s : Nat → Int32} {n p k : Nat} (hs : Good s n) {b : TB} (hB : RB b s) {w : TW} (hW : Ww w s n) (hp : p < n) (hk : k ≤ 8) : f_X5_pegProperty b w (iN p) (iN k) = some (pV s n (lo s).1 (lo s).2.2.1 p k) := by
  have h9 := hs.2.1
  have a := (Wk_all hs hW).2.2.2
  rw [s_pegPropC hs hB hW hp hk, pV_lo (by omega) (fun p hp => ⟨(a p hp).1, (a p hp).2.2⟩)]
theorem M_peg {s : Nat → Int32} {n p k : Nat} (hs : Good s n) {v : L6} (hv : Solved s n v.1 v.2.1 v.2.2.1 (jB s)) (hp : p < n) (hk : k ≤ 8) : f_X6_pegOf s v.1 v.2.2.1 (iN p) (iN k) = some (pV s n (lo s).1 (lo s).2.2.1 p k) := by
  have h9 := hs.2.1
  have a := (lo_all hs hv).2.2.2
  rw [s_pegOfM hs (Solved_jo hv) hp hk, pV_lo (by omega) (fun p hp => ⟨(a p hp).1, (a p hp).2.2⟩)]
theorem cV_lo {s : Nat → Int32} {n k : Nat} {ab be : Nat → Int64} {jo : Nat → Int32} {many : Int32} (h1 : gR s ab be = rB s) (h2 : cnt (fun p => decide (jo p = iN 1)) 9 = jC s) : cV s n ab be jo (jB s) many k = cV s n (lo s).1 (lo s).2.1 (lo s).2.2.1 (jB s) many k := by
  unfold cV
  rw [h1, h2]
  rfl
theorem C_count {s : Nat → Int32} {n k : Nat} (hs : Good s n) {b : TB} (hB : RB b s) {w : TW} (hW : Ww w s n) {h : TH} {sv : Nat → Int32} {many : Int32} (hH : RH h sv many) (hk : k ≤ 10) : f_X5_countOf b w h (iN k) = some (cV s n (lo s).1 (lo s).2.1 (lo s).2.2.1 (jB s) many k) := by
  obtain ⟨a1, a2, a3, a4⟩ := Wk_all hs hW
  rw [s_countOf hs hB hW a2 hH hk, cV_lo a1 (cnt_congr (fun p hp => by rw [(a4 p hp).2.2]))]
theorem M_count {s : Nat → Int32} {n k : Nat} (hs : Good s n) {v : L6} (hv : Solved s n v.1 v.2.1 v.2.2.1 (jB s)) (hj : v.2.2.2.1 = b2 (jB s)) {many : Int32} (hk : k ≤ 10) : f_X6_counted s many v.1 v.2.1 v.2.2.1 v.2.2.2.1 (iN k) = some (cV s n (lo s).1 (lo s).2.1 (lo s).2.2.1 (jB s) many k) := by
  obtain ⟨-, a1, a2, -⟩ := lo_all hs hv
  rw [hj, s_counted hs (Solved_jo hv) hk, cV_lo a1 a2]
def mkV (s : Nat → Int32) : Int64 := (f_X6_backBehind s (lo s).2.1 (b2 (jB s))).getD 0
theorem M_marks {s : Nat → Int32} {n : Nat} (hs : Good s n) {v : L6} (hv : Solved s n v.1 v.2.1 v.2.2.1 (jB s)) (hj : v.2.2.2.1 = b2 (jB s)) : f_X6_backBehind s v.2.1 v.2.2.2.1 = some (mkV s) := by
  obtain ⟨-, -, -, a⟩ := lo_all hs hv
  obtain ⟨x, x1, x2⟩ := s_marks hs (nu := (lo s).1) (de := (lo s).2.1) (fun p _ => ⟨rfl, fun _ => rfl⟩) (lo_ok hs)
  obtain ⟨y, y1, y2⟩ := s_marks hs (nu := (lo s).1) (de := (lo s).2.1) (fun p hp => ⟨(a p hp).1.symm, fun _ => (a p hp).2.1.symm⟩) hv
  rw [hj, y2]
  unfold mkV
  rw [x2]
  rw [x1] at y1
  injection y1 with y1
  rw [y1]
  rfl
theorem C_marks {s : Nat → Int32} {n : Nat} (hs : Good s n) {b : TB} (hB : RB b s) {w : TW} (hW : Ww w s n) : f_X5_marks b w = some (mkV s) := by
  obtain ⟨a1, a2, a3, a4⟩ := Wk_all hs hW
  obtain ⟨x, x1, x2⟩ := s_marks hs (nu := w.2.1) (de := w.2.2.1) (fun p hp => ⟨(a4 p hp).1, (a4 p hp).2.1⟩) (lo_ok hs)
  unfold f_X5_marks mkV
  rw [RB_pegs hs hB, bd x1, x2]
  rfl
theorem shV_lo {s : Nat → Int32} {n : Nat} (h9 : n ≤ 9) {ab : Nat → Int64} (h : ∀ p, p < 9 → ab p = (lo s).1 p) : shV ab n = shV (lo s).1 n := by
  unfold shV tnN
  rw [cnt_congr (fun p hp => by rw [h p (by omega)])]
theorem C_share {s : Nat → Int32} {n : Nat} (hs : Good s n) {b : TB} (hB : RB b s) {w : TW} (hW : Ww w s n) : f_X5_turningShare b w = some (shV (lo s).1 n) := by
  obtain ⟨a1, a2, a3, a4⟩ := Wk_all hs hW
  rw [s_shareC hs hB w, shV_lo hs.2.1 (fun p hp => (a4 p hp).1)]
theorem M_share {s : Nat → Int32} {n : Nat} (hs : Good s n) {v : L6} (hv : Solved s n v.1 v.2.1 v.2.2.1 (jB s)) : f_X6_share s v.1 = some (shV (lo s).1 n) := by
  obtain ⟨-, -, -, a⟩ := lo_all hs hv
  rw [s_shareM hs v.1, shV_lo hs.2.1 (fun p hp => (a p hp).1)]
theorem lay6 {s : Nat → Int32} {n : Nat} (hs : Good s n) (ab be : Nat → Int64) (jo : Nat → Int32) (j0 : Int32) (r1 r2 : Int64) : ∃ v : L6, f_X6_layOut s ab be jo j0 r1 r2 = some v ∧ Solved s n v.1 v.2.1 v.2.2.1 (jB s) ∧ v.2.2.2.1 = b2 (jB s) := by
  obtain ⟨v, v1, v2, v3, -⟩ := lay hs ab be jo j0 r1 r2
  exact ⟨v, v1, v2, v3⟩
theorem s_rng (v : Int32) (b : Nat) (hb : b < 1000) : (∃ k, k ≤ b ∧ v = iN k ∧ ¬ v < 0 ∧ ¬ iN b < v ∧ f_X6_in v (iN 0) (iN b) = some (iN 1)) ∨ ((v < 0 ∨ ¬ v < 0 ∧ iN b < v) ∧ f_X6_in v (iN 0) (iN b) = some (iN 0)) := by
  rcases s_in (v := v) (a := 0) (b := b) (by omega) (by omega) with ⟨h, e⟩ | ⟨k, rfl, -, hk, e⟩
  · exact Or.inr ⟨h, e⟩
  · exact Or.inl ⟨k, hk, rfl, by rw [iN_lit, iN_lt (by omega) (by omega)]; omega, by rw [iN_lt (by omega) (by omega)]; omega, e⟩
section
variable {b : TB} {w : TW} {s : Nat → Int32} {n : Nat}
theorem o_peg (hs : Good s n) (hB : RB b s) (hW : Ww w s n) (th : Int32) (ab be : Nat → Int64) (jo : Nat → Int32) (j0 : Int32) (r1 r2 : Int64) (p1 p2 : Int32) : ∃ (c : Nat) (v v2 : Int32) (τ : L6), f_X5_peg b w p1 p2 = some (c, v) ∧ f_X6_peg th s ab be jo j0 r1 r2 p1 p2 = some (v2, iN c, τ) ∧ (c = 0 → v2 = v) ∧ c ≤ 2 := by
  obtain ⟨v, v1, v2, v3⟩ := lay6 hs ab be jo j0 r1 r2
  unfold f_X5_peg f_X6_peg f_X6_peg_32
  rw [bd v1, show (0 : Int32) = iN 0 from rfl, show (8 : Int32) = iN 8 from rfl, show (1 : Int32) = iN 1 from rfl, show (2 : Int32) = iN 2 from rfl]
  rcases s_needPeg hs hB p1 with ⟨p, hp, rfl, c1, m1⟩ | ⟨c1, m1⟩
  · rw [bd c1, if_pos Q00, bd m1, if_neg n10]
    rcases s_rng p2 8 (by omega) with ⟨k, hk, rfl, n1, n2, m2⟩ | ⟨n1, m2⟩
    · unfold f_X5_peg_20
      rw [if_neg (show ¬ iN k < iN 0 from n1), if_neg n2, bd need1, if_pos Q00, bd (C_peg hs hB hW hp hk), bd m2, if_neg n10, bd (holds0 th), if_neg n10, bd (M_peg hs v2 hp hk)]
      exact ⟨0, _, _, v, rfl, rfl, fun _ => rfl, by decide⟩
    · unfold f_X5_peg_19 f_X5_peg_20
      rw [bd m2, if_pos p00, bd (holds2 th), if_pos p00]
      refine ⟨2, 0, 0, v, ?_, rfl, fun _ => rfl, by decide⟩
      rcases n1 with n1 | ⟨n1, n2⟩
      · rw [if_pos (show p2 < iN 0 from n1)]
        rfl
      · rw [if_neg (show ¬ p2 < iN 0 from n1), if_pos n2]
        rfl
  · rw [bd c1, if_neg Q10, bd m1, if_pos p00, bd (holds1 th), if_pos p00]
    exact ⟨1, 0, 0, v, rfl, rfl, fun _ => rfl, by decide⟩
theorem o_speed (hs : Good s n) (hB : RB b s) (hW : Ww w s n) (th : Int32) (ab be : Nat → Int64) (jo : Nat → Int32) (j0 : Int32) (r1 r2 : Int64) (p1 p2 : Int32) : ∃ (c : Nat) (v v2 : Int64) (τ : L6), f_X5_speed b w p1 p2 = some (c, v) ∧ f_X6_speed th s ab be jo j0 r1 r2 p1 p2 = some (v2, iN c, τ) ∧ (c = 0 → v2 = v) ∧ c ≤ 2 := by
  have h9 := hs.2.1
  obtain ⟨v, v1, v2, v3⟩ := lay6 hs ab be jo j0 r1 r2
  have aW := (Wk_all hs hW).2.2.2
  have aM := (lo_all hs v2).2.2.2
  have e1 : (1 : Int32) = iN 1 := rfl
  have e0 : (0 : Int32) = iN 0 := rfl
  unfold f_X5_speed f_X6_speed f_X6_speed_31 f_X5_speed_14 f_X5_speed_19
  rw [bd v1, e0, e1, show (2 : Int32) = iN 2 from rfl]
  rcases s_needPeg hs hB p1 with ⟨p, hp, rfl, c1, m1⟩ | ⟨c1, m1⟩
  · rw [bd c1, if_pos Q00, bd m1, if_neg n10]
    have hp9 : p < 9 := by omega
    rcases s_rng p2 1 (by omega) with ⟨k, hk, rfl, n1, n2, m2⟩ | ⟨n1, m2⟩
    · rcases (show k = 0 ∨ k = 1 by omega) with rfl | rfl
      · simp only [if_pos p00, bd need1, if_pos Q00, rd_n hp9 (show p < 2147483648 by omega), bd m2, if_neg n10, bd (holds0 th), (aW p hp9).1, (aM p hp9).1]
        exact ⟨0, _, _, v, rfl, rfl, fun _ => rfl, by decide⟩
      · simp only [if_neg n10, if_pos (show iN 1 = iN 1 from rfl), bd need1, if_pos Q00, rd_n hp9 (show p < 2147483648 by omega), bd m2, bd (holds0 th), (aW p hp9).2.1 hp, (aM p hp9).2.1]
        exact ⟨0, _, _, v, rfl, rfl, fun _ => rfl, by decide⟩
    · have q0 : ¬ p2 = iN 0 := fun e => by
        rcases n1 with n1 | ⟨-, n2⟩
        · rw [e] at n1; exact absurd n1 (by decide)
        · rw [e] at n2; exact absurd n2 (by decide)
      have q1 : ¬ p2 = iN 1 := fun e => by
        rcases n1 with n1 | ⟨-, n2⟩
        · rw [e] at n1; exact absurd n1 (by decide)
        · rw [e] at n2; exact absurd n2 (by decide)
      rw [if_neg q0, if_neg q1, bd need0, if_neg (by decide), bd m2, if_pos p00, bd (holds2 th), if_pos p00]
      exact ⟨2, 0, 0, v, rfl, rfl, fun _ => rfl, by decide⟩
  · rw [bd c1, if_neg Q10, bd m1, if_pos p00, bd (holds1 th), if_pos p00]
    exact ⟨1, 0, 0, v, rfl, rfl, fun _ => rfl, by decide⟩
theorem o_meshes (hs : Good s n) (hB : RB b s) (hW : Ww w s n) (th p1 p2 : Int32) : ∃ (c : Nat) (v v2 : Int32), f_X5_meshes b w p1 p2 = some (c, v) ∧ f_X6_meshes th s p1 p2 = some (v2, iN c) ∧ (c = 0 → v2 = v) ∧ (c = 0 ∨ c = 1) := by
  have h9 := hs.2.1
  unfold f_X5_meshes f_X6_meshes f_X6_meshes_21 f_X6_meshes_22
  rw [show (0 : Int32) = iN 0 from rfl, show (1 : Int32) = iN 1 from rfl]
  rcases s_needPeg hs hB p1 with ⟨p, hp, rfl, c1, m1⟩ | ⟨c1, m1⟩
  · rw [bd c1, if_pos Q00, bd m1, if_neg n10]
    rcases s_needPeg hs hB p2 with ⟨q, hq, rfl, c2, m2⟩ | ⟨c2, m2⟩
    · rw [bd c2, if_pos Q00, bd m2, if_neg n10, bd (s_levelsOf hs hW.1 hp hq), bd (holds0 th), if_neg n10, bd (s_meshed hs (show p < 9 by omega) (show q < 9 by omega))]
      exact ⟨0, _, _, rfl, rfl, fun _ => rfl, Or.inl rfl⟩
    · rw [bd c2, if_neg Q10, bd m2, if_pos p00, bd (holds1 th), if_pos p00]
      exact ⟨1, 0, 0, rfl, rfl, fun _ => rfl, Or.inr rfl⟩
  · rw [bd c1, if_neg Q10, bd m1, if_pos p00, bd (holds1 th), if_pos p00]
    exact ⟨1, 0, 0, rfl, rfl, fun _ => rfl, Or.inr rfl⟩
theorem o_count (hs : Good s n) (hB : RB b s) (hW : Ww w s n) {h : TH} {sv : Nat → Int32} {many : Int32} (hH : RH h sv many) (th : Int32) (ab be : Nat → Int64) (jo : Nat → Int32) (j0 : Int32) (r1 r2 : Int64) (p1 : Int32) : ∃ (c : Nat) (v v2 : Int32) (τ : L6), f_X5_count b w h p1 = some (c, v) ∧ f_X6_count th s many ab be jo j0 r1 r2 p1 = some (v2, iN (c - 1), τ) ∧ (c = 0 → v2 = v) ∧ (c = 0 ∨ c = 2) := by
  obtain ⟨v, v1, v2, v3⟩ := lay6 hs ab be jo j0 r1 r2
  unfold f_X5_count f_X6_count f_X6_count_20
  rw [bd v1, show (0 : Int32) = iN 0 from rfl, show (10 : Int32) = iN 10 from rfl, show (1 : Int32) = iN 1 from rfl]
  rcases s_rng p1 10 (by omega) with ⟨k, hk, rfl, n1, n2, m2⟩ | ⟨n1, m2⟩
  · unfold f_X5_count_15
    rw [if_neg (show ¬ iN k < iN 0 from n1), if_neg n2, bd need1, if_pos Q00, bd (C_count hs hB hW hH hk), bd m2, if_neg n10, bd (holds0 th), if_neg n10, bd (M_count hs v2 v3 hk)]
    exact ⟨0, _, _, v, rfl, rfl, fun _ => rfl, Or.inl rfl⟩
  · unfold f_X5_count_14 f_X5_count_15
    rw [bd m2, if_pos p00, bd (holds1 th), if_pos p00]
    refine ⟨2, 0, 0, v, ?_, rfl, fun _ => rfl, Or.inr rfl⟩
    rcases n1 with n1 | ⟨n1, n2⟩
    · rw [if_pos (show p1 < iN 0 from n1)]
      rfl
    · rw [if_neg (show ¬ p1 < iN 0 from n1), if_pos n2]
      rfl
theorem o_marks (hs : Good s n) (hB : RB b s) (hW : Ww w s n) (th : Int32) (ab be : Nat → Int64) (jo : Nat → Int32) (j0 : Int32) (r1 r2 : Int64) : ∃ (v : Int64) (τ : L6), f_X5_marks b w = some v ∧ f_X6_marks th s ab be jo j0 r1 r2 = some (v, iN 0, τ) := by
  obtain ⟨v, v1, v2, v3⟩ := lay6 hs ab be jo j0 r1 r2
  refine ⟨mkV s, v, C_marks hs hB hW, ?_⟩
  unfold f_X6_marks
  rw [lt_eq, bd v1, bd (M_marks hs v2 v3)]
  rfl
theorem o_share (hs : Good s n) (hB : RB b s) (hW : Ww w s n) (th : Int32) (ab be : Nat → Int64) (jo : Nat → Int32) (j0 : Int32) (r1 r2 : Int64) : ∃ (v : UInt64) (τ : L6), f_X5_turningShare b w = some v ∧ f_X6_turningShare th s ab be jo j0 r1 r2 = some (v, iN 0, τ) ∧ shOK v := by
  obtain ⟨v, v1, v2, v3⟩ := lay6 hs ab be jo j0 r1 r2
  refine ⟨shV (lo s).1 n, v, C_share hs hB hW, ?_, shV_ok hs.2.1⟩
  unfold f_X6_turningShare
  rw [lt_eq, bd v1, bd (M_share hs v2)]
  rfl
theorem o_solution (hs : Good s n) (hB : RB b s) (hW : Ww w s n) (T : TB) (tw : TW) (th : Int32) (a : Nat → Int32) (ab be : Nat → Int64) (jo : Nat → Int32) (j0 : Int32) (r1 r2 : Int64) (p1 : Int32) : ∃ (c : Nat) (v v2 : Int32) (T' : TB) (tw' : TW) (σ : TA), f_X5_solution b w T tw p1 = some (c, v, T', tw') ∧ f_X6_solution th s a ab be jo j0 r1 r2 p1 = some (v2, iN (c - 1), σ) ∧ σ.1 = s ∧ (c = 0 → v2 = v) ∧ (c = 0 ∨ c = 2) := by
  have h9 := hs.2.1
  unfold f_X5_solution f_X6_solution f_X6_solution_15
  rw [show (0 : Int32) = iN 0 from rfl, show (2 : Int32) = iN 2 from rfl, show (1 : Int32) = iN 1 from rfl]
  rcases s_rng p1 2 (by omega) with ⟨k, hk, rfl, n1, n2, m2⟩ | ⟨n1, m2⟩
  · obtain ⟨x, T', tw', f1, f2⟩ := s_findChange hs hB hW T tw
    obtain ⟨y, σ, g1, g2, g3⟩ := s_solutionOf hs hk a ab be jo j0 r1 r2
    have e := fcR_one f2 g3
    subst e
    unfold f_X5_solution_14
    rw [if_neg (show ¬ iN k < iN 0 from n1), if_neg n2, bd need1, if_pos Q00, bd f1, bd (s_partO h9 f2 hk), bd m2, if_neg n10, bd (holds0 th), if_neg n10, bd g1]
    exact ⟨0, _, _, T', tw', σ, rfl, rfl, g2, fun _ => rfl, Or.inl rfl⟩
  · unfold f_X5_solution_13 f_X5_solution_14
    rw [bd m2, if_pos p00, bd (holds1 th), if_pos p00]
    refine ⟨2, 0, 0, T, tw, (s, a, ab, be, jo, j0, r1, r2), ?_, rfl, rfl, fun _ => rfl, Or.inr rfl⟩
    rcases n1 with n1 | ⟨n1, n2⟩
    · rw [if_pos (show p1 < iN 0 from n1)]
      rfl
    · rw [if_neg (show ¬ p1 < iN 0 from n1), if_pos n2]
      rfl
theorem o_culprit (hs : Good s n) (hB : RB b s) (hW : Ww w s n) (T : TB) (tw : TW) (th : Int32) (a : Nat → Int32) (ab be : Nat → Int64) (jo : Nat → Int32) (j0 : Int32) (r1 r2 : Int64) : ∃ (v : Int32) (T' : TB) (tw' : TW) (σ : TA), f_X5_culprit b w T tw = some (v, T', tw') ∧ f_X6_culprit th s a ab be jo j0 r1 r2 = some (v, iN 0, σ) ∧ σ.1 = s := by
  obtain ⟨x, T', tw', f1, f2⟩ := s_culpritC hs hB hW T tw
  obtain ⟨y, σ, g1, g2, g3⟩ := s_freesM hs a ab be jo j0 r1 r2
  have e := cuR_one f2 g3
  subst e
  refine ⟨oN x, T', tw', σ, f1, ?_, g2⟩
  unfold f_X6_culprit
  rw [lt_eq, bd g1]
  rfl
theorem s_ifPutC (hs : Good s n) (hB : RB b s) (T : TB) (tw : TW) {p l t k : Nat} (hp : p < n) (hl : l < 2) (ht : t ≤ 20) (hk : k ≤ 3) : ∃ T' tw', f_X5_ifPut_35 b (iN p) (iN l) (iN t) (iN k) T tw (iN 1) = some (0, wpV s (sPut s p l (kG t) t) n p l k, T', tw') := by
  have h9 := hs.2.1
  have hp9 : p < 9 := by omega
  obtain ⟨v, v1, v2⟩ := s_startTrial T hB
  have hn := RB_pegs hs v2
  obtain ⟨hX, hK, r0, r1, r2, r3, r4, r5⟩ := v2
  have hG := Good_put hs hp9 hl (kG_le t) (show t ≤ 40 by omega) (kG_0 t)
  have kg : f_X5_kindOfGear (iN t) = some (iN (kG t)) := s_kindOfGear (by omega)
  have rp := s_replace (kinds := v.2.2.1) (teeth := v.2.2.2.1) (iN (kG t)) (iN t) hp9 hl
  have hK' := RK_put (k := kG t) (t := t) hK hp9 hl
  have hX' : RX v.1 v.2.1 (sPut s p l (kG t) t) := RX_put hX
  have hi : ∀ j, 55 ≤ j → sPut s p l (kG t) t j = s j := fun j hj => sPut_hi s hp9 hl hj
  generalize sPut s p l (kG t) t = u at *
  have y5 := r5.trans (hi 59 (by omega)).symm
  have fi : f_X0_fits v.1 v.2.1 (upd v.2.2.1 (l * 9 + p) (iN (kG t))) (upd v.2.2.2.1 (l * 9 + p) (iN t)) (iN n) v.2.2.2.2.2.2.2.2.2 (iN p) (iN l) = some (b2 (fit u n p l)) := s_fits hG hX' hK' y5 hp9 hl
  have mo := s_meshesOnLevel hG hX' hK' y5 hp9 hl
  obtain ⟨w', w1, w2⟩ := s_solve hG hX' hK' y5 (r1.trans (hi 55 (by omega)).symm) tw.1 tw.2.1 tw.2.2.1 tw.2.2.2.1 tw.2.2.2.2.1 tw.2.2.2.2.2.1 tw.2.2.2.2.2.2
  obtain ⟨a1, a2, a3, a4⟩ := Wk_all hG (Ww_of w2)
  have rc := s_reachC hG w'.2.1 w'.2.2.1 (r2.trans (hi 56 (by omega)).symm) (r3.trans (hi 57 (by omega)).symm) (r4.trans (hi 58 (by omega)).symm)
  rw [a1] at rc
  have jb : f_X5_toNumber w'.2.2.2.2.2.2 = some (b2 (jB u)) := by rw [a2]; exact s_toNumber _
  have tn0 : f_X5_toNumber (iN 0) = some (iN 0) := rfl
  have tn1 : f_X5_toNumber (iN 1) = some (iN 1) := rfl
  unfold f_X5_ifPut_35 wpV
  rw [bd need1, if_pos Q00, bd v1, bd kg, bd rp, hn]
  rcases (show k = 0 ∨ k = 1 ∨ k = 2 ∨ k = 3 by omega) with rfl | rfl | rfl | rfl
  · rw [if_pos z0, bd fi, if_pos rfl]
    rcases bdic (fit u n p l) with hf | hf
    · rw [hf, if_pos (show b2 false = 0 from rfl), if_neg (by decide)]
      exact ⟨_, _, rfl⟩
    · rw [hf, if_neg (show ¬ b2 true = 0 by decide), if_pos rfl, bd mo]
      exact ⟨_, _, rfl⟩
  · rw [if_neg z1, bd w1, if_pos (show iN 1 = 1 from rfl), bd jb, if_neg (by omega), if_pos rfl]
    exact ⟨_, _, rfl⟩
  · rw [if_neg (show ¬ iN 2 = 0 by decide), bd w1, if_neg (show ¬ iN 2 = 1 by decide), if_pos (show iN 2 = 2 from rfl), a3, if_neg (by omega), if_neg (by omega), if_pos rfl]
    exact ⟨_, _, rfl⟩
  · unfold f_X5_ifPut_158 f_X5_ifPut_159
    rw [if_neg (show ¬ iN 3 = 0 by decide), bd w1, if_neg (show ¬ iN 3 = 1 by decide), if_neg (show ¬ iN 3 = 2 by decide), if_neg (show ¬ 3 = 0 by omega), if_neg (show ¬ 3 = 1 by omega), if_neg (show ¬ 3 = 2 by omega), show (0 : Int32) = iN 0 from rfl, show (1 : Int32) = iN 1 from rfl, bd rc]
    by_cases h5 : s 55 = -iN 1
    · rw [if_pos (show v.2.2.2.2.2.1 = -iN 1 from r1.trans h5), bd tn0, decide_eq_false (by simp [h5]), Bool.false_and]
      exact ⟨_, _, rfl⟩
    · rw [if_neg (show ¬ v.2.2.2.2.2.1 = -iN 1 from fun e => h5 (r1.symm.trans e)), decide_eq_true h5, Bool.true_and]
      rcases bdic (rB u) with hr | hr
      · rw [hr, if_pos (show b2 false = iN 0 from rfl), bd tn0]
        exact ⟨_, _, rfl⟩
      · rw [hr, if_neg (show ¬ b2 true = iN 0 by decide), bd tn1]
        exact ⟨_, _, rfl⟩
theorem o_ifPut (hs : Good s n) (hB : RB b s) (T : TB) (tw : TW) (th : Int32) (a : Nat → Int32) (ab be : Nat → Int64) (jo : Nat → Int32) (j0 : Int32) (r1 r2 : Int64) (p1 p2 p3 p4 : Int32) : ∃ (c : Nat) (v v2 : Int32) (T' : TB) (tw' : TW) (σ : TA), f_X5_ifPut b T tw p1 p2 p3 p4 = some (c, v, T', tw') ∧ f_X6_ifPut th s a ab be jo j0 r1 r2 p1 p2 p3 p4 = some (v2, iN c, σ) ∧ σ.1 = s ∧ (c = 0 → v2 = v) ∧ c ≤ 2 := by
  have bad : f_X5_ifPut_34 b p1 p2 p3 p4 T tw = some (2, 0, T, tw) := rfl
  have badM : f_X6_ifPut_41 p1 p2 p3 p4 th s a ab be jo j0 r1 r2 = some (0, iN 2, s, a, ab, be, jo, j0, r1, r2) := rfl
  have e0 : (0 : Int32) = iN 0 := rfl
  have e1 : (1 : Int32) = iN 1 := rfl
  have e3 : (3 : Int32) = iN 3 := rfl
  have e20 : (20 : Int32) = iN 20 := rfl
  unfold f_X5_ifPut f_X6_ifPut
  rw [bad, badM, e0, e1, e3, e20]
  rcases s_needPeg hs hB p1 with ⟨p, hp, rfl, c1, m1⟩ | ⟨c1, m1⟩
  · rw [bd c1, if_pos Q00, bd m1, if_neg n10]
    rcases s_level p2 with ⟨l, hl, rfl, c2, m2⟩ | ⟨c2, m2⟩
    · rw [bd c2, if_neg n10, bd m2, if_neg n10]
      rcases s_gear p3 with ⟨t, ht, rfl, c3, m3⟩ | ⟨c3, m3⟩
      · rw [bd c3, if_neg n10, bd m3, if_neg n10]
        rcases s_rng p4 3 (by omega) with ⟨k, hk, rfl, n1, n2, m4⟩ | ⟨n1, m4⟩
        · obtain ⟨T', tw', x1⟩ := s_ifPutC hs hB T tw hp hl ht hk
          obtain ⟨a', ab', be', jo', j0', r1', r2', x2⟩ := s_wouldPut hs hp hl ht hk a ab be jo j0 r1 r2
          rw [if_neg (show ¬ iN k < iN 0 from n1), if_neg n2, x1, bd m4, if_neg n10]
          unfold f_X6_ifPut_46
          rw [bd (holds0 th), if_neg (show ¬ iN 1 = 0 by decide), bd x2]
          exact ⟨0, _, _, T', tw', _, rfl, rfl, rfl, fun _ => rfl, by decide⟩
        · rw [bd m4, if_pos p00]
          refine ⟨2, 0, 0, T, tw, _, ?_, rfl, rfl, fun _ => rfl, by decide⟩
          rcases n1 with n1 | ⟨n1, n2⟩
          · rw [if_pos (show p4 < iN 0 from n1)]
            rfl
          · rw [if_neg (show ¬ p4 < iN 0 from n1), if_pos n2]
            rfl
      · rw [bd c3, if_pos p00, bd m3, if_pos p00]
        exact ⟨2, 0, 0, T, tw, _, rfl, rfl, rfl, fun _ => rfl, by decide⟩
    · rw [bd c2, if_pos p00, bd m2, if_pos p00]
      exact ⟨2, 0, 0, T, tw, _, rfl, rfl, rfl, fun _ => rfl, by decide⟩
  · rw [bd c1, if_neg Q10, bd m1, if_pos p00]
    unfold f_X6_ifPut_46
    rw [bd (holds1 th), if_pos z0]
    exact ⟨1, 0, 0, T, tw, _, rfl, rfl, rfl, fun _ => rfl, by decide⟩
end
