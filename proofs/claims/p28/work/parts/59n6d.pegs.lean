/-! the law's look at all pegs -/
theorem cnt_cut {P : Nat → Bool} {n : Nat} (hP : ∀ q, P q = true → q < n) : ∀ e, cnt P (n + e) = cnt P n := by
  intro e
  induction e with
  | zero => rfl
  | succ e ih =>
    show cnt P (n + e) + (P (n + e)).toNat = _
    rw [ih]
    rcases bdic (P (n + e)) with hp | hp
    · rw [hp]
      rfl
    · have := hP _ hp
      omega
section
variable {b : TB} {w : TW} {h : TH} {s sv : Nat → Int32} {many : Int32} {n d p q : Nat} {J : Nat → Bool} {V : Nat → Int × Nat}
theorem jC_J (hC : Cx b w h s sv many n d J V) : jC s = cnt J n := by
  obtain ⟨hs, hB, hW, hH, hL, hl⟩ := hC
  have h9 := hs.2.1
  have e1 : jC s = cnt J 9 := cnt_jo (fun p hp => (hl p hp).1)
  have e2 := cnt_cut hL.2.2.2.2.1 (9 - n)
  rw [show n + (9 - n) = 9 by omega] at e2
  rw [e1, e2]
theorem lw_wS (s : Nat → Int32) (n : Nat) : sm (fun p => lwN s p n) n = wS s n 3 ∧ wS s n 3 = sm (fun p => sm (fun q => (decide (0 < mS s p q)).toNat) p) n := by
  have e2 : wS s n 3 = sm (fun p => sm (fun q => (decide (0 < mS s p q)).toNat) p) n := by
    unfold wS
    refine sm_congr (fun p _ => ?_)
    rw [if_neg (by omega), Nat.zero_add]
    refine sm_congr (fun q _ => ?_)
    rw [if_pos rfl, if_neg (by omega), Nat.add_zero]
  refine ⟨?_, e2⟩
  rw [e2]
  refine sm_congr (fun p hp => ?_)
  unfold lwN
  rw [cnt_low (fun q => decide (0 < mS s p q)) n (by omega), ← sm_cnt]
theorem ap_last (hC : Cx b w h s sv many n d J V) (k36 : K36) (row : TR) : f_L_arePegsSo_36b b w h k36 row (b2 (jB s)) (iN d) (iN (cnt J n)) (iN (sm (fun p => lwN s p n) n)) (mkV s) (iN n) = some (1, row) := by
  have hC0 := hC
  have jc := jC_J hC
  obtain ⟨hs, hB, hW, hH, hL, hl⟩ := hC
  have h9 := hs.2.1
  have hd := hL.1
  have jn : cnt J n ≤ n := cnt_le _ _
  have j0 : 0 < cnt J n := cnt_pos hd hL.2.2.1
  obtain ⟨w1, w2⟩ := lw_wS s n
  have ge := pairs_ge hs hL
  rw [← w2] at ge
  have wb : wS s n 3 ≤ 81 := by
    rw [← w1]
    have a1 : sm (fun p => lwN s p n) n ≤ sm (fun _ => 9) n := sm_mono (fun p _ => Nat.le_trans (cnt_le _ _) h9)
    have a2 : ∀ m, sm (fun _ => 9) m = 9 * m := by
      intro m
      induction m with
      | zero => rfl
      | succ m ih =>
        show sm (fun _ => 9) m + 9 = _
        omega
    rw [a2] at a1
    omega
  obtain ⟨m1, m2⟩ := mk_ok hs hL hl
  unfold f_L_arePegsSo_36b f_L_arePegsSo_713 f_L_arePegsSo_725 f_L_arePegsSo_726
  have lt1 : ¬ iN (wS s n 3) < iN (cnt J n) - iN 1 := by
    rw [iN_sub (by omega), iN_lt (by omega) (by omega)]
    omega
  rw [show (0 : Int32) = iN 0 from rfl, show (1 : Int32) = iN 1 from rfl, show (5 : Int32) = iN 5 from rfl, show (3 : Int32) = iN 3 from rfl, bd (P_c0 hs hB hW hH), if_pos Q00, if_pos (show iN n ≤ iN n from Int32.le_refl _), bd (P_c5 hs hB hW hH), if_pos Q00, jc, if_pos rfl, bd (P_c3 hs hB hW hH), if_pos Q00, w1, if_pos rfl]
  rcases bdic (jB s) with hj | hj
  · obtain ⟨M, e1, e2, e3, -⟩ := m2 hj
    rw [hj, if_neg (show ¬ lg_cmp (mkV s) 0 ≤ iN 0 by rw [cmp_leN, e1, show (0 : Int64) = jZ ((0 : Nat) : Int) from rfl, jZ_lt ok_0 (ok_nat (by omega))]; omega), if_neg (nlt0 (show d < 2147483648 by omega)), if_pos (show b2 false = iN 0 from rfl), if_pos rfl, if_neg lt1]
  · rw [hj, if_pos (show lg_cmp (mkV s) 0 ≤ iN 0 by rw [cmp_leN, m1 hj]; exact Int64.lt_irrefl), if_neg (nlt0 (show d < 2147483648 by omega)), if_neg (show ¬ b2 true = iN 0 from n10), if_pos rfl, if_neg lt1]
theorem ap_all (hC : Cx b w h s sv many n d J V) (row : TR) : ∃ row' : TR, f_L_arePegsSo b w row h = some (1, row') := by
  have hC0 := hC
  obtain ⟨hs, hB, hW, hH, hL, hl⟩ := hC
  have h9 := hs.2.1
  have H := lp_ex (σ := TR × Nat × Nat) (F := fun fu j x => f_L_arePegsSo_36 b w h fu x.1 (b2 (jB s)) (iN d) (iN x.2.1) (iN x.2.2) (mkV s) (iN j)) (N := n) (I := fun j x => x.2.1 = cnt J j ∧ x.2.2 = sm (fun p => lwN s p n) j) (fun x => some (1, x.1)) ?_ ?_ n FU 0 (row, 0, 0) (by omega) (FU_lt (by omega)) ⟨rfl, rfl⟩
  · obtain ⟨x, -, e⟩ := H
    refine ⟨x.1, ?_⟩
    unfold f_L_arePegsSo f_L_arePegsSo_15
    rw [show (6 : Int32) = iN 6 from rfl, show (4 : Int32) = iN 4 from rfl, bd (P_c6 hs hB hW hH), if_pos Q00]
    have go : ((f_X5_count b w h (iN 4)).bind fun v2 => if v2.1 = 0 then (f_X5_marks b w).bind fun v3 => f_L_arePegsSo_36 b w h FU row (b2 (jB s)) v2.2 0 0 v3 0 else none) = some (1, x.1) := by
      rw [bd (P_c4 hs hB hW hH), if_pos Q00, bd (C_marks hs hB hW), hL.2.1]
      exact e
    rcases bdic (jB s) with hj | hj
    · rw [hj] at go ⊢
      rw [if_neg (show ¬ b2 false = 1 by decide)]
      exact go
    · rw [hj] at go ⊢
      rw [if_pos (show b2 true = 1 from rfl)]
      exact go
  · intro fu j x hj hI
    obtain ⟨i1, i2⟩ := hI
    obtain ⟨row', r⟩ := ap_36b hC0 hj (f_L_arePegsSo_36 b w h fu) x.1 x.2.1 x.2.2
    exact ⟨(row', x.2.1 + (J j).toNat, x.2.2 + lwN s j n), ⟨by show x.2.1 + _ = _; rw [i1]; rfl, by show x.2.2 + _ = _; rw [i2]; rfl⟩, r⟩
  · intro fu x hI
    obtain ⟨i1, i2⟩ := hI
    show f_L_arePegsSo_36b b w h (f_L_arePegsSo_36 b w h fu) x.1 (b2 (jB s)) (iN d) (iN x.2.1) (iN x.2.2) (mkV s) (iN n) = _
    rw [i1, i2]
    exact ap_last hC0 _ x.1
end
