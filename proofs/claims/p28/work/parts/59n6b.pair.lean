/-! the law's look at two pegs; at one peg -/
section
variable {b : TB} {w : TW} {h : TH} {s sv : Nat → Int32} {many : Int32} {n d p q : Nat} {J : Nat → Bool} {V : Nat → Int × Nat}
theorem ap_387 (hC : Cx b w h s sv many n d J V) (hp : p < n) (hq : q < n) (k249 : K249) (row : TR) (l1 l2 l3 l4 : Int32) (l5 : Int64) (l14 : Int32) : f_L_arePegsSo_382 b w h k249 row l1 l2 l3 l4 l5 (iN p) ((lo s).1 p) ((lo s).2.1 p) l14 (iN q) (iN (mS s p q)) = k249 row l1 l2 l3 l4 l5 (iN p) ((lo s).1 p) ((lo s).2.1 p) (iN 1) l14 (iN (q + 1)) := by
  unfold f_L_arePegsSo_382 f_L_arePegsSo_387
  exact ap_392 hC hp hq k249 row l1 l2 l3 l4 l5 l14
theorem ap_303 (hC : Cx b w h s sv many n d J V) (hp : p < n) (hq : q < n) (k249 : K249) (row : TR) (l1 l2 l3 : Int32) (l5 : Int64) (l14 : Int32) (c e : Nat) : ∃ row' : TR, f_L_arePegsSo_303 b w h k249 row l1 l2 l3 l5 (iN p) ((lo s).1 p) ((lo s).2.1 p) (iN 1) l14 (iN q) (iN (mS s p q)) (iN c) (iN e) = k249 row' l1 l2 l3 (iN (c + e)) l5 (iN p) ((lo s).1 p) ((lo s).2.1 p) (iN 1) l14 (iN (q + 1)) := by
  have hC0 := hC
  obtain ⟨hs, hB, hW, hH, hL, hl⟩ := hC
  have h9 := hs.2.1
  have hm4 := mS_lt s p q
  obtain ⟨R1, t1⟩ := P_train hs hB hW hp hq row
  obtain ⟨R2, t2⟩ := P_train hs hB hW hq hp R1
  obtain ⟨R3, t3⟩ := P_train hs hB hW hp hq R2
  unfold f_L_arePegsSo_303
  rw [lt_eq, show (0 : Int32) = iN 0 from rfl, show (8 : Int32) = iN 8 from rfl, if_neg n10, bd (P_meshes hs hB hW hq hp), if_pos Q00, if_pos (show iN (mS s p q) = iN (mS s q p) by rw [mS_symm hs (show p < 9 by omega) (show q < 9 by omega)]), bd t1, if_pos Q00, bd t2, if_pos Q00, if_pos (tp_symm hs hp hq), iN_add c e]
  by_cases hm : mS s p q = 0
  · refine ⟨R2, ?_⟩
    rw [if_pos (show iN (mS s p q) = iN 0 by rw [hm])]
    exact ap_387 hC0 hp hq k249 R2 l1 l2 l3 _ l5 l14
  · refine ⟨R3, ?_⟩
    have hm0 : 0 < mS s p q := by omega
    have eJ : J p = J q := by
      have hm1 : 0 < mS s q p := by rw [mS_symm hs (show q < 9 by omega) (show p < 9 by omega)]; exact hm0
      cases a : J p <;> cases c : J q
      · rfl
      · have := hL.2.2.2.2.2.2.1 q p c hp hm1
        rw [a] at this
        cases this
      · have := hL.2.2.2.2.2.2.1 p q a hq hm0
        rw [c] at this
        cases this
      · rfl
    have e8 : pV s n (lo s).1 (lo s).2.2.1 p 8 = pV s n (lo s).1 (lo s).2.2.1 q 8 := by
      show (lo s).2.2.1 p = (lo s).2.2.1 q
      rw [(hl p (by omega)).1, (hl q (by omega)).1, eJ]
    rw [if_neg (show ¬ iN (mS s p q) = iN 0 by rw [iN_eq (by omega) (by omega)]; exact hm), bd (P_peg hs hB hW hp (Nat.le_refl 8)), if_pos Q00, bd (P_peg hs hB hW hq (Nat.le_refl 8)), if_pos Q00, if_pos e8, bd t3, if_pos Q00, if_pos (show tpV s p q 0 = 2 from tp_mesh hs hp hq hm0)]
    exact ap_387 hC0 hp hq k249 R3 l1 l2 l3 _ l5 l14
/-- one pair -/
theorem ap_249 (hC : Cx b w h s sv many n d J V) (hp : p < n) (hq : q < n) (k36 : K36) (k249 : K249) (row : TR) (l1 l2 l3 : Int32) (l5 : Int64) (c c2 : Nat) : ∃ row' : TR, f_L_arePegsSo_249b b w h k36 k249 row l1 l2 l3 (iN c) l5 (iN p) ((lo s).1 p) ((lo s).2.1 p) (iN 1) (iN c2) (iN q) = k249 row' l1 l2 l3 (iN (c + (decide (0 < mS s p q) && decide (q < p)).toNat)) l5 (iN p) ((lo s).1 p) ((lo s).2.1 p) (iN 1) (iN (c2 + (decide (0 < mS s p q)).toNat)) (iN (q + 1)) := by
  have hC0 := hC
  obtain ⟨hs, hB, hW, hH, hL, hl⟩ := hC
  have h9 := hs.2.1
  have hm4 := mS_lt s p q
  unfold f_L_arePegsSo_249b
  rw [show (0 : Int32) = iN 0 from rfl, show (1 : Int32) = iN 1 from rfl, bd (P_c0 hs hB hW hH), if_pos Q00, if_neg (show ¬ iN n ≤ iN q by rw [iN_le (by omega) (by omega)]; omega), bd (P_meshes hs hB hW hp hq), if_pos Q00]
  unfold f_L_arePegsSo_281 f_L_arePegsSo_302
  by_cases hm : mS s p q = 0
  · have z1 : iN (mS s p q) ≤ iN 0 := by rw [hm]; exact Int32.le_refl _
    rw [if_pos z1, lt_eq, show (0 : Int32) = iN 0 from rfl, if_pos z1, iN_add c2 0, decide_eq_false (show ¬ 0 < mS s p q by omega), Bool.false_and]
    exact ap_303 hC0 hp hq k249 row l1 l2 l3 l5 _ c 0
  · have z1 : ¬ iN (mS s p q) ≤ iN 0 := by rw [iN_le (by omega) (by omega)]; omega
    rw [if_neg z1, lt_eq, show (0 : Int32) = iN 0 from rfl, show (1 : Int32) = iN 1 from rfl, if_neg z1, iN_add c2 1, decide_eq_true (show 0 < mS s p q by omega), Bool.true_and]
    by_cases hqp : q < p
    · rw [if_neg (show ¬ iN p ≤ iN q by rw [iN_le (by omega) (by omega)]; omega), decide_eq_true hqp]
      exact ap_303 hC0 hp hq k249 row l1 l2 l3 l5 _ c 1
    · rw [if_pos (show iN p ≤ iN q by rw [iN_le (by omega) (by omega)]; omega), decide_eq_false hqp]
      exact ap_303 hC0 hp hq k249 row l1 l2 l3 l5 _ c 0
/-- behind the last pair of a peg -/
theorem ap_609 (hC : Cx b w h s sv many n d J V) (hp : p < n) (k36 : K36) (row : TR) (l1 l3 l4 : Int32) (l5 : Int64) : ∃ row' : TR, f_L_arePegsSo_609 b w h k36 row l1 (iN d) l3 l4 l5 (iN p) = k36 row' l1 (iN d) l3 l4 l5 (iN (p + 1)) := by
  obtain ⟨hs, hB, hW, hH, hL, hl⟩ := hC
  have h9 := hs.2.1
  have hd := hL.1
  obtain ⟨R1, t1⟩ := P_train hs hB hW hd hp row
  refine ⟨R1, ?_⟩
  unfold f_L_arePegsSo_609 f_L_arePegsSo_614 f_L_arePegsSo_642 f_L_arePegsSo_659 f_L_arePegsSo_662 f_L_arePegsSo_667
  have jv : pV s n (lo s).1 (lo s).2.2.1 p 8 = b2 (J p) := (hl p (by omega)).1
  rw [show (0 : Int32) = iN 0 from rfl, show (8 : Int32) = iN 8 from rfl, if_neg (show ¬ (1 : Int32) = iN 0 from n10), if_neg (nlt0 (show d < 2147483648 by omega)), bd t1, if_pos Q00]
  have fin : (lt (iN p + 1) fun y13 => k36 R1 l1 (iN d) l3 l4 l5 y13) = k36 R1 l1 (iN d) l3 l4 l5 (iN (p + 1)) := by
    rw [lt_eq, show (1 : Int32) = iN 1 from rfl, iN_add p 1]
  rcases bdic (J p) with hj | hj
  · rw [if_pos (show tpV s d p 0 < 1 by rw [tp_J hs hL hp]; exact hj), bd (P_peg hs hB hW hp (Nat.le_refl 8)), if_pos Q00, jv, hj, if_neg (show ¬ b2 false = 1 by decide), if_pos p00, if_neg (show ¬ (1 : Int32) = iN 0 from n10)]
    exact fin
  · rw [if_neg (show ¬ tpV s d p 0 < 1 by rw [tp_J hs hL hp, hj]; decide), bd (P_peg hs hB hW hp (Nat.le_refl 8)), if_pos Q00, jv, hj, if_pos (show b2 true = 1 from rfl), if_pos rfl, if_neg (show ¬ (1 : Int32) = iN 0 from n10)]
    exact fin
theorem ap_end (hC : Cx b w h s sv many n d J V) (hp : p < n) (k36 : K36) (k249 : K249) (row : TR) (l1 l3 l4 : Int32) (l5 : Int64) : ∃ row' : TR, f_L_arePegsSo_249b b w h k36 k249 row l1 (iN d) l3 l4 l5 (iN p) ((lo s).1 p) ((lo s).2.1 p) (iN 1) (iN (cnt (fun q => decide (0 < mS s p q)) n)) (iN n) = k36 row' l1 (iN d) l3 l4 l5 (iN (p + 1)) := by
  have hC0 := hC
  obtain ⟨hs, hB, hW, hH, hL, hl⟩ := hC
  have h9 := hs.2.1
  have hd := hL.1
  unfold f_L_arePegsSo_249b
  rw [show (0 : Int32) = iN 0 from rfl, show (6 : Int32) = iN 6 from rfl, show (1 : Int32) = iN 1 from rfl, bd (P_c0 hs hB hW hH), if_pos Q00, if_pos (show iN n ≤ iN n from Int32.le_refl _), if_neg n10, bd (P_peg hs hB hW hp (show 6 ≤ 8 by omega)), if_pos Q00, if_pos (show iN (cnt (fun q => decide (0 < mS s p q)) n) = pV s n (lo s).1 (lo s).2.2.1 p 6 from rfl), if_neg (nlt0 (show d < 2147483648 by omega))]
  by_cases ha : (lo s).1 p = 0
  · rw [if_pos (show lg_cmp ((lo s).1 p) 0 = iN 0 by rw [cmp_eqN]; exact ha)]
    exact ap_609 hC0 hp k36 row l1 l3 l4 l5
  · obtain ⟨hj, hJ⟩ := Cx_on hC0 hp ha
    obtain ⟨a1, a2⟩ := Cx_val hC0 hp hj hJ
    have hL' := hL
    rw [hj] at hL'
    obtain ⟨r1, r2⟩ := rt_val hs hL' hp hJ
    obtain ⟨⟨R1, t1⟩, -⟩ := P_ratio hs hB hW hd hp row
    obtain ⟨-, R2, t2⟩ := P_ratio hs hB hW hd hp R1
    rw [if_neg (show ¬ lg_cmp ((lo s).1 p) 0 = iN 0 by rw [cmp_eqN]; exact ha), bd t1, if_pos Q00, if_pos (show lg_cmp (trL s d p).1 ((lo s).1 p) = iN 0 by rw [cmp_eqN, r1, a1]), bd t2, if_pos Q00, if_pos (show lg_cmp (trL s d p).2.1 ((lo s).2.1 p) = iN 0 by rw [cmp_eqN, r2, a2])]
    exact ap_609 hC0 hp k36 R2 l1 l3 l4 l5
end
