/-! the law's look at one peg -/
section
variable {b : TB} {w : TW} {h : TH} {s sv : Nat → Int32} {many : Int32} {n d p q : Nat} {J : Nat → Bool} {V : Nat → Int × Nat}
theorem ap_ind (hC : Cx b w h s sv many n d J V) (k36 : K36) (k k' : K249) (row : TR) (l1 l2 l3 l4 : Int32) (l5 : Int64) (l7 : Int32) (l8 l10 : Int64) (l13 l14 : Int32) : f_L_arePegsSo_249b b w h k36 k row l1 l2 l3 l4 l5 l7 l8 l10 l13 l14 (iN n) = f_L_arePegsSo_249b b w h k36 k' row l1 l2 l3 l4 l5 l7 l8 l10 l13 l14 (iN n) := by
  obtain ⟨hs, hB, hW, hH, hL, hl⟩ := hC
  unfold f_L_arePegsSo_249b
  rw [show (0 : Int32) = iN 0 from rfl, bd (P_c0 hs hB hW hH), bd (P_c0 hs hB hW hH), if_pos Q00, if_pos Q00, if_pos (show iN n ≤ iN n from Int32.le_refl _), if_pos (show iN n ≤ iN n from Int32.le_refl _)]
/-- how many of the pegs ahead of p mesh with it -/
def lwN (s : Nat → Int32) (p m : Nat) : Nat := cnt (fun q => decide (0 < mS s p q) && decide (q < p)) m
theorem ap_236 (hC : Cx b w h s sv many n d J V) (hp : p < n) (k36 : K36) (row : TR) (l1 l3 : Int32) (l5 : Int64) (c : Nat) : ∃ row' : TR, f_L_arePegsSo_236 b w h k36 row l1 (iN d) l3 (iN c) l5 (iN p) ((lo s).1 p) ((lo s).2.1 p) = k36 row' l1 (iN d) l3 (iN (c + lwN s p n)) l5 (iN (p + 1)) := by
  have h9 := hC.1.2.1
  have H := lp_ex (σ := TR × Nat × Nat) (F := fun fu j x => f_L_arePegsSo_249 b w h k36 fu x.1 l1 (iN d) l3 (iN x.2.1) l5 (iN p) ((lo s).1 p) ((lo s).2.1 p) (iN 1) (iN x.2.2) (iN j)) (N := n) (I := fun j x => x.2.1 = c + lwN s p j ∧ x.2.2 = cnt (fun q => decide (0 < mS s p q)) j) (fun x => f_L_arePegsSo_249b b w h k36 (fun _ _ _ _ _ _ _ _ _ _ _ _ => none) x.1 l1 (iN d) l3 (iN x.2.1) l5 (iN p) ((lo s).1 p) ((lo s).2.1 p) (iN 1) (iN x.2.2) (iN n)) ?_ ?_ n FU 0 (row, c, 0) (by omega) (FU_lt (by omega)) ⟨rfl, rfl⟩
  · obtain ⟨x, ⟨i1, i2⟩, e⟩ := H
    obtain ⟨row', r⟩ := ap_end hC hp k36 (fun _ _ _ _ _ _ _ _ _ _ _ _ => none) x.1 l1 l3 (iN x.2.1) l5
    refine ⟨row', ?_⟩
    unfold f_L_arePegsSo_236 f_L_arePegsSo_241
    refine (show f_L_arePegsSo_249 b w h k36 FU row l1 (iN d) l3 (iN c) l5 (iN p) ((lo s).1 p) ((lo s).2.1 p) 1 0 0 = _ from e).trans ?_
    rw [i2, r, i1]
  · intro fu j x hj hI
    obtain ⟨i1, i2⟩ := hI
    obtain ⟨row', r⟩ := ap_249 hC hp hj k36 (f_L_arePegsSo_249 b w h k36 fu) x.1 l1 (iN d) l3 l5 x.2.1 x.2.2
    exact ⟨(row', x.2.1 + (decide (0 < mS s p j) && decide (j < p)).toNat, x.2.2 + (decide (0 < mS s p j)).toNat), ⟨by show x.2.1 + _ = c + lwN s p (j + 1); rw [i1, Nat.add_assoc]; rfl, by show x.2.2 + _ = _; rw [i2]; rfl⟩, r⟩
  · intro fu x hI
    exact ap_ind hC k36 _ _ x.1 l1 (iN d) l3 (iN x.2.1) l5 (iN p) _ _ (iN 1) (iN x.2.2)
theorem Cx_ne (hC : Cx b w h s sv many n d J V) (hp : p < n) : (lo s).1 p ≠ 0 ↔ jB s = false ∧ J p = true := by
  refine ⟨fun ha => Cx_on hC hp ha, fun hj => ?_⟩
  obtain ⟨a1, -⟩ := Cx_val hC hp hj.1 hj.2
  obtain ⟨o1, -⟩ := small_ok (hC.2.2.2.2.1.2.2.2.2.2.2.2.2.2.1 p hj.2)
  rw [a1, show (0 : Int64) = jZ 0 from rfl, Ne, jZ_eq o1 (by unfold okJ; omega)]
  exact hC.2.2.2.2.1.2.2.2.2.2.2.2.2.1 p hj.2
theorem Cx_be (hC : Cx b w h s sv many n d J V) (hp : p < n) : ∃ B : Nat, 0 < B ∧ B ≤ 6553600000000 ∧ (lo s).2.1 p = jZ (B : Int) ∧ ((lo s).1 p = 0 → B = 1) ∧ (jB s = false → J p = true → B = (V p).2) := by
  have hC0 := hC
  obtain ⟨hs, hB, hW, hH, hL, hl⟩ := hC
  have h9 := hs.2.1
  by_cases hj : jB s = false ∧ J p = true
  · obtain ⟨-, a2⟩ := Cx_val hC0 hp hj.1 hj.2
    have sm := hL.2.2.2.2.2.2.2.2.2.1 p hj.2
    exact ⟨(V p).2, sm.2.2.1, sm.2.2.2, a2, fun e => absurd e ((Cx_ne hC0 hp).mpr hj), fun _ _ => rfl⟩
  · refine ⟨1, by omega, by omega, ?_, fun _ => rfl, fun e1 e2 => absurd ⟨e1, e2⟩ hj⟩
    rw [(hl p (by omega)).2.2, if_neg hj]
    rfl
theorem ap_209 (hC : Cx b w h s sv many n d J V) (hp : p < n) (k36 : K36) (row : TR) (l1 l3 : Int32) (l5 : Int64) (c : Nat) : ∃ row' : TR, f_L_arePegsSo_209 b w h k36 row l1 (iN d) l3 (iN c) l5 (iN p) ((lo s).1 p) ((lo s).2.1 p) = k36 row' l1 (iN d) l3 (iN (c + lwN s p n)) l5 (iN (p + 1)) := by
  have hC0 := hC
  obtain ⟨hs, hB, hW, hH, hL, hl⟩ := hC
  obtain ⟨B, b1, b2_, b3, b4, -⟩ := Cx_be hC0 hp
  obtain ⟨R1, t1⟩ := P_train hs hB hW hp hp row
  obtain ⟨row', r⟩ := ap_236 hC0 hp k36 R1 l1 l3 l5 c
  refine ⟨row', ?_⟩
  unfold f_L_arePegsSo_209
  rw [show (0 : Int32) = iN 0 from rfl, bd t1, if_pos Q00, if_pos (show tpV s p p 0 = 1 from tp_self hs hp)]
  by_cases ha : (lo s).1 p = 0
  · rw [if_pos (show lg_cmp ((lo s).1 p) 0 = iN 0 by rw [cmp_eqN]; exact ha), if_pos (show lg_cmp ((lo s).2.1 p) 1 = iN 0 by rw [cmp_eqN, b3, b4 ha]; rfl)]
    exact r
  · rw [if_neg (show ¬ lg_cmp ((lo s).1 p) 0 = iN 0 by rw [cmp_eqN]; exact ha)]
    exact r
theorem ap_180 (hC : Cx b w h s sv many n d J V) (hp : p < n) (k36 : K36) (row : TR) (l1 l3 : Int32) (c : Nat) : ∃ row' : TR, f_L_arePegsSo_180 b w h k36 row l1 (iN d) l3 (iN c) (mkV s) (iN p) ((lo s).1 p) ((lo s).2.1 p) = k36 row' l1 (iN d) l3 (iN (c + lwN s p n)) (mkV s) (iN (p + 1)) := by
  have hC0 := hC
  obtain ⟨hs, hB, hW, hH, hL, hl⟩ := hC
  obtain ⟨B, b1, b2_, b3, b4, b5⟩ := Cx_be hC0 hp
  obtain ⟨row', r⟩ := ap_209 hC0 hp k36 row l1 l3 (mkV s) c
  refine ⟨row', ?_⟩
  obtain ⟨m1, m2⟩ := mk_ok hs hL hl
  unfold f_L_arePegsSo_180 f_L_arePegsSo_185
  rw [show (0 : Int32) = iN 0 from rfl, if_neg (show ¬ (1 : Int32) = iN 0 from n10)]
  rcases bdic (jB s) with hj | hj
  · obtain ⟨M, e1, e2, e3, e4⟩ := m2 hj
    have hBM : B ∣ M := by
      by_cases hJ : J p = true
      · rw [b5 hj hJ]
        exact e4 p hp hJ
      · have e0 : (lo s).1 p = 0 := Classical.byContradiction (fun ha => hJ (Cx_on hC0 hp ha).2)
        rw [b4 e0]
        exact Nat.one_dvd M
    have ne : ¬ lg_cmp (mkV s) 0 = iN 0 := by
      rw [cmp_eqN, e1, show (0 : Int64) = jZ ((0 : Nat) : Int) from rfl, jZ_eq (ok_nat (by omega)) ok_0]
      omega
    have em : ∀ (X Y : Option (Int32 × TR)), (rmJ (mkV s) ((lo s).2.1 p) fun v37 => if lg_cmp v37 0 = iN 0 then X else Y) = X := by
      intro X Y
      rw [e1, b3, rmJ_z b1 (ok_nat (by omega)) (ok_nat (by omega)), Nat.mod_eq_zero_of_dvd hBM, if_pos (show lg_cmp (jZ ((0 : Nat) : Int)) 0 = iN 0 by rw [cmp_eqN]; rfl)]
    rw [if_neg ne, em]
    exact r
  · rw [if_pos (show lg_cmp (mkV s) 0 = iN 0 by rw [cmp_eqN, m1 hj]; rfl)]
    exact r
theorem ap_132 (hC : Cx b w h s sv many n d J V) (hp : p < n) (k36 : K36) (row : TR) (l3 : Int32) (c : Nat) : ∃ row' : TR, f_L_arePegsSo_132 b w h k36 row (b2 (jB s)) (iN d) l3 (iN c) (mkV s) (iN p) ((lo s).1 p) ((lo s).2.1 p) (b2 (decide ((lo s).1 p ≠ 0))) = k36 row' (b2 (jB s)) (iN d) l3 (iN (c + lwN s p n)) (mkV s) (iN (p + 1)) := by
  have hC0 := hC
  obtain ⟨hs, hB, hW, hH, hL, hl⟩ := hC
  have h9 := hs.2.1
  have hd := hL.1
  obtain ⟨row', r⟩ := ap_180 hC0 hp k36 row (b2 (jB s)) l3 c
  refine ⟨row', ?_⟩
  have ne := Cx_ne hC0 hp
  have jv : pV s n (lo s).1 (lo s).2.2.1 p 8 = b2 (J p) := (hl p (by omega)).1
  unfold f_L_arePegsSo_132 f_L_arePegsSo_152 f_L_arePegsSo_153
  rw [show (0 : Int32) = iN 0 from rfl, show (8 : Int32) = iN 8 from rfl, show (1 : Int32) = iN 1 from rfl]
  have fin : ∀ k : Int32, k = b2 (decide ((lo s).1 p ≠ 0)) → (if b2 (decide ((lo s).1 p ≠ 0)) = k then if iN p = iN d then if b2 (jB s) = iN 0 then if lg_cmp ((lo s).1 p) 1 = iN 0 then if lg_cmp ((lo s).2.1 p) 1 = iN 0 then f_L_arePegsSo_180 b w h k36 row (b2 (jB s)) (iN d) l3 (iN c) (mkV s) (iN p) ((lo s).1 p) ((lo s).2.1 p) else f_L_arePegsSo_184 b w h k36 row (b2 (jB s)) (iN d) l3 (iN c) (mkV s) (iN p) ((lo s).1 p) ((lo s).2.1 p) else f_L_arePegsSo_184 b w h k36 row (b2 (jB s)) (iN d) l3 (iN c) (mkV s) (iN p) ((lo s).1 p) ((lo s).2.1 p) else f_L_arePegsSo_180 b w h k36 row (b2 (jB s)) (iN d) l3 (iN c) (mkV s) (iN p) ((lo s).1 p) ((lo s).2.1 p) else f_L_arePegsSo_180 b w h k36 row (b2 (jB s)) (iN d) l3 (iN c) (mkV s) (iN p) ((lo s).1 p) ((lo s).2.1 p) else f_L_arePegsSo_184 b w h k36 row (b2 (jB s)) (iN d) l3 (iN c) (mkV s) (iN p) ((lo s).1 p) ((lo s).2.1 p)) = k36 row' (b2 (jB s)) (iN d) l3 (iN (c + lwN s p n)) (mkV s) (iN (p + 1)) := by
    intro k hk
    rw [if_pos hk.symm]
    by_cases hpd : p = d
    · rw [if_pos (show iN p = iN d by rw [hpd])]
      rcases bdic (jB s) with hj | hj
      · obtain ⟨a1, a2⟩ := Cx_val hC0 hp hj (by rw [hpd]; exact hL.2.2.1)
        rw [hpd, hL.2.2.2.1] at a1 a2
        rw [hpd] at r ⊢
        rw [if_pos (show b2 (jB s) = iN 0 by rw [hj]; rfl), if_pos (show lg_cmp ((lo s).1 d) 1 = iN 0 by rw [cmp_eqN, a1]; rfl), if_pos (show lg_cmp ((lo s).2.1 d) 1 = iN 0 by rw [cmp_eqN, a2]; rfl)]
        exact r
      · rw [if_neg (show ¬ b2 (jB s) = iN 0 by rw [hj]; exact n10)]
        exact r
    · rw [if_neg (show ¬ iN p = iN d by rw [iN_eq (by omega) (by omega)]; exact hpd)]
      exact r
  rcases bdic (jB s) with hj | hj
  · rw [if_pos (show b2 (jB s) = iN 0 by rw [hj]; rfl), bd (P_peg hs hB hW hp (Nat.le_refl 8)), if_pos Q00, jv]
    rcases bdic (J p) with hJ | hJ
    · rw [hJ, if_neg (show ¬ b2 false = iN 1 by decide)]
      exact fin (iN 0) (by rw [decide_eq_false (fun e => by have := (ne.mp e).2; rw [hJ] at this; cases this)]; rfl)
    · rw [hJ, if_pos (show b2 true = iN 1 from rfl)]
      exact fin (iN 1) (by rw [decide_eq_true (ne.mpr ⟨hj, hJ⟩)]; rfl)
  · rw [if_neg (show ¬ b2 (jB s) = iN 0 by rw [hj]; exact n10)]
    exact fin (iN 0) (by rw [decide_eq_false (fun e => by have := (ne.mp e).1; rw [hj] at this; cases this)]; rfl)
/-- one peg -/
theorem ap_36b (hC : Cx b w h s sv many n d J V) (hp : p < n) (k36 : K36) (row : TR) (c3 c : Nat) : ∃ row' : TR, f_L_arePegsSo_36b b w h k36 row (b2 (jB s)) (iN d) (iN c3) (iN c) (mkV s) (iN p) = k36 row' (b2 (jB s)) (iN d) (iN (c3 + (J p).toNat)) (iN (c + lwN s p n)) (mkV s) (iN (p + 1)) := by
  have hC0 := hC
  obtain ⟨hs, hB, hW, hH, hL, hl⟩ := hC
  have h9 := hs.2.1
  obtain ⟨B, b1, b2_, b3, b4, b5⟩ := Cx_be hC0 hp
  obtain ⟨row', r⟩ := ap_132 hC0 hp k36 row (iN (c3 + (J p).toNat)) c
  refine ⟨row', ?_⟩
  have jv : pV s n (lo s).1 (lo s).2.2.1 p 8 = b2 (J p) := (hl p (by omega)).1
  have ej : iN c3 + b2 (J p) = iN (c3 + (J p).toNat) := by
    cases J p
    · exact iN_add c3 0
    · exact iN_add c3 1
  have ebe : ¬ lg_cmp ((lo s).2.1 p) 0 ≤ iN 0 := by
    rw [cmp_leN, b3, show (0 : Int64) = jZ ((0 : Nat) : Int) from rfl, jZ_lt ok_0 (ok_nat (by omega))]
    omega
  unfold f_L_arePegsSo_36b
  rw [show (0 : Int32) = iN 0 from rfl, show (1 : Int32) = iN 1 from rfl, show (7 : Int32) = iN 7 from rfl, show (8 : Int32) = iN 8 from rfl, bd (P_c0 hs hB hW hH), if_pos Q00, if_neg (show ¬ iN n ≤ iN p by rw [iN_le (by omega) (by omega)]; omega), bd (P_speed hs hB hW hp).1, if_pos Q00, bd (P_speed hs hB hW hp).2, if_pos Q00, bd (P_peg hs hB hW hp (show 7 ≤ 8 by omega)), if_pos Q00, bd (P_peg hs hB hW hp (Nat.le_refl 8)), if_pos Q00, lt_eq, jv, ej, if_neg ebe]
  have v7 : pV s n (lo s).1 (lo s).2.2.1 p 7 = iN (drN ((lo s).1 p)) := rfl
  unfold f_L_arePegsSo_117
  rw [v7, show (0 : Int32) = iN 0 from rfl, show (1 : Int32) = iN 1 from rfl]
  by_cases ha : (lo s).1 p = 0
  · have c0 : lg_cmp ((lo s).1 p) 0 = iN 0 := by rw [cmp_eqN]; exact ha
    rw [decide_eq_false (fun e => e ha)] at r
    rw [if_pos c0, if_pos (show iN (drN ((lo s).1 p)) = iN 0 by unfold drN; rw [if_pos ha]), if_pos c0]
    exact r
  · have c0 : ¬ lg_cmp ((lo s).1 p) 0 = iN 0 := by rw [cmp_eqN]; exact ha
    rw [decide_eq_true ha] at r
    rw [if_neg c0]
    by_cases hpos : 0 < (lo s).1 p
    · rw [if_neg (show ¬ lg_cmp ((lo s).1 p) 0 ≤ iN 0 by rw [cmp_leN]; exact fun e => e hpos), if_pos (show iN (drN ((lo s).1 p)) = iN 1 by unfold drN; rw [if_neg ha, if_pos hpos]), if_neg c0]
      exact r
    · rw [if_pos (show lg_cmp ((lo s).1 p) 0 ≤ iN 0 by rw [cmp_leN]; exact hpos), if_pos (show iN (drN ((lo s).1 p)) = 2 by unfold drN; rw [if_neg ha, if_neg hpos]; rfl), if_neg c0]
      exact r
end
