/-! the law's look at two pegs on a level, and at two pegs -/
def Cx (b : TB) (w : TW) (h : TH) (s sv : Nat → Int32) (many : Int32) (n d : Nat) (J : Nat → Bool) (V : Nat → Int × Nat) : Prop :=
  Good s n ∧ RB b s ∧ Ww w s n ∧ RH h sv many ∧ Ly s n d J V (jB s) ∧ ∀ p, p < 9 → (lo s).2.2.1 p = b2 (J p) ∧ (lo s).1 p = (if jB s = false ∧ J p = true then jZ (V p).1 else jZ 0) ∧ (lo s).2.1 p = (if jB s = false ∧ J p = true then jZ ((V p).2 : Int) else jZ 1)
abbrev K36 : Type := TR → Int32 → Int32 → Int32 → Int32 → Int64 → Int32 → Option (Int32 × TR)
abbrev K249 : Type := TR → Int32 → Int32 → Int32 → Int32 → Int64 → Int32 → Int64 → Int64 → Int32 → Int32 → Int32 → Option (Int32 × TR)
abbrev K392 : Type := TR → Int32 → Int32 → Int32 → Int32 → Int64 → Int32 → Int64 → Int64 → Int32 → Int32 → Int32 → Int32 → Int32 → Option (Int32 × TR)
section
variable {b : TB} {w : TW} {h : TH} {s sv : Nat → Int32} {many : Int32} {n d p q l : Nat} {J : Nat → Bool} {V : Nat → Int × Nat}
theorem Cx_on (hC : Cx b w h s sv many n d J V) (hp : p < n) (ha : (lo s).1 p ≠ 0) : jB s = false ∧ J p = true := by
  obtain ⟨hs, -, -, -, -, hl⟩ := hC
  have h9 := hs.2.1
  refine Classical.byContradiction (fun hn => ha ?_)
  rw [(hl p (by omega)).2.1, if_neg hn]
  rfl
theorem Cx_val (hC : Cx b w h s sv many n d J V) (hp : p < n) (hj : jB s = false) (hJ : J p = true) : (lo s).1 p = jZ (V p).1 ∧ (lo s).2.1 p = jZ ((V p).2 : Int) := by
  obtain ⟨hs, -, -, -, -, hl⟩ := hC
  have h9 := hs.2.1
  obtain ⟨-, e1, e2⟩ := hl p (by omega)
  rw [e1, e2, if_pos ⟨hj, hJ⟩, if_pos ⟨hj, hJ⟩]
  exact ⟨rfl, rfl⟩
theorem ap_470 (hC : Cx b w h s sv many n d J V) (hp : p < n) (hq : q < n) (hl2 : l < 2) (k392 : K392) (row : TR) (l1 l2 l3 l4 : Int32) (l5 : Int64) (l14 l16 l18 : Int32) (σ : Int) (hon : l18 ≠ iN 0 → tS s p q l true = true ∧ (lo s).1 p ≠ 0 ∧ σ = sgI s p q l) : f_L_arePegsSo_470 b w h k392 row l1 l2 l3 l4 l5 (iN p) ((lo s).1 p) ((lo s).2.1 p) (iN 1) l14 (iN q) l16 (iN l) l18 (jZ σ) = k392 row l1 l2 l3 l4 l5 (iN p) ((lo s).1 p) ((lo s).2.1 p) (iN 1) l14 (iN q) l16 (iN (l + 1)) := by
  have hC0 := hC
  obtain ⟨hs, hB, hW, hH, hL, hl⟩ := hC
  have h9 := hs.2.1
  unfold f_L_arePegsSo_470 f_L_arePegsSo_537 f_L_arePegsSo_533 f_L_arePegsSo_538
  rw [show (0 : Int32) = iN 0 from rfl, show (1 : Int32) = iN 1 from rfl, show (2 : Int32) = iN 2 from rfl, if_neg n10]
  by_cases h18 : l18 = iN 0
  · rw [if_pos h18, lt_eq, iN_add l 1]
  · obtain ⟨on, ha, hσ⟩ := hon h18
    obtain ⟨hj, hJ⟩ := Cx_on hC0 hp ha
    have hJq := hL.2.2.2.2.2.2.1 p q hJ hq (tS_mS hl2 on)
    obtain ⟨a1, a2⟩ := Cx_val hC0 hp hj hJ
    obtain ⟨c1, c2⟩ := Cx_val hC0 hq hj hJq
    rw [hj] at hL
    have ed := V_edge hs hL hJ hq hl2 on
    obtain ⟨-, -, -, t1, -⟩ := kt hs (show p < 9 by omega) hl2
    obtain ⟨-, -, -, t2, -⟩ := kt hs (show q < 9 by omega) hl2
    have e : lg_cmp ((lo s).1 p * Int32.toInt64 (pV s n (lo s).1 (lo s).2.2.1 p (2 + l)) * (lo s).2.1 q) (jZ σ * (lo s).1 q * Int32.toInt64 (pV s n (lo s).1 (lo s).2.2.1 q (2 + l)) * (lo s).2.1 p) = iN 0 := by
      rw [cmp_eqN, pV2 hs _ _ hp hl2, pV2 hs _ _ hq hl2, to64 (by omega), to64 (by omega), a1, a2, c1, c2, jZ_mul, jZ_mul, jZ_mul, jZ_mul, jZ_mul, hσ, ed]
    rw [if_neg h18, iN_add 2 l, bd (P_peg hs hB hW hp (show 2 + l ≤ 8 by omega)), if_pos Q00, bd (P_speed hs hB hW hq).2, if_pos Q00, bd (P_speed hs hB hW hq).1, if_pos Q00, bd (P_peg hs hB hW hq (show 2 + l ≤ 8 by omega)), if_pos Q00, if_pos e, lt_eq, iN_add l 1]
theorem ap_421 (hC : Cx b w h s sv many n d J V) (hp : p < n) (hq : q < n) (hl2 : l < 2) (k392 : K392) (row : TR) (l1 l2 l3 l4 : Int32) (l5 : Int64) (l14 l16 l18 : Int32) (hon : l18 ≠ iN 0 → tS s p q l true = true ∧ (lo s).1 p ≠ 0) : f_L_arePegsSo_421 b w h k392 row l1 l2 l3 l4 l5 (iN p) ((lo s).1 p) ((lo s).2.1 p) (iN 1) l14 (iN q) l16 (iN l) l18 = k392 row l1 l2 l3 l4 l5 (iN p) ((lo s).1 p) ((lo s).2.1 p) (iN 1) l14 (iN q) l16 (iN (l + 1)) := by
  have hC0 := hC
  obtain ⟨hs, hB, hW, hH, hL, hl⟩ := hC
  have h9 := hs.2.1
  obtain ⟨-, -, k1, -, -⟩ := kt hs (show p < 9 by omega) hl2
  obtain ⟨-, -, k2, -, -⟩ := kt hs (show q < 9 by omega) hl2
  unfold f_L_arePegsSo_421 f_L_arePegsSo_455 f_L_arePegsSo_456
  rw [show (0 : Int32) = iN 0 from rfl, show (1 : Int32) = iN 1 from rfl, show (4 : Int32) = iN 4 from rfl, show (-1 : Int64) = jZ (-1) from rfl, show (1 : Int64) = jZ 1 from rfl, iN_add 4 l, bd (P_peg hs hB hW hp (show 4 + l ≤ 8 by omega)), if_pos Q00]
  have no : sgI s p q l = 1 → (if iN 0 = iN 0 then f_L_arePegsSo_470 b w h k392 row l1 l2 l3 l4 l5 (iN p) ((lo s).1 p) ((lo s).2.1 p) (iN 1) l14 (iN q) l16 (iN l) l18 (jZ 1) else f_L_arePegsSo_470 b w h k392 row l1 l2 l3 l4 l5 (iN p) ((lo s).1 p) ((lo s).2.1 p) (iN 1) l14 (iN q) l16 (iN l) l18 (jZ (-1))) = k392 row l1 l2 l3 l4 l5 (iN p) ((lo s).1 p) ((lo s).2.1 p) (iN 1) l14 (iN q) l16 (iN (l + 1)) := fun hσ => by
    rw [if_pos rfl]
    exact ap_470 hC0 hp hq hl2 k392 row l1 l2 l3 l4 l5 l14 l16 l18 1 (fun h18 => ⟨(hon h18).1, (hon h18).2, hσ.symm⟩)
  by_cases e1 : kN s p l = 1
  · rw [if_pos (show pV s n (lo s).1 (lo s).2.2.1 p (4 + l) = iN 1 by rw [pV4 hs _ _ hp hl2, e1]), bd (P_peg hs hB hW hq (show 4 + l ≤ 8 by omega)), if_pos Q00]
    by_cases e2 : kN s q l = 1
    · rw [if_pos (show pV s n (lo s).1 (lo s).2.2.1 q (4 + l) = iN 1 by rw [pV4 hs _ _ hq hl2, e2]), if_neg n10]
      exact ap_470 hC0 hp hq hl2 k392 row l1 l2 l3 l4 l5 l14 l16 l18 (-1) (fun h18 => ⟨(hon h18).1, (hon h18).2, by unfold sgI; rw [if_pos ⟨e1, e2⟩]⟩)
    · rw [if_neg (show ¬ pV s n (lo s).1 (lo s).2.2.1 q (4 + l) = iN 1 by rw [pV4 hs _ _ hq hl2, iN_eq (by omega) (by omega)]; exact e2)]
      exact no (by unfold sgI; rw [if_neg (fun e => e2 e.2)])
  · rw [if_neg (show ¬ pV s n (lo s).1 (lo s).2.2.1 p (4 + l) = iN 1 by rw [pV4 hs _ _ hp hl2, iN_eq (by omega) (by omega)]; exact e1)]
    exact no (by unfold sgI; rw [if_neg (fun e => e1 e.1)])
theorem ap_392b (hC : Cx b w h s sv many n d J V) (hp : p < n) (hq : q < n) (hl2 : l < 2) (k249 : K249) (k392 : K392) (row : TR) (l1 l2 l3 l4 : Int32) (l5 : Int64) (l14 : Int32) (ha : (lo s).1 p ≠ 0) : f_L_arePegsSo_392b b w h k249 k392 row l1 l2 l3 l4 l5 (iN p) ((lo s).1 p) ((lo s).2.1 p) (iN 1) l14 (iN q) (iN (mS s p q)) (iN l) = k392 row l1 l2 l3 l4 l5 (iN p) ((lo s).1 p) ((lo s).2.1 p) (iN 1) l14 (iN q) (iN (mS s p q)) (iN (l + 1)) := by
  unfold f_L_arePegsSo_392b
  rw [if_neg (show ¬ 2 ≤ iN l by rw [show (2 : Int32) = iN 2 from rfl, iN_le (by omega) (by omega)]; omega), if_neg (show ¬ lg_cmp ((lo s).1 p) 0 = 0 by rw [cmp_eq]; exact ha)]
  by_cases on : tS s p q l true = true
  · rw [if_pos ((bit_on hl2).mpr on)]
    exact ap_421 hC hp hq hl2 k392 row l1 l2 l3 l4 l5 l14 _ 1 (fun _ => ⟨on, ha⟩)
  · rw [if_neg (fun e => on ((bit_on hl2).mp e))]
    exact ap_421 hC hp hq hl2 k392 row l1 l2 l3 l4 l5 l14 _ 0 (fun e => absurd rfl e)
theorem FU_3 : ∃ f, FU = f + 3 := ⟨3997, rfl⟩
theorem ap_546 (k249 : K249) (row : TR) (l1 l2 l3 l4 : Int32) (l5 : Int64) (l7 : Int32) (l8 l10 : Int64) (l13 l14 : Int32) : f_L_arePegsSo_546 b w h k249 row l1 l2 l3 l4 l5 l7 l8 l10 l13 l14 (iN q) = k249 row l1 l2 l3 l4 l5 l7 l8 l10 l13 l14 (iN (q + 1)) := by
  unfold f_L_arePegsSo_546
  rw [lt_eq, show (1 : Int32) = iN 1 from rfl, iN_add q 1]
theorem ap_392 (hC : Cx b w h s sv many n d J V) (hp : p < n) (hq : q < n) (k249 : K249) (row : TR) (l1 l2 l3 l4 : Int32) (l5 : Int64) (l14 : Int32) : f_L_arePegsSo_392 b w h k249 FU row l1 l2 l3 l4 l5 (iN p) ((lo s).1 p) ((lo s).2.1 p) (iN 1) l14 (iN q) (iN (mS s p q)) (iN 0) = k249 row l1 l2 l3 l4 l5 (iN p) ((lo s).1 p) ((lo s).2.1 p) (iN 1) l14 (iN (q + 1)) := by
  obtain ⟨f, e⟩ := FU_3
  rw [e]
  show f_L_arePegsSo_392b b w h k249 (f_L_arePegsSo_392 b w h k249 (f + 2)) row l1 l2 l3 l4 l5 (iN p) ((lo s).1 p) ((lo s).2.1 p) (iN 1) l14 (iN q) (iN (mS s p q)) (iN 0) = _
  by_cases ha : (lo s).1 p = 0
  · unfold f_L_arePegsSo_392b
    rw [if_neg (show ¬ 2 ≤ iN 0 by decide), if_pos (show lg_cmp ((lo s).1 p) 0 = 0 by rw [cmp_eq]; exact ha)]
    exact ap_546 k249 row l1 l2 l3 l4 l5 _ _ _ _ l14
  · rw [ap_392b hC hp hq (show 0 < 2 by omega) k249 _ row l1 l2 l3 l4 l5 l14 ha]
    show f_L_arePegsSo_392b b w h k249 (f_L_arePegsSo_392 b w h k249 (f + 1)) row l1 l2 l3 l4 l5 (iN p) ((lo s).1 p) ((lo s).2.1 p) (iN 1) l14 (iN q) (iN (mS s p q)) (iN 1) = _
    rw [ap_392b hC hp hq (show 1 < 2 by omega) k249 _ row l1 l2 l3 l4 l5 l14 ha]
    show f_L_arePegsSo_392b b w h k249 (f_L_arePegsSo_392 b w h k249 f) row l1 l2 l3 l4 l5 (iN p) ((lo s).1 p) ((lo s).2.1 p) (iN 1) l14 (iN q) (iN (mS s p q)) (iN 2) = _
    unfold f_L_arePegsSo_392b
    rw [if_pos (show 2 ≤ iN 2 from Int32.le_refl _)]
    exact ap_546 k249 row l1 l2 l3 l4 l5 _ _ _ _ l14
end
