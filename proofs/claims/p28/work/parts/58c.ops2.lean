/-! moved, turned over, driven, set -/
theorem o_move {b : TB} {w : TW} {h : TH} {s sv : Nat → Int32} {many : Int32} (hS : St b w h s sv many) (t : TB) (th p1 px py : Int32) : OpR (f_X5_move b w t h p1 px py) (f_X6_move th s sv many p1 px py) (fun c => c) (fun c => c ≤ 3) := by
  have hS0 := hS
  obtain ⟨n, hs, hd, hB, hW, hH⟩ := hS
  have h9 := hs.2.1
  rcases s_needPeg hs hB p1 with ⟨p, hp, rfl, c1, m1⟩ | ⟨c1, m1⟩
  · have hp9 : p < 9 := by omega
    rcases s_place px py with ⟨c2, m2⟩ | ⟨c2, m2⟩
    · obtain ⟨v, v1, v2⟩ := s_startTrial t hB
      have hn := RB_pegs hs v2
      have mf := s_moveFault hs hd hp m2
      obtain ⟨x', y', e, hX'⟩ := s_tryShift hs hd v2.1 v2.2.1 v2.2.2.2.2.2.2.2 hp px py
      rcases bdic (mvOK s n p px py) with hf | hf
      · rw [hf] at e
        rw [hf, if_neg (by decide)] at mf
        refine ⟨3, 0, b, w, (x', y', v.2.2.1, v.2.2.2.1, iN n, v.2.2.2.2.2.1, v.2.2.2.2.2.2.1, v.2.2.2.2.2.2.2.1, v.2.2.2.2.2.2.2.2.1, v.2.2.2.2.2.2.2.2.2), h, 0, s, sv, many, ?_, ?_, fun _ => rfl, Nat.le_refl _, hS0⟩
        · unfold f_X5_move
          rw [bd c1, if_pos rfl, bd c2, if_pos rfl, bd v1, hn, bd e, if_pos (show b2 false = 0 from rfl)]
        · unfold f_X6_move
          rw [bd mf, bd (holds3 th), if_pos z0]
      · have hX'' := hX' hf
        rw [hf] at e
        rw [if_pos hf] at mf
        have hG := Good_move (px := px) (py := py) hs hp9
        have ho : ∀ q, q < n → atP s px py q = true → q = p := by
          unfold mvOK at hf
          rw [Bool.and_eq_true] at hf
          exact of_decide_eq_true hf.1
        have hD := Dst_move h9 hp9 hd ho
        have hi : ∀ j, 55 ≤ j → sMove s p px py j = s j := fun j hj => sMove_hi hp9 (by omega)
        have hR' : RB (x', y', v.2.2.1, v.2.2.2.1, iN n, v.2.2.2.2.2.1, v.2.2.2.2.2.2.1, v.2.2.2.2.2.2.2.1, v.2.2.2.2.2.2.2.2.1, v.2.2.2.2.2.2.2.2.2) (sMove s p px py) := by
          obtain ⟨-, r6, -, r1, r2, r3, r4, r5⟩ := v2
          exact ⟨hX'', RK_move r6 hp9, hG.1.symm, r1.trans (hi 55 (by omega)).symm, r2.trans (hi 56 (by omega)).symm, r3.trans (hi 57 (by omega)).symm, r4.trans (hi 58 (by omega)).symm, r5.trans (hi 59 (by omega)).symm⟩
        obtain ⟨b', w', h', sv', many', k1, k2, k3, k4, k5⟩ := St_keep (w := w) hs hd hB hH hR' hG hD
        refine ⟨0, iN (cnt (fun q => decide (0 < mS (sMove s p px py) p q)) n), b', w', (x', y', v.2.2.1, v.2.2.2.1, iN n, v.2.2.2.2.2.1, v.2.2.2.2.2.2.1, v.2.2.2.2.2.2.2.1, v.2.2.2.2.2.2.2.2.1, v.2.2.2.2.2.2.2.2.2), h', iN (cnt (fun q => decide (0 < mS (sMove s p px py) p q)) n), sMove s p px py, sv', many', ?_, ?_, fun _ => rfl, Nat.zero_le _, k5⟩
        · unfold f_X5_move
          rw [bd c1, if_pos rfl, bd c2, if_pos rfl, bd v1, hn, bd e, if_neg (show ¬ b2 true = 0 by decide), bd k1, RB_pegs hG k3, bd (s_neighbours hG k4.1 hp)]
        · unfold f_X6_move
          rw [bd mf, bd (holds0 th), if_neg z1, bd k2, bd (s_goTo hp9 px py), bd (s_partners3 hG hp9)]
    · have mf : f_X6_moveFault s (iN p) px py = some (iN 2, s) := by
        unfold f_X6_moveFault
        rw [bd (isPegT hs hp).1, if_neg z1, bd m2, if_pos z0]
        rfl
      refine ⟨2, 0, b, w, t, h, 0, s, sv, many, ?_, ?_, fun _ => rfl, by decide, hS0⟩
      · unfold f_X5_move
        rw [bd c1, if_pos rfl, bd c2, if_neg (by decide)]
      · unfold f_X6_move
        rw [bd mf, bd (holds2 th), if_pos z0]
  · have mf : f_X6_moveFault s p1 px py = some (iN 1, s) := by
      unfold f_X6_moveFault
      rw [bd m1, if_pos z0]
      rfl
    refine ⟨1, 0, b, w, t, h, 0, s, sv, many, ?_, ?_, fun _ => rfl, by decide, hS0⟩
    · unfold f_X5_move
      rw [bd c1, if_neg (by decide)]
    · unfold f_X6_move
      rw [bd mf, bd (holds1 th), if_pos z0]
theorem o_flip {b : TB} {w : TW} {h : TH} {s sv : Nat → Int32} {many : Int32} (hS : St b w h s sv many) (t : TB) (th p1 : Int32) : OpR (f_X5_flip b w t h p1) (f_X6_flip th s sv many p1) (fun c => if c = 3 then 2 else c) (fun c => c = 0 ∨ c = 1 ∨ c = 3) := by
  have hS0 := hS
  obtain ⟨n, hs, hd, hB, hW, hH⟩ := hS
  have h9 := hs.2.1
  rcases s_needPeg hs hB p1 with ⟨p, hp, rfl, c1, m1⟩ | ⟨c1, m1⟩
  · have hp9 : p < 9 := by omega
    obtain ⟨v, v1, v2⟩ := s_startTrial t hB
    have hn := RB_pegs hs v2
    have mf := s_flipFault hs hp
    obtain ⟨ks, ts, e, hK'⟩ := s_tryTurnOver hs v2.1 v2.2.1 v2.2.2.2.2.2.2.2 hp
    rcases bdic (flOK s n p) with hf | hf
    · rw [hf] at e
      rw [hf, if_neg (by decide)] at mf
      refine ⟨3, 0, b, w, (v.1, v.2.1, ks, ts, iN n, v.2.2.2.2.2.1, v.2.2.2.2.2.2.1, v.2.2.2.2.2.2.2.1, v.2.2.2.2.2.2.2.2.1, v.2.2.2.2.2.2.2.2.2), h, 0, s, sv, many, ?_, ?_, fun _ => rfl, by decide, hS0⟩
      · unfold f_X5_flip
        rw [bd c1, if_pos rfl, bd v1, hn, bd e, if_pos (show b2 false = 0 from rfl)]
      · unfold f_X6_flip
        rw [bd mf, bd (holds2 th), if_pos z0]
        rfl
    · rw [hf] at e
      rw [if_pos hf] at mf
      have hG := Good_flip hs hp9
      have hD := Dst_flip (p := p) h9 hd
      have hi : ∀ j, 55 ≤ j → sFlip s p j = s j := fun j hj => by rw [sFlip_at hs hp9, if_neg (by omega), if_neg (by omega), if_neg (by omega), if_neg (by omega)]
      have hR' : RB (v.1, v.2.1, ks, ts, iN n, v.2.2.2.2.2.1, v.2.2.2.2.2.2.1, v.2.2.2.2.2.2.2.1, v.2.2.2.2.2.2.2.2.1, v.2.2.2.2.2.2.2.2.2) (sFlip s p) := by
        obtain ⟨r6, -, -, r1, r2, r3, r4, r5⟩ := v2
        exact ⟨RX_put (RX_put r6), hK', hG.1.symm, r1.trans (hi 55 (by omega)).symm, r2.trans (hi 56 (by omega)).symm, r3.trans (hi 57 (by omega)).symm, r4.trans (hi 58 (by omega)).symm, r5.trans (hi 59 (by omega)).symm⟩
      obtain ⟨b', w', h', sv', many', k1, k2, k3, k4, k5⟩ := St_keep (w := w) hs hd hB hH hR' hG hD
      refine ⟨0, iN (cnt (fun q => decide (0 < mS (sFlip s p) p q)) n), b', w', (v.1, v.2.1, ks, ts, iN n, v.2.2.2.2.2.1, v.2.2.2.2.2.2.1, v.2.2.2.2.2.2.2.1, v.2.2.2.2.2.2.2.2.1, v.2.2.2.2.2.2.2.2.2), h', iN (cnt (fun q => decide (0 < mS (sFlip s p) p q)) n), sFlip s p, sv', many', ?_, ?_, fun _ => rfl, by decide, k5⟩
      · unfold f_X5_flip
        rw [bd c1, if_pos rfl, bd v1, hn, bd e, if_neg (show ¬ b2 true = 0 by decide), bd k1, RB_pegs hG k3, bd (s_neighbours hG k4.1 hp)]
      · unfold f_X6_flip
        rw [bd mf, bd (holds0 th), if_neg z1, bd k2, bd (s_exchange hs hp9), bd (s_partners3 hG hp9)]
        rfl
  · have mf : f_X6_flipFault s p1 = some (iN 1, s) := by
      unfold f_X6_flipFault
      rw [bd m1, if_pos z0]
      rfl
    refine ⟨1, 0, b, w, t, h, 0, s, sv, many, ?_, ?_, fun _ => rfl, by decide, hS0⟩
    · unfold f_X5_flip
      rw [bd c1, if_neg (by decide)]
    · unfold f_X6_flip
      rw [bd mf, bd (holds1 th), if_pos z0]
      rfl
theorem wr_k {ρ : Type} {f : Nat → Int32} (j : Nat) {x : Int32} {k : (Nat → Int32) → Option ρ} (hj : j < 60) : wrI f 60 (iN j) x k = k (upd f j x) := wrI_n hj (by omega)
theorem Good_drive {s : Nat → Int32} {n p : Nat} (hs : Good s n) (hp : p < n) : Good (upd s 55 (iN p)) n := by
  obtain ⟨g1, g2, g3, g4, g5, g6⟩ := hs
  have hi : ∀ j, j ≠ 55 → upd s 55 (iN p) j = s j := fun j hj => by rw [upd_at, if_neg hj]
  refine ⟨by rw [hi 0 (by omega)]; exact g1, g2, fun q l hq hl => ?_, by rw [hi 59 (by omega)]; exact g4, Or.inr ⟨p, hp, by rw [upd_at, if_pos rfl]⟩, by rw [hi 56 (by omega)]; exact g6⟩
  rw [hi _ (by omega), hi _ (by omega)]
  exact g3 q l hq hl
theorem RX_far {x y s t : Nat → Int32} (hX : RX x y s) (h : ∀ j, j < 19 → t j = s j) : RX x y t := fun p hp => by
  rw [h _ (by omega), h _ (by omega)]
  exact hX p hp
theorem RK_far {x y s t : Nat → Int32} (hX : RK x y s) (h : ∀ j, j < 55 → t j = s j) : RK x y t := fun p l hp hl => by
  rw [h _ (by omega), h _ (by omega)]
  exact hX p l hp hl
theorem s_drives {s : Nat → Int32} (p : Int32) : f_X6_drives s p = some (s 55, upd s 55 p) := by
  unfold f_X6_drives
  rw [rd_55, show (55 : Int32) = iN 55 from rfl, wr_k 55 (by omega)]
theorem o_drive {b : TB} {w : TW} {h : TH} {s sv : Nat → Int32} {many : Int32} (hS : St b w h s sv many) (t : TB) (th p1 : Int32) : OpR (f_X5_drive b w t h p1) (f_X6_drive th s sv many p1) (fun c => c) (fun c => c = 0 ∨ c = 1) := by
  have hS0 := hS
  obtain ⟨n, hs, hd, hB, hW, hH⟩ := hS
  have h9 := hs.2.1
  rcases s_needPeg hs hB p1 with ⟨p, hp, rfl, c1, m1⟩ | ⟨c1, m1⟩
  · obtain ⟨v, v1, v2⟩ := s_startTrial t hB
    have hG := Good_drive hs hp
    have hi : ∀ j, j ≠ 55 → upd s 55 (iN p) j = s j := fun j hj => by rw [upd_at, if_neg hj]
    have hD : Dst (upd s 55 (iN p)) n := Dst_ext h9 (fun j hj => hi j (by omega)) hd
    have hR' : RB (v.1, v.2.1, v.2.2.1, v.2.2.2.1, v.2.2.2.2.1, iN p, v.2.2.2.2.2.2.1, v.2.2.2.2.2.2.2.1, v.2.2.2.2.2.2.2.2.1, v.2.2.2.2.2.2.2.2.2) (upd s 55 (iN p)) := by
      obtain ⟨r6, r7, r0, r1, r2, r3, r4, r5⟩ := v2
      exact ⟨RX_far r6 (fun j hj => hi j (by omega)), RK_far r7 (fun j hj => hi j (by omega)), r0.trans (hi 0 (by omega)).symm, by rw [upd_at, if_pos rfl], r2.trans (hi 56 (by omega)).symm, r3.trans (hi 57 (by omega)).symm, r4.trans (hi 58 (by omega)).symm, r5.trans (hi 59 (by omega)).symm⟩
    obtain ⟨b', w', h', sv', many', k1, k2, k3, k4, k5⟩ := St_keep (w := w) hs hd hB hH hR' hG hD
    refine ⟨0, b.2.2.2.2.2.1, b', w', (v.1, v.2.1, v.2.2.1, v.2.2.2.1, v.2.2.2.2.1, iN p, v.2.2.2.2.2.2.1, v.2.2.2.2.2.2.2.1, v.2.2.2.2.2.2.2.2.1, v.2.2.2.2.2.2.2.2.2), h', s 55, upd s 55 (iN p), sv', many', ?_, ?_, fun _ => hB.2.2.2.1.symm, Or.inl rfl, k5⟩
    · unfold f_X5_drive
      rw [bd c1, if_pos rfl, bd v1, lt_eq, bd k1]
    · unfold f_X6_drive f_X6_drive_14
      rw [bd m1, if_neg z1, show (0 : Int32) = iN 0 from rfl, bd (holds0 th), if_neg (show ¬ iN 1 = iN 0 by decide), bd k2, bd (s_drives _)]
  · refine ⟨1, 0, b, w, t, h, 0, s, sv, many, ?_, ?_, fun _ => rfl, Or.inr rfl, hS0⟩
    · unfold f_X5_drive
      rw [bd c1, if_neg (by decide)]
    · unfold f_X6_drive f_X6_drive_14
      rw [bd m1, if_pos z0, show (1 : Int32) = iN 1 from rfl, bd (holds1 th), if_pos z0]
theorem o_set {b : TB} {w : TW} {h : TH} {s sv : Nat → Int32} {many : Int32} (hS : St b w h s sv many) (t : TB) (th p1 : Int32) : OpR (f_X5_set b w t h p1) (f_X6_set th s sv many p1) (fun c => c - 1) (fun c => c = 0 ∨ c = 2) := by
  have hS0 := hS
  obtain ⟨n, hs, hd, hB, hW, hH⟩ := hS
  have h9 := hs.2.1
  have e3 : (3 : Int32) = iN 3 := rfl
  have e0 : (0 : Int32) = iN 0 := rfl
  rcases s_in (v := p1) (a := 0) (b := 3) (by omega) (by omega) with ⟨hb, m1⟩ | ⟨y, rfl, -, hy, m1⟩
  · refine ⟨2, 0, b, w, t, h, 0, s, sv, many, ?_, ?_, fun _ => rfl, Or.inr rfl, hS0⟩
    · unfold f_X5_set f_X5_set_13 f_X5_set_14
      rcases hb with hb | ⟨hb, hb2⟩
      · rw [if_pos (show p1 < 0 from hb)]
        rfl
      · rw [if_neg (show ¬ p1 < 0 from hb), if_pos (show 3 < p1 from hb2)]
        rfl
    · unfold f_X6_set f_X6_set_15
      rw [e0, e3, bd m1, if_pos rfl, show (1 : Int32) = iN 1 from rfl, bd (holds1 th), if_pos rfl]
  · obtain ⟨v, v1, v2⟩ := s_startTrial t hB
    have hi : ∀ j, j ≠ 59 → upd s 59 (iN y) j = s j := fun j hj => by rw [upd_at, if_neg hj]
    have hG : Good (upd s 59 (iN y)) n := by
      obtain ⟨g1, g2, g3, g4, g5, g6⟩ := hs
      refine ⟨by rw [hi 0 (by omega)]; exact g1, g2, fun q l hq hl => ?_, ⟨y, by rw [upd_at, if_pos rfl], hy⟩, by rw [hi 55 (by omega)]; exact g5, by rw [hi 56 (by omega)]; exact g6⟩
      rw [hi _ (by omega), hi _ (by omega)]
      exact g3 q l hq hl
    have hD : Dst (upd s 59 (iN y)) n := Dst_ext h9 (fun j hj => hi j (by omega)) hd
    have hR' : RB (v.1, v.2.1, v.2.2.1, v.2.2.2.1, v.2.2.2.2.1, v.2.2.2.2.2.1, v.2.2.2.2.2.2.1, v.2.2.2.2.2.2.2.1, v.2.2.2.2.2.2.2.2.1, iN y) (upd s 59 (iN y)) := by
      obtain ⟨r6, r7, r0, r1, r2, r3, r4, r5⟩ := v2
      exact ⟨RX_far r6 (fun j hj => hi j (by omega)), RK_far r7 (fun j hj => hi j (by omega)), r0.trans (hi 0 (by omega)).symm, r1.trans (hi 55 (by omega)).symm, r2.trans (hi 56 (by omega)).symm, r3.trans (hi 57 (by omega)).symm, r4.trans (hi 58 (by omega)).symm, by rw [upd_at, if_pos rfl]⟩
    obtain ⟨b', w', h', sv', many', k1, k2, k3, k4, k5⟩ := St_keep (w := w) hs hd hB hH hR' hG hD
    refine ⟨0, b.2.2.2.2.2.2.2.2.2, b', w', (v.1, v.2.1, v.2.2.1, v.2.2.2.1, v.2.2.2.2.1, v.2.2.2.2.2.1, v.2.2.2.2.2.2.1, v.2.2.2.2.2.2.2.1, v.2.2.2.2.2.2.2.2.1, iN y), h', s 59, upd s 59 (iN y), sv', many', ?_, ?_, fun _ => hB.2.2.2.2.2.2.2.symm, Or.inl rfl, k5⟩
    · unfold f_X5_set f_X5_set_14
      rw [if_neg (by rw [e0, iN_lt (by omega) (by omega)]; omega), if_neg (by rw [e3, iN_lt (by omega) (by omega)]; omega), show (1 : Int32) = iN 1 from rfl, bd need1, if_pos rfl, bd v1, lt_eq, bd k1]
    · unfold f_X6_set f_X6_set_15
      rw [e0, e3, bd m1, if_neg (by decide), bd (holds0 th), if_neg (by decide), bd k2, rd_59, show (59 : Int32) = iN 59 from rfl, wr_k 59 (by omega)]
/-! the goal -/
theorem s_toNumber (b : Bool) : f_X5_toNumber (b2 b) = some (b2 b) := by cases b <;> rfl
theorem Wk_reach {s : Nat → Int32} {n : Nat} (hs : Good s n) {w : TW} (hW : Wk w s n) {ab be : Nat → Int64} {jo : Nat → Int32} {jm : Bool} (h : Solved s n ab be jo jm) : gR s w.2.1 w.2.2.1 = gR s ab be ∧ w.2.2.2.2.2.2 = b2 jm ∧ (∀ p, p < 9 → w.2.1 p = ab p ∧ w.2.2.1 p = be p ∧ w.2.2.2.1 p = jo p) := by
  obtain ⟨-, jm', h1, h2, -⟩ := hW
  obtain ⟨u1, u2⟩ := Solved_unique hs h1 h
  exact ⟨gR_congr hs (fun p hp => ⟨(u2 p hp).1, (u2 p hp).2.1⟩), by rw [h2, u1], u2⟩
theorem o_goal {b : TB} {w : TW} {h : TH} {s sv : Nat → Int32} {many : Int32} (hS : St b w h s sv many) (t : TB) (th : Int32) (ab be : Nat → Int64) (jo : Nat → Int32) (j0 : Int32) (r1 r2 : Int64) (p1 a b0 : Int32) : ∃ (c : Nat) (v : Int32) (b' : TB) (w' : TW) (t' : TB) (h' : TH) (v2 : Int32) (s' sv' : Nat → Int32) (many' : Int32) (ab' be' : Nat → Int64) (jo' : Nat → Int32) (j0' : Int32) (r1' r2' : Int64), f_X5_goal b w t h p1 a b0 = some (c, v, b', w', t', h') ∧ f_X6_goal th s sv many ab be jo j0 r1 r2 p1 a b0 = some (v2, iN c, s', sv', many', ab', be', jo', j0', r1', r2') ∧ (c = 0 → v2 = v) ∧ c ≤ 2 ∧ St b' w' h' s' sv' many' := by
  have hS0 := hS
  obtain ⟨n, hs, hd, hB, hW, hH⟩ := hS
  have h9 := hs.2.1
  have e0 : (0 : Int32) = iN 0 := rfl
  have e1 : (1 : Int32) = iN 1 := rfl
  have e2 : (2 : Int32) = iN 2 := rfl
  have bad : f_X5_goal_22 p1 a b0 b w t h (iN 0) = some (2, 0, b, w, t, h) := rfl
  have bad2 : f_X5_goal_41 p1 a b0 b w t h (iN 0) = some (2, 0, b, w, t, h) := rfl
  have badM : f_X6_goal_34 p1 a b0 th s sv many ab be jo j0 r1 r2 = some (0, iN 2, s, sv, many, ab, be, jo, j0, r1, r2) := rfl
  rcases s_needPeg hs hB p1 with ⟨p, hp, rfl, c1, m1⟩ | ⟨c1, m1⟩
  · by_cases h1 : a < -99
    · refine ⟨2, 0, b, w, t, h, 0, s, sv, many, ab, be, jo, j0, r1, r2, ?_, ?_, fun _ => rfl, by decide, hS0⟩
      · unfold f_X5_goal f_X5_goal_21
        rw [bd c1, if_pos rfl, if_pos h1]
        exact bad
      · have m2 : f_X6_in a (-99) 99 = some (iN 0) := by
          unfold f_X6_in
          rw [if_pos h1]
          rfl
        unfold f_X6_goal
        rw [bd m1, if_neg z1, bd m2, if_pos z0]
        exact badM
    · by_cases h2 : 99 < a
      · refine ⟨2, 0, b, w, t, h, 0, s, sv, many, ab, be, jo, j0, r1, r2, ?_, ?_, fun _ => rfl, by decide, hS0⟩
        · unfold f_X5_goal f_X5_goal_21
          rw [bd c1, if_pos rfl, if_neg h1, if_pos h2]
          exact bad
        · have m2 : f_X6_in a (-99) 99 = some (iN 0) := by
            unfold f_X6_in
            rw [if_neg h1, if_pos h2]
            rfl
          unfold f_X6_goal
          rw [bd m1, if_neg z1, bd m2, if_pos z0]
          exact badM
      · have m2 : f_X6_in a (-99) 99 = some (iN 1) := by
          unfold f_X6_in
          rw [if_neg h1, if_neg h2]
          rfl
        rcases s_in (v := b0) (a := 1) (b := 99) (by omega) (by omega) with ⟨hb, m3⟩ | ⟨c, rfl, hc1, hc2, m3⟩
        · refine ⟨2, 0, b, w, t, h, 0, s, sv, many, ab, be, jo, j0, r1, r2, ?_, ?_, fun _ => rfl, by decide, hS0⟩
          · unfold f_X5_goal f_X5_goal_22 f_X5_goal_40
            rw [bd c1, if_pos rfl, if_neg h1, if_neg h2, e1, bd need1, if_pos rfl]
            rcases hb with hb | ⟨hb, hb2⟩
            · rw [if_pos hb]
              exact bad2
            · rw [if_neg hb, if_pos (show 99 < b0 from hb2)]
              exact bad2
          · unfold f_X6_goal
            rw [bd m1, if_neg z1, bd m2, if_neg z1, e1, show (99 : Int32) = iN 99 from rfl, bd m3, if_pos z0]
            exact badM
        · obtain ⟨g, hg1, hg2, gm, gc⟩ := s_gcds a hc1 hc2
          obtain ⟨v, v1, v2⟩ := s_startTrial t hB
          have hne : iN g ≠ 0 := by rw [iN_lit, Ne, iN_eq (by omega) (by omega)]; omega
          have hG := Good_goal hs hp (a / iN g) (iN c / iN g)
          have hi : ∀ j, j < 56 ∨ j = 59 → sGoal s (iN p) (a / iN g) (iN c / iN g) j = s j := fun j hj => sGoal_ne hj
          have hD : Dst (sGoal s (iN p) (a / iN g) (iN c / iN g)) n := Dst_ext h9 (fun j hj => hi j (by omega)) hd
          have hR' : RB (v.1, v.2.1, v.2.2.1, v.2.2.2.1, v.2.2.2.2.1, v.2.2.2.2.2.1, iN p, a / iN g, iN c / iN g, v.2.2.2.2.2.2.2.2.2) (sGoal s (iN p) (a / iN g) (iN c / iN g)) := by
            obtain ⟨r6, r7, r0, r1, r2, r3, r4, r5⟩ := v2
            exact ⟨RX_far r6 (fun j hj => hi j (by omega)), RK_far r7 (fun j hj => hi j (by omega)), r0.trans (hi 0 (by omega)).symm, r1.trans (hi 55 (by omega)).symm, rfl, rfl, rfl, r5.trans (hi 59 (by omega)).symm⟩
          have sg := s_setGoal hc2 hg1 hg2 gc v.2.2.2.2.2.2.1 v.2.2.2.2.2.2.2.1 v.2.2.2.2.2.2.2.2.1 (iN p)
          obtain ⟨b', w', h', sv', many', k1, k2, k3, k4, k5⟩ := St_keep (w := w) hs hd hB hH hR' hG hD
          obtain ⟨ab', be', jo', jm, r1', r2', l1, l2⟩ := s_layOut hG ab be jo j0 r1 r2
          have rc := s_reachC hG w'.2.1 w'.2.2.1 k3.2.2.2.2.1 k3.2.2.2.2.2.1 k3.2.2.2.2.2.2.1
          have rm := s_reachM hG ab' be'
          rw [(Wk_reach hG k4 l2).1] at rc
          refine ⟨0, b2 (gR (sGoal s (iN p) (a / iN g) (iN c / iN g)) ab' be'), b', w', (v.1, v.2.1, v.2.2.1, v.2.2.2.1, v.2.2.2.2.1, v.2.2.2.2.2.1, iN p, a / iN g, iN c / iN g, v.2.2.2.2.2.2.2.2.2), h', b2 (gR (sGoal s (iN p) (a / iN g) (iN c / iN g)) ab' be'), sGoal s (iN p) (a / iN g) (iN c / iN g), sv', many', ab', be', jo', b2 jm, r1', r2', ?_, ?_, fun _ => rfl, by decide, k5⟩
          · unfold f_X5_goal f_X5_goal_22 f_X5_goal_41
            rw [bd c1, if_pos rfl, if_neg h1, if_neg h2, e1, bd need1, if_pos rfl, if_neg (by rw [iN_lt (by omega) (by omega)]; omega), if_neg (by rw [show (99 : Int32) = iN 99 from rfl, iN_lt (by omega) (by omega)]; omega), bd need1, if_pos rfl, bd v1, bd sg, bd k1, RB_pegs hG k3, bd rc, bd (s_toNumber _)]
          · unfold f_X6_goal f_X6_goal_39
            rw [bd m1, if_neg z1, bd m2, if_neg z1, e1, show (99 : Int32) = iN 99 from rfl, bd m3, if_neg z1, e0, bd (holds0 th), if_neg (by decide), bd k2, bd gm, lt_eq, toI g (by omega), show (56 : Int32) = iN 56 from rfl, wr_k 56 (by omega), dvI_ne hne, show (57 : Int32) = iN 57 from rfl, wr_k 57 (by omega), dvI_ne hne, show (58 : Int32) = iN 58 from rfl, wr_k 58 (by omega), show upd (upd (upd s 56 (iN p)) 57 (a / iN g)) 58 (iN c / iN g) = sGoal s (iN p) (a / iN g) (iN c / iN g) from rfl, bd l1, bd rm]
            cases gR (sGoal s (iN p) (a / iN g) (iN c / iN g)) ab' be' <;> rfl
  · refine ⟨1, 0, b, w, t, h, 0, s, sv, many, ab, be, jo, j0, r1, r2, ?_, ?_, fun _ => rfl, by decide, hS0⟩
    · unfold f_X5_goal
      rw [bd c1, if_neg (by decide)]
    · unfold f_X6_goal
      rw [bd m1, if_pos z0]
      rfl
