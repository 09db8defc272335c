/-! the digest -/
def foldN (g : Nat → Int64 → Int64) : Nat → Int64 → Int64
  | 0, h => h
  | k + 1, h => g k (foldN g k h)
theorem lp_foldS {σ ρ : Type} {F : Nat → Nat → Int64 → σ → ρ} {N : Nat} {I : σ → Prop} (g : Nat → Int64 → Int64) (K : Int64 → σ → ρ) (hs : ∀ n j h s, j < N → I s → ∃ s', I s' ∧ F (n + 1) j h s = F n (j + 1) (g j h) s') (he : ∀ n h s, I s → F (n + 1) N h s = K h s) (n : Nat) (h : Int64) (s : σ) (hn : N < n) (hI : I s) : ∃ s', I s' ∧ F n 0 h s = K (foldN g N h) s' := by
  have key : ∀ (d n j : Nat) (s : σ), j + d = N → d < n → I s → ∃ s', I s' ∧ F n j (foldN g j h) s = K (foldN g N h) s' := by
    intro d
    induction d with
    | zero =>
      intro n j s hj hn hI
      obtain ⟨m, rfl⟩ : ∃ m, n = m + 1 := ⟨n - 1, by omega⟩
      have hj : j = N := by omega
      subst hj
      exact ⟨s, hI, he m _ s hI⟩
    | succ d ih =>
      intro n j s hj hn hI
      obtain ⟨m, rfl⟩ : ∃ m, n = m + 1 := ⟨n - 1, by omega⟩
      obtain ⟨s', i1, e1⟩ := hs m j (foldN g j h) s (by omega) hI
      obtain ⟨s'', i2, e2⟩ := ih m (j + 1) s' (by omega) (by omega) i1
      exact ⟨s'', i2, e1.trans e2⟩
  exact key N n 0 s (by omega) hn hI
theorem lp_fold {ρ : Type} {F : Nat → Nat → Int64 → ρ} {N : Nat} (g : Nat → Int64 → Int64) (K : Int64 → ρ) (hs : ∀ n j h, j < N → F (n + 1) j h = F n (j + 1) (g j h)) (he : ∀ n h, F (n + 1) N h = K h) (n : Nat) (h : Int64) (hn : N < n) : F n 0 h = K (foldN g N h) := by
  obtain ⟨-, -, e⟩ := lp_foldS (σ := Unit) (I := fun _ => True) (F := fun n j h _ => F n j h) g (fun h _ => K h) (fun n j h s hj _ => ⟨(), trivial, hs n j h hj⟩) (fun n h s _ => he n h) n h () hn trivial
  exact e
def mx (h v : Int64) : Int64 := 31 * h + v
theorem c_mix (h v : Int64) : f_X5_mix h v = some (mx h v) := rfl
theorem m_mix (h v : Int64) : f_X6_digestOne h v = some (mx h v) := rfl
def g1 (s : Nat → Int32) (n : Nat) (many : Int32) (k : Nat) (h : Int64) : Int64 := mx h (Int32.toInt64 (cV s n (lo s).1 (lo s).2.1 (lo s).2.2.1 (jB s) many k))
def g2 (s : Nat → Int32) (n p k : Nat) (h : Int64) : Int64 := mx h (Int32.toInt64 (pV s n (lo s).1 (lo s).2.2.1 p k))
def g3 (s : Nat → Int32) (n p : Nat) (h : Int64) : Int64 := mx (mx (foldN (g2 s n p) 9 h) ((lo s).1 p)) ((lo s).2.1 p)
def g4 (s : Nat → Int32) (p q k : Nat) (h : Int64) : Int64 := mx h (Int32.toInt64 (tpV s p q k))
def g5 (s : Nat → Int32) (p q : Nat) (h : Int64) : Int64 := mx (mx (foldN (g4 s p q) 4 (mx h (Int32.toInt64 (iN (mS s p q))))) (trL s p q).1) (trL s p q).2.1
def g6 (s : Nat → Int32) (n p : Nat) (h : Int64) : Int64 := foldN (g5 s p) n h
def g7 (x : Option Nat) (k : Nat) (h : Int64) : Int64 := mx h (Int32.toInt64 (soV x k))
def g8 (c : Nat → Nat) (j : Nat) (h : Int64) : Int64 := mx h (Int32.toInt64 (iN (c j)))
def dig (s : Nat → Int32) (n : Nat) (many : Int32) (x y : Option Nat) (bits : Int64) (m : Nat) (c : Nat → Nat) : Int64 :=
  foldN (g8 c) m (mx (mx (mx (foldN (g7 x) 3 (mx (foldN (g6 s n) n (foldN (g3 s n) n (mx (foldN (g1 s n many) 11 2753) (Int32.toInt64 (s 59))))) (mkV s))) (Int32.toInt64 (oN y))) bits) (Int32.toInt64 (iN m)))
section
variable {s : Nat → Int32} {n : Nat}
theorem C_mixPeg {b : TB} {w : TW} (hs : Good s n) (hB : RB b s) (hW : Ww w s n) (h : Int64) {p : Nat} (hp : p < n) : f_X5_mixPeg b w h (iN p) = some (g3 s n p h) := by
  have h9 := hs.2.1
  have aW := (Wk_all hs hW).2.2.2 p (by omega)
  refine lp_fold (F := fun fu j h' => f_X5_mixPeg_6 b w h (iN p) fu h' (iN j)) (N := 9) (g2 s n p) (fun h' => some (mx (mx h' ((lo s).1 p)) ((lo s).2.1 p))) ?_ ?_ FU h (FU_lt (by omega))
  · intro fu j h' hj
    show f_X5_mixPeg_6b b w h (iN p) (f_X5_mixPeg_6 b w h (iN p) fu) h' (iN j) = _
    unfold f_X5_mixPeg_6b
    rw [if_neg (show ¬ 8 < iN j by rw [iN_lit, iN_lt (by omega) (by omega)]; omega), bd (C_peg hs hB hW hp (show j ≤ 8 by omega)), bd (c_mix _ _), lt_eq, show iN j + 1 = iN (j + 1) from iN_add j 1]
    rfl
  · intro fu h'
    show f_X5_mixPeg_6b b w h (iN p) (f_X5_mixPeg_6 b w h (iN p) fu) h' (iN 9) = _
    unfold f_X5_mixPeg_6b
    rw [if_pos (show 8 < iN 9 by decide), rd_n (show p < 9 by omega) (by omega), bd (c_mix _ _), rd_n (show p < 9 by omega) (by omega), bd (c_mix _ _), aW.1, aW.2.1 hp]
theorem C_mixPair {b : TB} {w : TW} (hs : Good s n) (hB : RB b s) (hW : Ww w s n) (R : TR) (h : Int64) {p q : Nat} (hp : p < n) (hq : q < n) : ∃ R', f_X5_mixPair b w R h (iN p) (iN q) = some (g5 s p q h, R') := by
  have h9 := hs.2.1
  obtain ⟨R', f1, f2⟩ := s_findRow hs hB.2.1 hW.1 hp hq R
  obtain ⟨e1, e2⟩ := C_ratio hs hp hq f2
  refine ⟨R', ?_⟩
  unfold f_X5_mixPair
  rw [RB_pegs hs hB, bd f1, bd (s_levelsOf hs hW.1 hp hq), bd (c_mix _ _)]
  refine lp_fold (F := fun fu j h' => f_X5_mixPair_38 b w h (iN p) (iN q) fu R' h' (iN j)) (N := 4) (g4 s p q) (fun h' => some (mx (mx h' (trL s p q).1) (trL s p q).2.1, R')) ?_ ?_ FU _ (FU_lt (by omega))
  · intro fu j h' hj
    show f_X5_mixPair_38b b w h (iN p) (iN q) (f_X5_mixPair_38 b w h (iN p) (iN q) fu) R' h' (iN j) = _
    unfold f_X5_mixPair_38b
    rw [if_neg (show ¬ 3 < iN j by rw [iN_lit, iN_lt (by omega) (by omega)]; omega), bd (C_row hs hp hq (show j ≤ 3 by omega) f2), bd (c_mix _ _), lt_eq, show iN j + 1 = iN (j + 1) from iN_add j 1]
    rfl
  · intro fu h'
    show f_X5_mixPair_38b b w h (iN p) (iN q) (f_X5_mixPair_38 b w h (iN p) (iN q) fu) R' h' (iN 4) = _
    unfold f_X5_mixPair_38b
    rw [if_pos (show 3 < iN 4 by decide), bd (c_mix _ _), bd (c_mix _ _), e1, e2]
theorem C_mixInto {cs : Nat → Int32} {m : Nat} {c : Nat → Nat} (hT : TX cs m c) (h : Int64) : f_X3_mixInto cs (iN m) h = some (foldN (g8 c) m (mx h (Int32.toInt64 (iN m)))) := by
  have h60 := hT.1
  unfold f_X3_mixInto
  rw [bd (c_mix _ _)]
  refine lp_fold (F := fun fu j h' => f_X3_mixInto_13 cs (iN m) h fu h' (iN j)) (N := m) (g8 c) (fun h' => some h') ?_ ?_ FU _ (FU_lt (by omega))
  · intro fu j h' hj
    show f_X3_mixInto_13b cs (iN m) h (f_X3_mixInto_13 cs (iN m) h fu) h' (iN j) = _
    unfold f_X3_mixInto_13b
    rw [if_neg (show ¬ iN m ≤ iN j by rw [iN_le (by omega) (by omega)]; omega), rd_n (show j < 60 by omega) (by omega), (hT.2 j hj).1, bd (c_mix _ _), lt_eq, show iN j + 1 = iN (j + 1) from iN_add j 1]
    rfl
  · intro fu h'
    show f_X3_mixInto_13b cs (iN m) h (f_X3_mixInto_13 cs (iN m) h fu) h' (iN m) = _
    unfold f_X3_mixInto_13b
    rw [if_pos (Int32.le_refl _)]
theorem C_digest {b : TB} {w : TW} {t : TT} {hi : TH} {sv : Nat → Int32} {many : Int32} (hs : Good s n) (hB : RB b s) (hW : Ww w s n) (hH : RH hi sv many) {m : Nat} {c : Nat → Nat} (hl : t.2.1 = iN m) (hT : TX t.1 m c) {bits : Int64} (hb : f_X6_bitsOf (shV (lo s).1 n) = some bits) (T : TB) (tw : TW) (R : TR) : ∃ (x y : Option Nat) (T' : TB) (tw' : TW) (R' : TR), f_X5_digest b w T tw R t hi = some (dig s n many x y bits m c, T', tw', R') ∧ fcR s n x ∧ cuR s n y := by
  have h9 := hs.2.1
  have hn := RB_pegs hs hB
  obtain ⟨x, Tx, twx, fx1, fx2⟩ := s_findChange hs hB hW T tw
  obtain ⟨y, Ty, twy, fy1, fy2⟩ := s_culpritC hs hB hW Tx twx
  have okS := shV_ok (nu := (lo s).1) h9
  have hbC : f_X5_bitsOfShare (shV (lo s).1 n) = some bits := okS.2.2.1.trans hb
  -- last: parts of the change, who jams, the share, the text
  have L134 : ∀ (R : TR) (h : Int64), f_X5_digest_134 b w t hi FU Tx twx R h (oN x) (iN 0) = some (foldN (g8 c) m (mx (mx (mx (foldN (g7 x) 3 h) (Int32.toInt64 (oN y))) bits) (Int32.toInt64 (iN m))), Ty, twy, R) := by
    intro R h
    refine lp_fold (F := fun fu j h' => f_X5_digest_134 b w t hi fu Tx twx R h' (oN x) (iN j)) (N := 3) (g7 x) (fun h' => some (foldN (g8 c) m (mx (mx (mx h' (Int32.toInt64 (oN y))) bits) (Int32.toInt64 (iN m))), Ty, twy, R)) ?_ ?_ FU _ (FU_lt (by omega))
    · intro fu j h' hj
      show f_X5_digest_134b b w t hi (f_X5_digest_134 b w t hi fu) Tx twx R h' (oN x) (iN j) = _
      unfold f_X5_digest_134b
      rw [if_neg (show ¬ 2 < iN j by rw [iN_lit, iN_lt (by omega) (by omega)]; omega), bd (s_partO h9 fx2 (show j ≤ 2 by omega)), bd (c_mix _ _), lt_eq, show iN j + 1 = iN (j + 1) from iN_add j 1]
      rfl
    · intro fu h'
      show f_X5_digest_134b b w t hi (f_X5_digest_134 b w t hi fu) Tx twx R h' (oN x) (iN 3) = _
      unfold f_X5_digest_134b
      rw [if_pos (show 2 < iN 3 by decide), bd fy1, bd (c_mix _ _), bd (C_share hs hB hW), bd hbC, bd (c_mix _ _), hl, bd (C_mixInto hT _)]
  have L84 : ∀ (k70 : TB → TW → TR → Int64 → Int32 → Option (Int64 × TB × TW × TR)) (p : Nat) (R : TR) (h : Int64), p < n → ∃ R', f_X5_digest_84 b w t hi k70 FU T tw R h (iN p) (iN 0) = k70 T tw R' (g6 s n p h) (iN (p + 1)) := by
    intro k70 p R h hp
    obtain ⟨R', -, e⟩ := lp_foldS (σ := TR) (I := fun _ => True) (F := fun fu j h' R => f_X5_digest_84 b w t hi k70 fu T tw R h' (iN p) (iN j)) (N := n) (g5 s p) (fun h' R => k70 T tw R h' (iN (p + 1))) (fun fu j h' R hj _ => by
      obtain ⟨R', q1⟩ := C_mixPair hs hB hW R h' hp hj
      refine ⟨R', trivial, ?_⟩
      show f_X5_digest_84b b w t hi k70 (f_X5_digest_84 b w t hi k70 fu) T tw R h' (iN p) (iN j) = _
      unfold f_X5_digest_84b
      rw [hn, if_neg (show ¬ iN n ≤ iN j by rw [iN_le (by omega) (by omega)]; omega), bd q1, lt_eq, show iN j + 1 = iN (j + 1) from iN_add j 1]) (fun fu h' R _ => by
      show f_X5_digest_84b b w t hi k70 (f_X5_digest_84 b w t hi k70 fu) T tw R h' (iN p) (iN n) = _
      unfold f_X5_digest_84b
      rw [hn, if_pos (Int32.le_refl _), lt_eq, show iN p + 1 = iN (p + 1) from iN_add p 1]) FU h R (FU_lt (by omega)) trivial
    exact ⟨R', e⟩
  have L70 : ∀ (R : TR) (h : Int64), ∃ R', f_X5_digest_70 b w t hi FU T tw R h (iN 0) = some (foldN (g8 c) m (mx (mx (mx (foldN (g7 x) 3 (mx (foldN (g6 s n) n h) (mkV s))) (Int32.toInt64 (oN y))) bits) (Int32.toInt64 (iN m))), Ty, twy, R') := by
    intro R h
    obtain ⟨R', -, e⟩ := lp_foldS (σ := TR) (I := fun _ => True) (F := fun fu j h' R => f_X5_digest_70 b w t hi fu T tw R h' (iN j)) (N := n) (g6 s n) (fun h' R => some (foldN (g8 c) m (mx (mx (mx (foldN (g7 x) 3 (mx h' (mkV s))) (Int32.toInt64 (oN y))) bits) (Int32.toInt64 (iN m))), Ty, twy, R)) (fun fu j h' R hj _ => by
      obtain ⟨R', q1⟩ := L84 (f_X5_digest_70 b w t hi fu) j R h' hj
      refine ⟨R', trivial, ?_⟩
      show f_X5_digest_70b b w t hi (f_X5_digest_70 b w t hi fu) T tw R h' (iN j) = _
      unfold f_X5_digest_70b
      rw [hn, if_neg (show ¬ iN n ≤ iN j by rw [iN_le (by omega) (by omega)]; omega)]
      exact q1) (fun fu h' R _ => by
      show f_X5_digest_70b b w t hi (f_X5_digest_70 b w t hi fu) T tw R h' (iN n) = _
      unfold f_X5_digest_70b
      rw [hn, if_pos (Int32.le_refl _), bd (C_marks hs hB hW), bd (c_mix _ _), bd fx1]
      exact L134 R _) FU h R (FU_lt (by omega)) trivial
    exact ⟨R', e⟩
  have L44 : ∀ (h : Int64), f_X5_digest_44 b w t hi FU T tw R h (iN 0) = f_X5_digest_70 b w t hi FU T tw R (foldN (g3 s n) n h) (iN 0) := by
    intro h
    refine lp_fold (F := fun fu j h' => f_X5_digest_44 b w t hi fu T tw R h' (iN j)) (N := n) (g3 s n) (fun h' => f_X5_digest_70 b w t hi FU T tw R h' (iN 0)) ?_ ?_ FU _ (FU_lt (by omega))
    · intro fu j h' hj
      show f_X5_digest_44b b w t hi (f_X5_digest_44 b w t hi fu) T tw R h' (iN j) = _
      unfold f_X5_digest_44b
      rw [hn, if_neg (show ¬ iN n ≤ iN j by rw [iN_le (by omega) (by omega)]; omega), bd (C_mixPeg hs hB hW _ hj), lt_eq, show iN j + 1 = iN (j + 1) from iN_add j 1]
    · intro fu h'
      show f_X5_digest_44b b w t hi (f_X5_digest_44 b w t hi fu) T tw R h' (iN n) = _
      unfold f_X5_digest_44b
      rw [hn, if_pos (Int32.le_refl _)]
      rfl
  have L6 : f_X5_digest_6 b w t hi FU T tw R 2753 (iN 0) = f_X5_digest_44 b w t hi FU T tw R (mx (foldN (g1 s n many) 11 2753) (Int32.toInt64 (s 59))) (iN 0) := by
    refine lp_fold (F := fun fu j h' => f_X5_digest_6 b w t hi fu T tw R h' (iN j)) (N := 11) (g1 s n many) (fun h' => f_X5_digest_44 b w t hi FU T tw R (mx h' (Int32.toInt64 (s 59))) (iN 0)) ?_ ?_ FU _ (FU_lt (by omega))
    · intro fu j h' hj
      show f_X5_digest_6b b w t hi (f_X5_digest_6 b w t hi fu) T tw R h' (iN j) = _
      unfold f_X5_digest_6b
      rw [if_neg (show ¬ 10 < iN j by rw [iN_lit, iN_lt (by omega) (by omega)]; omega), bd (C_count hs hB hW hH (show j ≤ 10 by omega)), bd (c_mix _ _), lt_eq, show iN j + 1 = iN (j + 1) from iN_add j 1]
      rfl
    · intro fu h'
      show f_X5_digest_6b b w t hi (f_X5_digest_6 b w t hi fu) T tw R h' (iN 11) = _
      unfold f_X5_digest_6b
      rw [if_pos (show 10 < iN 11 by decide), bd (c_mix _ _), hB.2.2.2.2.2.2.2]
      rfl
  obtain ⟨R', e⟩ := L70 R (foldN (g3 s n) n (mx (foldN (g1 s n many) 11 2753) (Int32.toInt64 (s 59))))
  refine ⟨x, y, Ty, twy, R', ?_, fx2, fy2⟩
  refine Eq.trans (Eq.trans L6 (L44 _)) ?_
  exact e
end
