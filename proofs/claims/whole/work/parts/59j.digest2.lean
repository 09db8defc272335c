/-! the reference's digest -/
abbrev TD : Type := Int64 × Int32 × (Nat → Int32) × (Nat → Int32) × (Nat → Int64) × (Nat → Int64) × (Nat → Int32) × Int32 × Int64 × Int64 × (Nat → Int32) × (Nat → Int32) × Int32 × Int32 × Int64
section
variable {s tx : Nat → Int32} {n m : Nat} {c : Nat → Nat} {many : Int32}
theorem M275 (hT : TX tx m c) (th : Int32) (σ : TA) (st row : Nat → Int32) (rl id_ : Int32) (h : Int64) : f_X6_digest_275 many tx (iN m) FU th σ.1 σ.2.1 σ.2.2.1 σ.2.2.2.1 σ.2.2.2.2.1 σ.2.2.2.2.2.1 σ.2.2.2.2.2.2.1 σ.2.2.2.2.2.2.2 st row rl id_ h (iN 0) = some (foldN (g8 c) m h, th, σ.1, σ.2.1, σ.2.2.1, σ.2.2.2.1, σ.2.2.2.2.1, σ.2.2.2.2.2.1, σ.2.2.2.2.2.2.1, σ.2.2.2.2.2.2.2, st, row, rl, id_, foldN (g8 c) m h) := by
  have h60 := hT.1
  refine lp_fold (F := fun fu j h' => f_X6_digest_275 many tx (iN m) fu th σ.1 σ.2.1 σ.2.2.1 σ.2.2.2.1 σ.2.2.2.2.1 σ.2.2.2.2.2.1 σ.2.2.2.2.2.2.1 σ.2.2.2.2.2.2.2 st row rl id_ h' (iN j)) (N := m) (g8 c) (fun h' => some (h', th, σ.1, σ.2.1, σ.2.2.1, σ.2.2.2.1, σ.2.2.2.2.1, σ.2.2.2.2.2.1, σ.2.2.2.2.2.2.1, σ.2.2.2.2.2.2.2, st, row, rl, id_, h')) ?_ ?_ FU _ (FU_lt (by omega))
  · intro fu j h' hj
    show f_X6_digest_275b many tx (iN m) (f_X6_digest_275 many tx (iN m) fu) th σ.1 σ.2.1 σ.2.2.1 σ.2.2.2.1 σ.2.2.2.2.1 σ.2.2.2.2.2.1 σ.2.2.2.2.2.2.1 σ.2.2.2.2.2.2.2 st row rl id_ h' (iN j) = _
    unfold f_X6_digest_275b
    rw [if_neg (show ¬ iN m ≤ iN j by rw [iN_le (by omega) (by omega)]; omega), rd_n (show j < 60 by omega) (by omega), (hT.2 j hj).1, bd (m_mix _ _), lt_eq, show iN j + 1 = iN (j + 1) from iN_add j 1]
    rfl
  · intro fu h'
    show f_X6_digest_275b many tx (iN m) (f_X6_digest_275 many tx (iN m) fu) th σ.1 σ.2.1 σ.2.2.1 σ.2.2.2.1 σ.2.2.2.2.1 σ.2.2.2.2.2.1 σ.2.2.2.2.2.2.1 σ.2.2.2.2.2.2.2 st row rl id_ h' (iN m) = _
    unfold f_X6_digest_275b
    rw [if_pos (Int32.le_refl _)]
theorem M219 (hs : Good s n) (hT : TX tx m c) {x y : Option Nat} (hx : fcR s n x) (hy : cuR s n y) {bits : Int64} (hb : f_X6_bitsOf (shV (lo s).1 n) = some bits) (th : Int32) (σ : TA) (hσ : σ.1 = s) (st row : Nat → Int32) (rl id_ : Int32) (h : Int64) : ∃ z : TD, f_X6_digest_219 many tx (iN m) FU th σ.1 σ.2.1 σ.2.2.1 σ.2.2.2.1 σ.2.2.2.2.1 σ.2.2.2.2.2.1 σ.2.2.2.2.2.2.1 σ.2.2.2.2.2.2.2 st row rl id_ h (iN 0) = some z ∧ z.1 = foldN (g8 c) m (mx (mx (mx (foldN (g7 x) 3 h) (Int32.toInt64 (oN y))) bits) (Int32.toInt64 (iN m))) ∧ z.2.2.1 = s := by
  have h9 := hs.2.1
  obtain ⟨σ', i', e⟩ := lp_foldS (σ := TA) (I := fun σ => σ.1 = s) (F := fun fu j h' σ => f_X6_digest_219 many tx (iN m) fu th σ.1 σ.2.1 σ.2.2.1 σ.2.2.2.1 σ.2.2.2.2.1 σ.2.2.2.2.2.1 σ.2.2.2.2.2.2.1 σ.2.2.2.2.2.2.2 st row rl id_ h' (iN j)) (N := 3) (g7 x) (fun h' σ => f_X6_digest_219b many tx (iN m) (fun _ _ _ _ _ _ _ _ _ _ _ _ _ _ _ => none) th σ.1 σ.2.1 σ.2.2.1 σ.2.2.2.1 σ.2.2.2.2.1 σ.2.2.2.2.2.1 σ.2.2.2.2.2.2.1 σ.2.2.2.2.2.2.2 st row rl id_ h' (iN 3)) (fun fu j h' σ hj hI => by
    obtain ⟨x', σ1, q1, q2, q3⟩ := s_solutionOf hs (show j ≤ 2 by omega) σ.2.1 σ.2.2.1 σ.2.2.2.1 σ.2.2.2.2.1 σ.2.2.2.2.2.1 σ.2.2.2.2.2.2.1 σ.2.2.2.2.2.2.2
    have ex := fcR_one hx q3
    subst ex
    refine ⟨σ1, q2, ?_⟩
    show f_X6_digest_219b many tx (iN m) (f_X6_digest_219 many tx (iN m) fu) th σ.1 σ.2.1 σ.2.2.1 σ.2.2.2.1 σ.2.2.2.2.1 σ.2.2.2.2.2.1 σ.2.2.2.2.2.2.1 σ.2.2.2.2.2.2.2 st row rl id_ h' (iN j) = _
    unfold f_X6_digest_219b
    rw [if_neg (show ¬ 3 ≤ iN j by rw [iN_lit, iN_le (by omega) (by omega)]; omega), hI, bd q1, bd (m_mix _ _), lt_eq, show iN j + 1 = iN (j + 1) from iN_add j 1]
    rfl) (fun fu h' σ hI => by
    show f_X6_digest_219b many tx (iN m) (f_X6_digest_219 many tx (iN m) fu) th σ.1 σ.2.1 σ.2.2.1 σ.2.2.2.1 σ.2.2.2.2.1 σ.2.2.2.2.2.1 σ.2.2.2.2.2.2.1 σ.2.2.2.2.2.2.2 st row rl id_ h' (iN 3) = f_X6_digest_219b many tx (iN m) (fun _ _ _ _ _ _ _ _ _ _ _ _ _ _ _ => none) th σ.1 σ.2.1 σ.2.2.1 σ.2.2.2.1 σ.2.2.2.2.1 σ.2.2.2.2.2.1 σ.2.2.2.2.2.2.1 σ.2.2.2.2.2.2.2 st row rl id_ h' (iN 3)
    unfold f_X6_digest_219b
    rw [if_pos (show 3 ≤ iN 3 from Int32.le_refl _), if_pos (show 3 ≤ iN 3 from Int32.le_refl _)]) FU h σ (FU_lt (by omega)) hσ
  rw [e]
  obtain ⟨y', τ, r1, r2, r3⟩ := s_freesM hs σ'.2.1 σ'.2.2.1 σ'.2.2.2.1 σ'.2.2.2.2.1 σ'.2.2.2.2.2.1 σ'.2.2.2.2.2.2.1 σ'.2.2.2.2.2.2.2
  have ey := cuR_one hy r3
  subst ey
  obtain ⟨v, v1, v2, v3⟩ := lay6 hs τ.2.2.1 τ.2.2.2.1 τ.2.2.2.2.1 τ.2.2.2.2.2.1 τ.2.2.2.2.2.2.1 τ.2.2.2.2.2.2.2
  have sh := M_share hs v2
  have m2 := M275 (many := many) hT th (τ.1, τ.2.1, v.1, v.2.1, v.2.2.1, v.2.2.2.1, v.2.2.2.2.1, v.2.2.2.2.2) st row rl id_ (mx (mx (mx (foldN (g7 x) 3 h) (Int32.toInt64 (oN y))) bits) (Int32.toInt64 (iN m)))
  unfold f_X6_digest_219b
  rw [if_pos (show 3 ≤ iN 3 from Int32.le_refl _), i', bd r1, bd (m_mix _ _)]
  dsimp only at r2 ⊢
  rw [r2, bd v1, bd sh, bd hb, bd (m_mix _ _), bd (m_mix _ _), ← r2]
  exact ⟨_, m2, rfl, rfl⟩
theorem M152 (hs : Good s n) {p q : Nat} (hp : p < n) (hq : q < n) (k129 : Int32 → (Nat → Int32) → (Nat → Int32) → (Nat → Int64) → (Nat → Int64) → (Nat → Int32) → Int32 → Int64 → Int64 → (Nat → Int32) → (Nat → Int32) → Int32 → Int32 → Int64 → Int32 → Int32 → Option TD) (th : Int32) (a : Nat → Int32) (v : L6) (τ : TT6) (h : Int64) : ∃ τ' : TT6, f_X6_digest_152 many tx (iN m) k129 FU th s a v.1 v.2.1 v.2.2.1 v.2.2.2.1 τ.1 τ.2.1 τ.2.2.1 τ.2.2.2.1 τ.2.2.2.2.1 τ.2.2.2.2.2 h (iN p) (iN q) (iN 0) = k129 th s a v.1 v.2.1 v.2.2.1 v.2.2.2.1 τ'.1 τ'.2.1 τ'.2.2.1 τ'.2.2.2.1 τ'.2.2.2.2.1 τ'.2.2.2.2.2 (mx (mx (foldN (g4 s p q) 4 h) (trL s p q).1) (trL s p q).2.1) (iN p) (iN (q + 1)) := by
  obtain ⟨τ1, -, e⟩ := lp_foldS (σ := TT6) (I := fun _ => True) (F := fun fu j h' τ => f_X6_digest_152 many tx (iN m) k129 fu th s a v.1 v.2.1 v.2.2.1 v.2.2.2.1 τ.1 τ.2.1 τ.2.2.1 τ.2.2.2.1 τ.2.2.2.2.1 τ.2.2.2.2.2 h' (iN p) (iN q) (iN j)) (N := 4) (g4 s p q) (fun h' τ => f_X6_digest_152b many tx (iN m) k129 (fun _ _ _ _ _ _ _ _ _ _ _ _ _ _ _ _ _ => none) th s a v.1 v.2.1 v.2.2.1 v.2.2.2.1 τ.1 τ.2.1 τ.2.2.1 τ.2.2.2.1 τ.2.2.2.2.1 τ.2.2.2.2.2 h' (iN p) (iN q) (iN 4)) (fun fu j h' τ hj _ => by
    obtain ⟨τ1, q1⟩ := M_row hs hp hq (show j ≤ 3 by omega) τ.1 τ.2.1 τ.2.2.1 τ.2.2.2.1 τ.2.2.2.2.1 τ.2.2.2.2.2
    refine ⟨τ1, trivial, ?_⟩
    show f_X6_digest_152b many tx (iN m) k129 (f_X6_digest_152 many tx (iN m) k129 fu) th s a v.1 v.2.1 v.2.2.1 v.2.2.2.1 τ.1 τ.2.1 τ.2.2.1 τ.2.2.2.1 τ.2.2.2.2.1 τ.2.2.2.2.2 h' (iN p) (iN q) (iN j) = _
    unfold f_X6_digest_152b
    rw [if_neg (show ¬ 4 ≤ iN j by rw [iN_lit, iN_le (by omega) (by omega)]; omega), bd q1, bd (m_mix _ _), lt_eq, show iN j + 1 = iN (j + 1) from iN_add j 1]
    rfl) (fun fu h' τ _ => by
    show f_X6_digest_152b many tx (iN m) k129 (f_X6_digest_152 many tx (iN m) k129 fu) th s a v.1 v.2.1 v.2.2.1 v.2.2.2.1 τ.1 τ.2.1 τ.2.2.1 τ.2.2.2.1 τ.2.2.2.2.1 τ.2.2.2.2.2 h' (iN p) (iN q) (iN 4) = f_X6_digest_152b many tx (iN m) k129 (fun _ _ _ _ _ _ _ _ _ _ _ _ _ _ _ _ _ => none) th s a v.1 v.2.1 v.2.2.1 v.2.2.2.1 τ.1 τ.2.1 τ.2.2.1 τ.2.2.2.1 τ.2.2.2.2.1 τ.2.2.2.2.2 h' (iN p) (iN q) (iN 4)
    unfold f_X6_digest_152b
    rw [if_pos (show 4 ≤ iN 4 from Int32.le_refl _), if_pos (show 4 ≤ iN 4 from Int32.le_refl _)]) FU h τ (FU_lt (by omega)) trivial
  rw [e]
  obtain ⟨τ2, q2⟩ := M_ratio hs hp hq (show 0 ≤ 1 by omega) τ1.1 τ1.2.1 τ1.2.2.1 τ1.2.2.2.1 τ1.2.2.2.2.1 τ1.2.2.2.2.2
  obtain ⟨τ3, q3⟩ := M_ratio hs hp hq (show 1 ≤ 1 by omega) τ2.1 τ2.2.1 τ2.2.2.1 τ2.2.2.2.1 τ2.2.2.2.2.1 τ2.2.2.2.2.2
  rw [if_pos rfl] at q2
  rw [if_neg (by omega)] at q3
  refine ⟨τ3, ?_⟩
  unfold f_X6_digest_152b
  rw [if_pos (show 4 ≤ iN 4 from Int32.le_refl _), show (0 : Int32) = iN 0 from rfl, show (1 : Int32) = iN 1 from rfl, bd q2, bd (m_mix _ _)]
  dsimp only
  rw [bd q3, bd (m_mix _ _), lt_eq, show iN q + iN 1 = iN (q + 1) from iN_add q 1]
theorem M129 (hs : Good s n) {p : Nat} (hp : p < n) (k117 : Int32 → (Nat → Int32) → (Nat → Int32) → (Nat → Int64) → (Nat → Int64) → (Nat → Int32) → Int32 → Int64 → Int64 → (Nat → Int32) → (Nat → Int32) → Int32 → Int32 → Int64 → Int32 → Option TD) (th : Int32) (a : Nat → Int32) (v : L6) (τ : TT6) (h : Int64) : ∃ τ' : TT6, f_X6_digest_129 many tx (iN m) k117 FU th s a v.1 v.2.1 v.2.2.1 v.2.2.2.1 τ.1 τ.2.1 τ.2.2.1 τ.2.2.2.1 τ.2.2.2.2.1 τ.2.2.2.2.2 h (iN p) (iN 0) = k117 th s a v.1 v.2.1 v.2.2.1 v.2.2.2.1 τ'.1 τ'.2.1 τ'.2.2.1 τ'.2.2.2.1 τ'.2.2.2.2.1 τ'.2.2.2.2.2 (g6 s n p h) (iN (p + 1)) := by
  have h9 := hs.2.1
  obtain ⟨τ1, -, e⟩ := lp_foldS (σ := TT6) (I := fun _ => True) (F := fun fu j h' τ => f_X6_digest_129 many tx (iN m) k117 fu th s a v.1 v.2.1 v.2.2.1 v.2.2.2.1 τ.1 τ.2.1 τ.2.2.1 τ.2.2.2.1 τ.2.2.2.2.1 τ.2.2.2.2.2 h' (iN p) (iN j)) (N := n) (g5 s p) (fun h' τ => k117 th s a v.1 v.2.1 v.2.2.1 v.2.2.2.1 τ.1 τ.2.1 τ.2.2.1 τ.2.2.2.1 τ.2.2.2.2.1 τ.2.2.2.2.2 h' (iN (p + 1))) (fun fu j h' τ hj _ => by
    obtain ⟨τ1, q1⟩ := M152 (many := many) (tx := tx) (m := m) hs hp hj (f_X6_digest_129 many tx (iN m) k117 fu) th a v τ (mx h' (Int32.toInt64 (iN (mS s p j))))
    refine ⟨τ1, trivial, ?_⟩
    show f_X6_digest_129b many tx (iN m) k117 (f_X6_digest_129 many tx (iN m) k117 fu) th s a v.1 v.2.1 v.2.2.1 v.2.2.2.1 τ.1 τ.2.1 τ.2.2.1 τ.2.2.2.1 τ.2.2.2.2.1 τ.2.2.2.2.2 h' (iN p) (iN j) = _
    unfold f_X6_digest_129b
    rw [rd_0 (by omega), hs.1, if_neg (show ¬ iN n ≤ iN j by rw [iN_le (by omega) (by omega)]; omega), bd (s_meshed hs (show p < 9 by omega) (show j < 9 by omega)), bd (m_mix _ _)]
    exact q1) (fun fu h' τ _ => by
    show f_X6_digest_129b many tx (iN m) k117 (f_X6_digest_129 many tx (iN m) k117 fu) th s a v.1 v.2.1 v.2.2.1 v.2.2.2.1 τ.1 τ.2.1 τ.2.2.1 τ.2.2.2.1 τ.2.2.2.2.1 τ.2.2.2.2.2 h' (iN p) (iN n) = _
    unfold f_X6_digest_129b
    rw [rd_0 (by omega), hs.1, if_pos (Int32.le_refl _), lt_eq, show iN p + 1 = iN (p + 1) from iN_add p 1]) FU h τ (FU_lt (by omega)) trivial
  exact ⟨τ1, e⟩
theorem M117 (hs : Good s n) (hT : TX tx m c) {x y : Option Nat} (hx : fcR s n x) (hy : cuR s n y) {bits : Int64} (hb : f_X6_bitsOf (shV (lo s).1 n) = some bits) (th : Int32) (a : Nat → Int32) {v : L6} (hv : Solved s n v.1 v.2.1 v.2.2.1 (jB s)) (hj : v.2.2.2.1 = b2 (jB s)) (τ : TT6) (h : Int64) : ∃ z : TD, f_X6_digest_117 many tx (iN m) FU th s a v.1 v.2.1 v.2.2.1 v.2.2.2.1 τ.1 τ.2.1 τ.2.2.1 τ.2.2.2.1 τ.2.2.2.2.1 τ.2.2.2.2.2 h (iN 0) = some z ∧ z.1 = foldN (g8 c) m (mx (mx (mx (foldN (g7 x) 3 (mx (foldN (g6 s n) n h) (mkV s))) (Int32.toInt64 (oN y))) bits) (Int32.toInt64 (iN m))) ∧ z.2.2.1 = s := by
  have h9 := hs.2.1
  obtain ⟨τ1, -, e⟩ := lp_foldS (σ := TT6) (I := fun _ => True) (F := fun fu j h' τ => f_X6_digest_117 many tx (iN m) fu th s a v.1 v.2.1 v.2.2.1 v.2.2.2.1 τ.1 τ.2.1 τ.2.2.1 τ.2.2.2.1 τ.2.2.2.2.1 τ.2.2.2.2.2 h' (iN j)) (N := n) (g6 s n) (fun h' τ => f_X6_digest_219 many tx (iN m) FU th s a v.1 v.2.1 v.2.2.1 v.2.2.2.1 τ.1 τ.2.1 τ.2.2.1 τ.2.2.2.1 τ.2.2.2.2.1 τ.2.2.2.2.2 (mx h' (mkV s)) 0) (fun fu j h' τ hj2 _ => by
    obtain ⟨τ1, q1⟩ := M129 (many := many) (tx := tx) (m := m) hs hj2 (f_X6_digest_117 many tx (iN m) fu) th a v τ h'
    refine ⟨τ1, trivial, ?_⟩
    show f_X6_digest_117b many tx (iN m) (f_X6_digest_117 many tx (iN m) fu) th s a v.1 v.2.1 v.2.2.1 v.2.2.2.1 τ.1 τ.2.1 τ.2.2.1 τ.2.2.2.1 τ.2.2.2.2.1 τ.2.2.2.2.2 h' (iN j) = _
    unfold f_X6_digest_117b
    rw [rd_0 (by omega), hs.1, if_neg (show ¬ iN n ≤ iN j by rw [iN_le (by omega) (by omega)]; omega)]
    exact q1) (fun fu h' τ _ => by
    show f_X6_digest_117b many tx (iN m) (f_X6_digest_117 many tx (iN m) fu) th s a v.1 v.2.1 v.2.2.1 v.2.2.2.1 τ.1 τ.2.1 τ.2.2.1 τ.2.2.2.1 τ.2.2.2.2.1 τ.2.2.2.2.2 h' (iN n) = _
    unfold f_X6_digest_117b
    rw [rd_0 (by omega), hs.1, if_pos (Int32.le_refl _), bd (M_marks hs hv hj), bd (m_mix _ _)]) FU h τ (FU_lt (by omega)) trivial
  rw [e]
  exact M219 hs hT hx hy hb th (s, a, v.1, v.2.1, v.2.2.1, v.2.2.2.1, τ1.1, τ1.2.1) rfl τ1.2.2.1 τ1.2.2.2.1 τ1.2.2.2.2.1 τ1.2.2.2.2.2 _
theorem M66 (hs : Good s n) {p : Nat} (hp : p < n) (k54 : Int32 → (Nat → Int32) → (Nat → Int32) → (Nat → Int64) → (Nat → Int64) → (Nat → Int32) → Int32 → Int64 → Int64 → (Nat → Int32) → (Nat → Int32) → Int32 → Int32 → Int64 → Int32 → Option TD) (th : Int32) (a : Nat → Int32) {v : L6} (hv : Solved s n v.1 v.2.1 v.2.2.1 (jB s)) (τ : TT6) (h : Int64) : f_X6_digest_66 many tx (iN m) k54 FU th s a v.1 v.2.1 v.2.2.1 v.2.2.2.1 τ.1 τ.2.1 τ.2.2.1 τ.2.2.2.1 τ.2.2.2.2.1 τ.2.2.2.2.2 h (iN p) (iN 0) = k54 th s a v.1 v.2.1 v.2.2.1 v.2.2.2.1 τ.1 τ.2.1 τ.2.2.1 τ.2.2.2.1 τ.2.2.2.2.1 τ.2.2.2.2.2 (g3 s n p h) (iN (p + 1)) := by
  have h9 := hs.2.1
  have aM := (lo_all hs hv).2.2.2 p (by omega)
  refine lp_fold (F := fun fu j h' => f_X6_digest_66 many tx (iN m) k54 fu th s a v.1 v.2.1 v.2.2.1 v.2.2.2.1 τ.1 τ.2.1 τ.2.2.1 τ.2.2.2.1 τ.2.2.2.2.1 τ.2.2.2.2.2 h' (iN p) (iN j)) (N := 9) (g2 s n p) (fun h' => k54 th s a v.1 v.2.1 v.2.2.1 v.2.2.2.1 τ.1 τ.2.1 τ.2.2.1 τ.2.2.2.1 τ.2.2.2.2.1 τ.2.2.2.2.2 (mx (mx h' ((lo s).1 p)) ((lo s).2.1 p)) (iN (p + 1))) ?_ ?_ FU _ (FU_lt (by omega))
  · intro fu j h' hj
    show f_X6_digest_66b many tx (iN m) k54 (f_X6_digest_66 many tx (iN m) k54 fu) th s a v.1 v.2.1 v.2.2.1 v.2.2.2.1 τ.1 τ.2.1 τ.2.2.1 τ.2.2.2.1 τ.2.2.2.2.1 τ.2.2.2.2.2 h' (iN p) (iN j) = _
    unfold f_X6_digest_66b
    rw [if_neg (show ¬ 9 ≤ iN j by rw [iN_lit, iN_le (by omega) (by omega)]; omega), bd (M_peg hs hv hp (show j ≤ 8 by omega)), bd (m_mix _ _), lt_eq, show iN j + 1 = iN (j + 1) from iN_add j 1]
    rfl
  · intro fu h'
    show f_X6_digest_66b many tx (iN m) k54 (f_X6_digest_66 many tx (iN m) k54 fu) th s a v.1 v.2.1 v.2.2.1 v.2.2.2.1 τ.1 τ.2.1 τ.2.2.1 τ.2.2.2.1 τ.2.2.2.2.1 τ.2.2.2.2.2 h' (iN p) (iN 9) = _
    unfold f_X6_digest_66b
    rw [if_pos (show 9 ≤ iN 9 from Int32.le_refl _), rd_n (show p < 9 by omega) (by omega), bd (m_mix _ _), rd_n (show p < 9 by omega) (by omega), bd (m_mix _ _), aM.1, aM.2.1, lt_eq, show iN p + 1 = iN (p + 1) from iN_add p 1]
theorem M_digest (hs : Good s n) (hT : TX tx m c) {x y : Option Nat} (hx : fcR s n x) (hy : cuR s n y) {bits : Int64} (hb : f_X6_bitsOf (shV (lo s).1 n) = some bits) (th : Int32) (a : Nat → Int32) (ab be : Nat → Int64) (jo : Nat → Int32) (j0 : Int32) (r1 r2 : Int64) (st row : Nat → Int32) (rl id_ : Int32) (dg : Int64) : ∃ z : TD, f_X6_digest th s a many tx (iN m) ab be jo j0 r1 r2 st row rl id_ dg = some z ∧ z.1 = dig s n many x y bits m c ∧ z.2.2.1 = s := by
  have h9 := hs.2.1
  obtain ⟨v, v1, v2, v3⟩ := lay6 hs ab be jo j0 r1 r2
  obtain ⟨τ, hτ⟩ : ∃ τ : TT6, τ = (v.2.2.2.2.1, v.2.2.2.2.2, st, row, rl, id_) := ⟨_, rfl⟩
  have L54 : ∀ h : Int64, f_X6_digest_54 many tx (iN m) FU 0 s a v.1 v.2.1 v.2.2.1 v.2.2.2.1 τ.1 τ.2.1 τ.2.2.1 τ.2.2.2.1 τ.2.2.2.2.1 τ.2.2.2.2.2 h (iN 0) = f_X6_digest_117 many tx (iN m) FU 0 s a v.1 v.2.1 v.2.2.1 v.2.2.2.1 τ.1 τ.2.1 τ.2.2.1 τ.2.2.2.1 τ.2.2.2.2.1 τ.2.2.2.2.2 (foldN (g3 s n) n h) (iN 0) := by
    intro h
    refine lp_fold (F := fun fu j h' => f_X6_digest_54 many tx (iN m) fu 0 s a v.1 v.2.1 v.2.2.1 v.2.2.2.1 τ.1 τ.2.1 τ.2.2.1 τ.2.2.2.1 τ.2.2.2.2.1 τ.2.2.2.2.2 h' (iN j)) (N := n) (g3 s n) (fun h' => f_X6_digest_117 many tx (iN m) FU 0 s a v.1 v.2.1 v.2.2.1 v.2.2.2.1 τ.1 τ.2.1 τ.2.2.1 τ.2.2.2.1 τ.2.2.2.2.1 τ.2.2.2.2.2 h' (iN 0)) ?_ ?_ FU _ (FU_lt (by omega))
    · intro fu j h' hj
      show f_X6_digest_54b many tx (iN m) (f_X6_digest_54 many tx (iN m) fu) 0 s a v.1 v.2.1 v.2.2.1 v.2.2.2.1 τ.1 τ.2.1 τ.2.2.1 τ.2.2.2.1 τ.2.2.2.2.1 τ.2.2.2.2.2 h' (iN j) = _
      unfold f_X6_digest_54b
      rw [rd_0 (by omega), hs.1, if_neg (show ¬ iN n ≤ iN j by rw [iN_le (by omega) (by omega)]; omega)]
      exact M66 hs hj (f_X6_digest_54 many tx (iN m) fu) 0 a v2 τ h'
    · intro fu h'
      show f_X6_digest_54b many tx (iN m) (f_X6_digest_54 many tx (iN m) fu) 0 s a v.1 v.2.1 v.2.2.1 v.2.2.2.1 τ.1 τ.2.1 τ.2.2.1 τ.2.2.2.1 τ.2.2.2.2.1 τ.2.2.2.2.2 h' (iN n) = _
      unfold f_X6_digest_54b
      rw [rd_0 (by omega), hs.1, if_pos (Int32.le_refl _)]
      rfl
  have L18 : f_X6_digest_18 many tx (iN m) FU 0 s a v.1 v.2.1 v.2.2.1 v.2.2.2.1 τ.1 τ.2.1 τ.2.2.1 τ.2.2.2.1 τ.2.2.2.2.1 τ.2.2.2.2.2 2753 (iN 0) = f_X6_digest_54 many tx (iN m) FU 0 s a v.1 v.2.1 v.2.2.1 v.2.2.2.1 τ.1 τ.2.1 τ.2.2.1 τ.2.2.2.1 τ.2.2.2.2.1 τ.2.2.2.2.2 (mx (foldN (g1 s n many) 11 2753) (Int32.toInt64 (s 59))) (iN 0) := by
    refine lp_fold (F := fun fu j h' => f_X6_digest_18 many tx (iN m) fu 0 s a v.1 v.2.1 v.2.2.1 v.2.2.2.1 τ.1 τ.2.1 τ.2.2.1 τ.2.2.2.1 τ.2.2.2.2.1 τ.2.2.2.2.2 h' (iN j)) (N := 11) (g1 s n many) (fun h' => f_X6_digest_54 many tx (iN m) FU 0 s a v.1 v.2.1 v.2.2.1 v.2.2.2.1 τ.1 τ.2.1 τ.2.2.1 τ.2.2.2.1 τ.2.2.2.2.1 τ.2.2.2.2.2 (mx h' (Int32.toInt64 (s 59))) (iN 0)) ?_ ?_ FU _ (FU_lt (by omega))
    · intro fu j h' hj
      show f_X6_digest_18b many tx (iN m) (f_X6_digest_18 many tx (iN m) fu) 0 s a v.1 v.2.1 v.2.2.1 v.2.2.2.1 τ.1 τ.2.1 τ.2.2.1 τ.2.2.2.1 τ.2.2.2.2.1 τ.2.2.2.2.2 h' (iN j) = _
      unfold f_X6_digest_18b
      rw [if_neg (show ¬ 11 ≤ iN j by rw [iN_lit, iN_le (by omega) (by omega)]; omega), bd (M_count hs v2 v3 (show j ≤ 10 by omega)), bd (m_mix _ _), lt_eq, show iN j + 1 = iN (j + 1) from iN_add j 1]
      rfl
    · intro fu h'
      show f_X6_digest_18b many tx (iN m) (f_X6_digest_18 many tx (iN m) fu) 0 s a v.1 v.2.1 v.2.2.1 v.2.2.2.1 τ.1 τ.2.1 τ.2.2.1 τ.2.2.2.1 τ.2.2.2.2.1 τ.2.2.2.2.2 h' (iN 11) = _
      unfold f_X6_digest_18b
      rw [if_pos (show 11 ≤ iN 11 from Int32.le_refl _), rd_59, bd (m_mix _ _)]
      rfl
  obtain ⟨z, z1, z2, z3⟩ := M117 (many := many) hs hT hx hy hb 0 a v2 v3 τ (foldN (g3 s n) n (mx (foldN (g1 s n many) 11 2753) (Int32.toInt64 (s 59))))
  refine ⟨z, ?_, z2, z3⟩
  unfold f_X6_digest
  rw [lt_eq, bd v1, lt_eq]
  have e := L18.trans ((L54 _).trans z1)
  rw [hτ] at e
  exact e
theorem o_digest {b : TB} {w : TW} {t : TT} {hi : TH} {sv : Nat → Int32} {len : Int32} (hs : Good s n) (hB : RB b s) (hW : Ww w s n) (hH : RH hi sv many) (hX : RT t tx len) (T : TB) (tw : TW) (R : TR) (th : Int32) (a : Nat → Int32) (ab be : Nat → Int64) (jo : Nat → Int32) (j0 : Int32) (r1 r2 : Int64) (st row : Nat → Int32) (rl id_ : Int32) (dg : Int64) : ∃ (v : Int64) (T' : TB) (tw' : TW) (R' : TR) (z : TD), f_X5_digest b w T tw R t hi = some (v, T', tw', R') ∧ f_X6_digest th s a many tx len ab be jo j0 r1 r2 st row rl id_ dg = some z ∧ z.1 = v ∧ z.2.2.1 = s := by
  obtain ⟨m, c, e1, e2, T1, T2⟩ := hX
  have okS := (shV_ok (nu := (lo s).1) hs.2.1).2.2.2
  obtain ⟨bits, hb⟩ := Option.isSome_iff_exists.mp okS
  obtain ⟨x, y, T', tw', R', c1, hx, hy⟩ := C_digest hs hB hW hH e1 T1 hb T tw R
  obtain ⟨z, z1, z2, z3⟩ := M_digest (many := many) hs T2 hx hy hb th a ab be jo j0 r1 r2 st row rl id_ dg
  rw [e2]
  exact ⟨_, T', tw', R', z, c1, z1, z2, z3⟩
end
