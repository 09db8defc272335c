/-! texts walked and carried out -/
theorem s_goEnd {tx : Nat → Int32} {m : Nat} {p1 : Int32} (fu : Nat) (s : Nat → Int32) (a w : Int32) (to : Nat → Int32) (l2 : Int32) : f_X6_go_14 tx (iN m) p1 (fu + 1) s a w to l2 (iN 0) = some (l2, s, a, w, to) := rfl
theorem s_go0 {tx : Nat → Int32} {m : Nat} {c : Nat → Nat} (hT : TX tx m c) (s : Nat → Int32) : ∀ (f i a fu : Nat) (to : Nat → Int32), i + f = 21 → 3 * i ≤ a → a ≤ m → f + 1 < fu → ∃ to', f_X6_go_14 tx (iN m) (iN 0) fu s (iN a) (iN 0) to (iN 0) (iN 1) = some (iN 0, s, iN (gS m c f a).2.1, b2 (!(gS m c f a).1), to') := by
  have h60 := hT.1
  intro f
  induction f with
  | zero => intro i a fu to h1 h2 h3; omega
  | succ f ih =>
    intro i a fu to h1 h2 h3 h4
    obtain ⟨g, rfl⟩ : ∃ g, fu = g + 1 + 1 := ⟨fu - 2, by omega⟩
    obtain ⟨to1, q1, q2⟩ := s_order hT h3 to
    have st : f_X6_go_14 tx (iN m) (iN 0) (g + 1 + 1) s (iN a) (iN 0) to (iN 0) (iN 1) = f_X6_go_14b tx (iN m) (iN 0) (f_X6_go_14 tx (iN m) (iN 0) (g + 1)) s (iN a) (iN 0) to (iN 0) (iN 1) := rfl
    have e0 : (0 : Int32) = iN 0 := rfl
    have e1 : (1 : Int32) = iN 1 := rfl
    rw [st]
    unfold f_X6_go_14b f_X6_go_37 f_X6_go_38 f_X6_go_51 f_X6_go_69 f_X6_go_84 f_X6_go_85 f_X6_go_112 f_X6_go_113
    rw [if_neg z1, bd q1, if_pos z0, e0, e1, if_pos (show iN 0 = iN 0 from rfl), iN_add, lt_eq]
    unfold gS
    rcases bdic (odS m c a).1 with h | h
    · rw [h, if_neg (show ¬ b2 (!false) = iN 0 by decide), if_pos (show iN 0 = iN 0 from rfl), s_goEnd, if_neg (by decide)]
      exact ⟨_, rfl⟩
    · obtain ⟨ad, -⟩ := odS_adv h
      rw [h, if_pos (show b2 (!true) = iN 0 from rfl), if_pos (show iN 0 = iN 0 from rfl), if_pos (show iN 0 = iN 0 from rfl), if_pos rfl]
      have hpm : (odS m c a).2.1 ≤ m := by
        obtain ⟨-, -, -, hh, -⟩ := s_readOrder hT h3 (show 0 < 30 by omega) (fun _ => 0) (fun _ => 0)
        exact hh
      by_cases hm : m ≤ (odS m c a).2.1
      · rw [if_pos (show iN m ≤ iN (odS m c a).2.1 by rw [iN_le (by omega) (by omega)]; exact hm), s_goEnd, if_pos (show true = true from rfl), if_pos hm]
        exact ⟨_, rfl⟩
      · rw [if_neg (show ¬ iN m ≤ iN (odS m c a).2.1 by rw [iN_le (by omega) (by omega)]; exact hm), if_neg (show ¬ iN 1 = iN 0 by decide), if_pos (show true = true from rfl), if_neg hm, show (59 : Int32) = iN 59 from rfl]
        rcases s_sign1 hT 59 hpm (by omega) (by omega) with ⟨s1, s2, s3⟩ | ⟨s1, x, s3⟩
        · rw [show b2 (!true) = iN 0 from rfl, bd s3, if_pos (show iN 0 = iN 0 from rfl), if_pos s1]
          obtain ⟨to', r1⟩ := ih (i + 1) ((odS m c a).2.1 + 1) (g + 1) to1 (by omega) (by omega) (by omega) (by omega)
          exact ⟨to', r1⟩
        · rw [show b2 (!true) = iN 0 from rfl, bd s3, if_neg (show ¬ iN 1 = iN 0 by decide), s_goEnd, if_neg s1]
          exact ⟨_, rfl⟩
theorem gS_pos {cs : Nat → Int32} {m : Nat} {c : Nat → Nat} (hT : TX cs m c) : ∀ f a, a ≤ m → (gS m c f a).2.1 ≤ m ∧ ((gS m c f a).1 = true → (gS m c f a).2.1 = m) := by
  intro f
  induction f with
  | zero => intro a ha; exact ⟨ha, fun h => by cases h⟩
  | succ f ih =>
    intro a ha
    have hpm : (odS m c a).2.1 ≤ m := by
      obtain ⟨-, -, -, hh, -⟩ := s_readOrder hT ha (show 0 < 30 by omega) (fun _ => 0) (fun _ => 0)
      exact hh
    unfold gS
    by_cases h : (odS m c a).1 = true
    · rw [if_pos h]
      by_cases hm : m ≤ (odS m c a).2.1
      · rw [if_pos hm]
        exact ⟨hpm, fun _ => Nat.le_antisymm hpm hm⟩
      · rw [if_neg hm]
        by_cases s1 : ch m c (odS m c a).2.1 = 59
        · rw [if_pos s1]
          exact ih _ (by omega)
        · rw [if_neg s1]
          exact ⟨hpm, fun h => by cases h⟩
    · rw [if_neg h]
      exact ⟨hpm, fun h => by cases h⟩
/-- the class's text beside the reference's -/
def RT (t : TT) (tx : Nat → Int32) (len : Int32) : Prop := ∃ m c, t.2.1 = iN m ∧ len = iN m ∧ TX t.1 m c ∧ TX tx m c
theorem s_read {cs : Nat → Int32} {m : Nat} {c : Nat → Nat} (hT : TX cs m c) (le pa : Nat → Int32) (o a w : Int32) : ∃ le' pa', f_X3_read cs (iN m) le pa o a w = some (le', pa', iN (gS m c 21 0).2.2, iN (gS m c 21 0).2.1, b2 (gS m c 21 0).1) ∧ ∀ k, k < (gS m c 21 0).2.2 → le' k = iN (ch m c (seqS m c k 0)) ∧ seqS m c k 0 < m ∧ (odS m c (seqS m c k 0)).1 = true ∧ oPR m c (seqS m c k 0) pa' k := by
  obtain ⟨le', pa', q1, -, -, q4⟩ := s_readLoop hT 21 0 0 FU le pa (iN 0) rfl (by omega) (by omega) (FU_lt (by omega))
  simp only [Nat.zero_add] at q1 q4
  exact ⟨le', pa', q1, q4⟩
theorem o_firstError {t : TT} {tx : Nat → Int32} {len : Int32} (h : RT t tx len) (th : Int32) (s : Nat → Int32) (a w : Int32) (to : Nat → Int32) : ∃ (v : Int32) (t' : TT) (a' w' : Int32) (to' : Nat → Int32), f_X5_firstError t = some (v, t') ∧ f_X6_firstError th s tx len a w to = some (v, iN 0, s, a', w', to') ∧ RT t' tx len := by
  obtain ⟨m, c, e1, e2, T1, T2⟩ := h
  obtain ⟨le', pa', q1, -⟩ := s_read T1 t.2.2.1 t.2.2.2.1 t.2.2.2.2.1 t.2.2.2.2.2.1 t.2.2.2.2.2.2
  obtain ⟨to', r1⟩ := s_go0 T2 s 21 0 0 FU to rfl (by omega) (by omega) (FU_lt (by omega))
  have gp := gS_pos T2 21 0 (by omega)
  have go : f_X6_go s tx (iN m) a w to (iN 0) = _ := r1
  unfold f_X5_firstError f_X6_firstError
  rw [e1, bd q1, lt_eq, e2, show (0 : Int32) = iN 0 from rfl, bd go]
  refine ⟨iN (gS m c 21 0).2.1, (t.1, iN m, le', pa', iN (gS m c 21 0).2.2, iN (gS m c 21 0).2.1, b2 (gS m c 21 0).1), iN (gS m c 21 0).2.1, b2 (!(gS m c 21 0).1), to', rfl, ?_, m, c, rfl, rfl, T1, T2⟩
  rcases bdic (gS m c 21 0).1 with hw | hw
  · rw [hw, if_neg (show ¬ b2 (!false) = iN 0 by decide)]
  · rw [hw, if_pos (show b2 (!true) = iN 0 from rfl), gp.2 hw]
theorem o_append {t : TT} {tx : Nat → Int32} {len : Int32} (h : RT t tx len) (th p1 : Int32) : ∃ (k : Nat) (v : Int32) (t' : TT) (v2 : Int32) (tx' : Nat → Int32) (len' : Int32), f_X5_append t p1 = some (k, v, t') ∧ f_X6_append th tx len p1 = some (v2, iN (k - 1), tx', len') ∧ (k = 0 → v2 = v) ∧ (k = 0 ∨ k = 2 ∨ k = 3) ∧ RT t' tx' len' := by
  have h0 := h
  obtain ⟨m, c, e1, e2, T1, T2⟩ := h
  have h60 := T1.1
  unfold f_X5_append f_X6_append
  rcases s_in (v := p1) (a := 33) (b := 126) (by omega) (by omega) with ⟨hb, m1⟩ | ⟨x, rfl, hx1, hx2, m1⟩
  · refine ⟨2, 0, t, 0, tx, len, ?_, ?_, fun _ => rfl, Or.inr (Or.inl rfl), h0⟩
    · rcases hb with hb | ⟨hb, hb2⟩
      · rw [if_pos (show p1 < 33 from hb)]
        rfl
      · rw [if_neg (show ¬ p1 < 33 from hb), if_pos (show 126 < p1 from hb2)]
        rfl
    · rw [show (33 : Int32) = iN 33 from rfl, show (126 : Int32) = iN 126 from rfl, bd m1, if_pos z0]
      rfl
  · rw [if_neg (show ¬ iN x < 33 by rw [iN_lit, iN_lt (by omega) (by omega)]; omega), if_neg (show ¬ 126 < iN x by rw [iN_lit, iN_lt (by omega) (by omega)]; omega), show (33 : Int32) = iN 33 from rfl, show (126 : Int32) = iN 126 from rfl, bd m1, if_neg z1]
    unfold f_X5_append_17 f_X6_append_30 f_X3_tryAppend
    rw [show (1 : Int32) = iN 1 from rfl, bd need1, if_pos rfl, e1, e2]
    by_cases h6 : m = 60
    · subst h6
      rw [if_neg (show ¬ iN 60 < 60 by decide), if_pos (show iN 60 = 60 from rfl)]
      exact ⟨3, 0, _, 0, tx, iN 60, rfl, rfl, fun _ => rfl, Or.inr (Or.inr rfl), 60, c, rfl, rfl, T1, T2⟩
    · rw [if_pos (show iN m < 60 by rw [iN_lit, iN_lt (by omega) (by omega)]; omega), if_neg (show ¬ iN m = 60 by rw [iN_lit, iN_eq (by omega) (by omega)]; exact h6), wrI_n (show m < 60 by omega) (by omega), lt_eq, show iN m + iN 1 = iN (m + 1) from iN_add m 1, show (0 : Int32) = iN 0 from rfl, bd (holds0 th), if_neg (show ¬ iN 1 = iN 0 by decide), wrI_n (show m < 60 by omega) (by omega), lt_eq]
      have tt : ∀ {cs : Nat → Int32}, TX cs m c → TX (upd cs m (iN x)) (m + 1) (fun j => if j = m then x else c j) := fun {cs} hT => by
        refine ⟨by omega, fun j hj => ?_⟩
        rw [upd_at]
        dsimp only
        by_cases e : j = m
        · rw [if_pos e, if_pos e]
          exact ⟨rfl, hx1, hx2⟩
        · rw [if_neg e, if_neg e]
          exact hT.2 j (by omega)
      exact ⟨0, iN (m + 1), _, iN (m + 1), _, _, rfl, rfl, fun _ => rfl, Or.inl rfl, m + 1, _, rfl, rfl, tt T1, tt T2⟩
theorem o_clear {t : TT} {tx : Nat → Int32} {len : Int32} (h : RT t tx len) (th : Int32) : ∃ (v : Int32) (t' : TT), f_X5_clearBuffer t = some (v, t') ∧ f_X6_clearBuffer th len = some (v, iN 0, iN 0) ∧ RT t' tx (iN 0) := by
  obtain ⟨m, c, e1, e2, T1, T2⟩ := h
  refine ⟨len, (t.1, 0, t.2.2), ?_, rfl, 0, c, rfl, rfl, ⟨by omega, fun j hj => by omega⟩, ⟨by omega, fun j hj => by omega⟩⟩
  unfold f_X5_clearBuffer
  rw [lt_eq, e1, e2]
/-- orders carried out -/
theorem s_exec {m : Nat} {c : Nat → Nat} {tx : Nat → Int32} (hT : TX tx m c) {text : TT} {b : TB} {w : TW} {h : TH} {N : Nat} (hN : text.2.2.2.2.1 = iN N) (hN30 : N ≤ 30) : ∀ (f i a fu1 fu2 d n : Nat) (T : TB) (s to : Nat → Int32), i + f ≤ 30 → a ≤ m → (gS m c f a).1 = true → i + (gS m c f a).2.2 = N → (∀ k, k < (gS m c f a).2.2 → text.2.2.1 (i + k) = iN (ch m c (seqS m c k a)) ∧ seqS m c k a < m ∧ (odS m c (seqS m c k a)).1 = true ∧ oPR m c (seqS m c k a) text.2.2.2.1 (i + k)) → f + 1 < fu1 → f + 1 < fu2 → Good s n → Dst s n → RB T s →
    ∃ (T' : TB) (s' : Nat → Int32) (n' d' : Nat) (at' : Int32) (to' : Nat → Int32), f_X5_build_25 fu1 b w T text h (iN d) (iN i) = f_X5_build_53 b w T' text h (iN d') ∧ f_X6_go_14 tx (iN m) (iN 1) fu2 s (iN a) (iN 0) to (iN d) (iN 1) = some (iN d', s', at', iN 0, to') ∧ RB T' s' ∧ Good s' n' ∧ Dst s' n' := by
  have h60 := hT.1
  intro f
  induction f with
  | zero => intro i a fu1 fu2 d n T s to h1 h2 h3; cases h3
  | succ f ih =>
    intro i a fu1 fu2 d n T s to h1 h2 h3 h4 h5 f1 f2 hs hd hR
    obtain ⟨g1, rfl⟩ : ∃ g, fu1 = g + 1 + 1 := ⟨fu1 - 2, by omega⟩
    obtain ⟨g2, rfl⟩ : ∃ g, fu2 = g + 1 + 1 := ⟨fu2 - 2, by omega⟩
    have st1 : f_X5_build_25 (g1 + 1 + 1) b w T text h (iN d) (iN i) = f_X5_build_25b (f_X5_build_25 (g1 + 1)) b w T text h (iN d) (iN i) := rfl
    have st2 : f_X6_go_14 tx (iN m) (iN 1) (g2 + 1 + 1) s (iN a) (iN 0) to (iN d) (iN 1) = f_X6_go_14b tx (iN m) (iN 1) (f_X6_go_14 tx (iN m) (iN 1) (g2 + 1)) s (iN a) (iN 0) to (iN d) (iN 1) := rfl
    have hok : (odS m c a).1 = true := by
      unfold gS at h3
      by_cases h : (odS m c a).1 = true
      · exact h
      · rw [if_neg h] at h3; cases h3
    obtain ⟨ad, -⟩ := odS_adv hok
    have hpm : (odS m c a).2.1 ≤ m := by
      obtain ⟨-, -, -, hh, -⟩ := s_readOrder hT h2 (show 0 < 30 by omega) (fun _ => 0) (fun _ => 0)
      exact hh
    obtain ⟨to1, q1, q2⟩ := s_order hT h2 to
    have hc1 : 0 < (gS m c (f + 1) a).2.2 := by
      unfold gS at h3 ⊢
      rw [if_pos hok] at h3 ⊢
      by_cases hm : m ≤ (odS m c a).2.1
      · rw [if_pos hm]; exact Nat.one_pos
      · rw [if_neg hm] at h3 ⊢
        by_cases s1 : ch m c (odS m c a).2.1 = 59
        · rw [if_pos s1]; exact Nat.succ_pos _
        · rw [if_neg s1] at h3; cases h3
    obtain ⟨k1, k2, k3, k4⟩ := h5 0 hc1
    obtain ⟨x, T1, s1, n1, dc, dm_, hR1, hG1, hD1⟩ := s_does (text := text) (o := i) (to := to1) hok hs hd hR (by omega) k1 k4 (q2 hok)
    have hiN : ¬ iN N ≤ iN i := by rw [iN_le (by omega) (by omega)]; omega
    have e0 : (0 : Int32) = iN 0 := rfl
    have e1 : (1 : Int32) = iN 1 := rfl
    rw [st1, st2]
    unfold f_X5_build_25b f_X6_go_14b f_X6_go_37 f_X6_go_38 f_X6_go_51 f_X6_go_69 f_X6_go_84 f_X6_go_85 f_X6_go_112 f_X6_go_113
    rw [hN, if_neg hiN, bd dc, if_neg z1, bd q1, if_neg z1, bd dm_, hok, show b2 (!true) = iN 0 from rfl, e0, e1]
    rcases bdic x with hx | hx
    · subst hx
      rw [if_pos (show b2 false = iN 0 from rfl), if_pos (show b2 false = iN 0 from rfl), if_pos (show iN 0 = iN 0 from rfl), show iN d + iN 0 = iN d from iN_add d 0, lt_eq, if_pos (show iN 0 = iN 0 from rfl), if_pos (show iN 0 = iN 0 from rfl), if_neg (show ¬ iN 1 = iN 0 by decide), if_pos (show iN 0 = iN 0 from rfl), s_goEnd]
      exact ⟨T1, s1, n1, d, _, _, rfl, rfl, hR1, hG1, hD1⟩
    · subst hx
      rw [if_neg (show ¬ b2 true = iN 0 by decide), if_neg (show ¬ b2 true = iN 0 by decide), if_neg (show ¬ iN 1 = iN 0 by decide), show iN d + iN 1 = iN (d + 1) from iN_add d 1, show iN i + iN 1 = iN (i + 1) from iN_add i 1, lt_eq, lt_eq, lt_eq, if_pos (show iN 0 = iN 0 from rfl), if_neg (show ¬ iN 1 = iN 0 by decide)]
      unfold gS at h3 h4 h5
      rw [if_pos hok] at h3 h4 h5
      by_cases hm : m ≤ (odS m c a).2.1
      · rw [if_pos hm] at h3 h4 h5
        have hn1 : i + 1 = N := h4
        rw [if_pos (show iN m ≤ iN (odS m c a).2.1 by rw [iN_le (by omega) (by omega)]; exact hm), if_pos (show iN 0 = iN 0 from rfl), s_goEnd]
        have st3 : f_X5_build_25 (g1 + 1) b w T1 text h (iN (d + 1)) (iN (i + 1)) = f_X5_build_53 b w T1 text h (iN (d + 1)) := by
          show f_X5_build_25b (f_X5_build_25 g1) b w T1 text h (iN (d + 1)) (iN (i + 1)) = _
          unfold f_X5_build_25b
          rw [hN, hn1, if_pos (Int32.le_refl _)]
        rw [st3]
        exact ⟨T1, s1, n1, d + 1, _, _, rfl, rfl, hR1, hG1, hD1⟩
      · rw [if_neg hm] at h3 h4 h5
        by_cases s59 : ch m c (odS m c a).2.1 = 59
        · rw [if_pos s59] at h3 h4 h5
          dsimp only at h3 h4 h5
          rw [if_neg (show ¬ iN m ≤ iN (odS m c a).2.1 by rw [iN_le (by omega) (by omega)]; exact hm), if_neg (show ¬ iN 1 = iN 0 by decide), show (59 : Int32) = iN 59 from rfl]
          rcases s_sign1 hT 59 hpm (by omega) (by omega) with ⟨t1, t2, t3⟩ | ⟨t1, y, t3⟩
          · rw [bd t3, if_pos (show iN 0 = iN 0 from rfl)]
            exact ih (i + 1) ((odS m c a).2.1 + 1) (g1 + 1) (g2 + 1) (d + 1) n1 T1 s1 to1 (by omega) (by omega) h3 (by omega) (fun k hk => by
              have := h5 (k + 1) (by omega)
              rw [show i + (k + 1) = i + 1 + k by omega] at this
              exact this) (by omega) (by omega) hG1 hD1 hR1
          · exact absurd s59 t1
        · rw [if_neg s59] at h3
          cases h3
theorem gS_cnt {m : Nat} {c : Nat → Nat} : ∀ f a, (gS m c f a).2.2 ≤ f := by
  intro f
  induction f with
  | zero => intro a; exact Nat.le_refl _
  | succ f ih =>
    intro a
    have := ih ((odS m c a).2.1 + 1)
    unfold gS
    split
    · split
      · exact Nat.succ_le_succ (Nat.zero_le _)
      · split
        · exact Nat.succ_le_succ this
        · exact Nat.succ_le_succ (Nat.zero_le _)
    · exact Nat.zero_le _
theorem o_build {b : TB} {w : TW} {h : TH} {t : TT} {s sv tx : Nat → Int32} {many len : Int32} (hS : St b w h s sv many) (hX : RT t tx len) (t0 : TB) (th a w0 : Int32) (to : Nat → Int32) : ∃ (k : Nat) (v : Int32) (b' : TB) (w' : TW) (t0' : TB) (t' : TT) (h' : TH) (v2 : Int32) (s' sv' : Nat → Int32) (many' len' a' w0' : Int32) (to' : Nat → Int32), f_X5_build b w t0 t h = some (k, v, b', w', t0', t', h') ∧ f_X6_build th s sv many tx len a w0 to = some (v2, iN (k - 1), s', sv', many', len', a', w0', to') ∧ (k = 0 → v2 = v) ∧ (k = 0 ∨ k = 2) ∧ St b' w' h' s' sv' many' ∧ RT t' tx len' := by
  have hS0 := hS
  obtain ⟨n, hs, hd, hB, hW, hH⟩ := hS
  obtain ⟨m, c, e1, e2, T1, T2⟩ := hX
  obtain ⟨le', pa', q1, q2⟩ := s_read T1 t.2.2.1 t.2.2.2.1 t.2.2.2.2.1 t.2.2.2.2.2.1 t.2.2.2.2.2.2
  obtain ⟨to', r1⟩ := s_go0 T2 s 21 0 0 FU to rfl (by omega) (by omega) (FU_lt (by omega))
  have go : f_X6_go s tx (iN m) a w0 to (iN 0) = _ := r1
  unfold f_X5_build f_X6_build
  rw [e1, bd q1, e2, show (0 : Int32) = iN 0 from rfl, bd go]
  rcases bdic (gS m c 21 0).1 with hw | hw
  · rw [hw, bd (show f_X5_need (b2 false) = some 2 from rfl), if_neg (by decide), if_neg (show ¬ b2 (!false) = iN 0 by decide)]
    unfold f_X6_build_19
    rw [show (1 : Int32) = iN 1 from rfl, bd (holds1 th), if_pos z0]
    exact ⟨2, _, b, w, t0, _, h, _, s, sv, many, iN m, _, _, _, rfl, rfl, (fun hc => by cases hc), Or.inr rfl, hS0, m, c, rfl, rfl, T1, T2⟩
  · obtain ⟨v, v1, v2⟩ := s_startTrial t0 hB
    have cn := gS_cnt (m := m) (c := c) 21 0
    obtain ⟨T', s', n', d', at', to2, x1, x2, x3, x4, x5⟩ := s_exec T2 (text := (t.1, iN m, le', pa', iN (gS m c 21 0).2.2, iN (gS m c 21 0).2.1, b2 true)) (b := b) (w := w) (h := h) (N := (gS m c 21 0).2.2) rfl (by omega) 21 0 0 FU FU 0 n v s to' (by omega) (by omega) hw (by omega) (fun k hk => by rw [Nat.zero_add]; exact q2 k hk) (FU_lt (by omega)) (FU_lt (by omega)) hs hd v2
    obtain ⟨b', w', h', sv', many', k1, k2, k3, k4, k5⟩ := St_keep (w := w) hs hd hB hH x3 x4 x5
    rw [hw, bd (show f_X5_need (b2 true) = some 0 from rfl), if_pos rfl, if_pos (show b2 (!true) = iN 0 from rfl), bd v1]
    have x1' : f_X5_build_25 FU b w v (t.1, iN m, le', pa', iN (gS m c 21 0).2.2, iN (gS m c 21 0).2.1, b2 true) h (iN 0) (iN 0) = _ := x1
    have go1 : f_X6_go s tx (iN m) (iN (gS m c 21 0).2.1) (b2 (!true)) to' 1 = some (iN d', s', at', iN 0, to2) := x2
    unfold f_X6_build_19
    rw [bd (holds0 th), if_neg (by decide), bd k2, bd go1]
    refine ⟨0, iN d', b', w', T', (t.1, 0, le', pa', iN (gS m c 21 0).2.2, iN (gS m c 21 0).2.1, b2 true), h', iN d', s', sv', many', 0, at', iN 0, to2, ?_, rfl, fun _ => rfl, Or.inl rfl, k5, 0, c, rfl, rfl, ⟨by omega, fun j hj => by omega⟩, ⟨by omega, fun j hj => by omega⟩⟩
    refine Eq.trans x1' ?_
    unfold f_X5_build_53
    rw [lt_eq, bd k1]
