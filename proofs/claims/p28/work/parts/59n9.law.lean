/-! the law whole -/
section
variable {xs : Nat → Int32} {L : Nat}
theorem cell_ok (hL : L ≤ 260) {k : Nat} (hk : k < 1000) : ∃ v, f_L_cell xs L (iN k) = some v := by
  unfold f_L_cell
  by_cases h : L ≤ k
  · exact ⟨_, by rw [if_pos (show Int32.ofNat L ≤ iN k by rw [show Int32.ofNat L = iN L from rfl, iN_le (by omega) (by omega)]; exact h)]⟩
  · exact ⟨xs k, by rw [if_neg (show ¬ Int32.ofNat L ≤ iN k by rw [show Int32.ofNat L = iN L from rfl, iN_le (by omega) (by omega)]; exact h), rd_n (show k < L by omega) (by omega)]⟩
theorem rm_3 {ρ : Type} {a : Nat} {k : Int32 → Option ρ} (ha : a < 2147483648) : rmI (iN a) 3 k = k (iN (a % 3)) := rmI_n (b := 3) (by omega) ha (by omega)
theorem rm_7 {ρ : Type} {a : Nat} {k : Int32 → Option ρ} (ha : a < 2147483648) : rmI (iN a) 7 k = k (iN (a % 7)) := rmI_n (b := 7) (by omega) ha (by omega)
theorem dv_3 {ρ : Type} {a : Nat} {k : Int32 → Option ρ} (ha : a < 2147483648) : dvI (iN a) 3 k = k (iN (a / 3)) := dvI_n (b := 3) (by omega) ha (by omega)
theorem law_77 (hL : L ≤ 260) : ∀ (fu e : Nat) (x : TG), e ≤ 46 → 46 < fu + e → Inv x.1 x.2.1 x.2.2.2.2.2.2 → f_L_law_77 xs L fu x (-1) (iN e) = some 1 := by
  intro fu
  induction fu with
  | zero => intro e x h1 h2; omega
  | succ fu ih =>
    intro e x h1 h2 hI
    show f_L_law_77b xs L (f_L_law_77 xs L fu) x (-1) (iN e) = some 1
    unfold f_L_law_77b
    by_cases he : e = 46
    · rw [if_pos (show (46 : Int32) ≤ iN e by rw [he]; exact Int32.le_refl _), if_pos rfl]
    · have nxt : ∀ y : TG, Inv y.1 y.2.1 y.2.2.2.2.2.2 → f_L_law_149 xs L (f_L_law_77 xs L fu) y (-1) (iN e) = some 1 := by
        intro y hy
        unfold f_L_law_149
        rw [lt_eq, show iN e + 1 = iN (e + 1) from iN_add e 1]
        exact ih (e + 1) y (by omega) (by omega) hy
      have ans : ∀ y : TG, Inv y.1 y.2.1 y.2.2.2.2.2.2 → f_L_law_132 xs L (f_L_law_77 xs L fu) y (-1) (iN e) = some 1 := by
        intro y hy
        unfold f_L_law_132
        rw [rm_7 (by omega)]
        by_cases h4 : iN (e % 7) = 4
        · obtain ⟨b', w', T', tw', h', q1, q2⟩ := an_all hy y.2.2.1 y.2.2.2.1
          rw [if_pos h4, bd q1, if_neg (show ¬ (1 : Int32) = 0 by decide)]
          exact nxt (b', w', T', tw', y.2.2.2.2.1, y.2.2.2.2.2.1, h') q2
        · rw [if_neg h4]
          exact nxt y hy
      have peg : ∀ (y : TG) (k0 : Int32), Inv y.1 y.2.1 y.2.2.2.2.2.2 → f_L_law_116 xs L (f_L_law_77 xs L fu) y (-1) (iN e) k0 = some 1 := by
        intro y k0 hy
        unfold f_L_law_116
        rw [rm_3 (by omega)]
        by_cases h2' : iN (e % 3) = 2
        · obtain ⟨s, sv, many, n, d, J, V, hC⟩ := Inv_Cx hy
          obtain ⟨row', r⟩ := ap_all hC y.2.2.2.2.1
          rw [if_pos h2', bd r, if_neg (show ¬ (1 : Int32) = 0 by decide)]
          exact ans (y.1, y.2.1, y.2.2.1, y.2.2.2.1, row', y.2.2.2.2.2.1, y.2.2.2.2.2.2) hy
        · rw [if_neg h2']
          exact ans y hy
      obtain ⟨v, hv⟩ := cell_ok (xs := xs) hL (show e < 1000 by omega)
      rw [if_neg (show ¬ (46 : Int32) ≤ iN e by rw [show (46 : Int32) = iN 46 from rfl, iN_le (by omega) (by omega)]; omega), bd hv]
      by_cases h0 : v &&& 1 = 0
      · obtain ⟨u, b', w', T', tw', h', q1, q2⟩ := fits_ok hI x.2.2.1 x.2.2.2.1 (v >>> (1 &&& 31))
        rw [if_pos h0, bd q1]
        exact peg (b', w', T', tw', x.2.2.2.2.1, x.2.2.2.2.2.1, h') u q2
      · obtain ⟨u, b', w', T', tw', h', q1, q2⟩ := does_ok hI x.2.2.1 x.2.2.2.1 (v >>> (1 &&& 31))
        rw [if_neg h0, bd q1]
        exact peg (b', w', T', tw', x.2.2.2.2.1, x.2.2.2.2.2.1, h') u q2
/-- a bench without a driver, its k pegs each in its own field -/
def Fl (k : Nat) (b : TB) (w : TW) (h : TH) : Prop := ∃ (s sv : Nat → Int32) (m : Nat), Good s k ∧ Dst s k ∧ RB b s ∧ Ww w s k ∧ RH h sv (iN m) ∧ m ≤ 6 ∧ s 55 = -iN 1 ∧ ∀ i, i < k → ∃ a c, a < 4 ∧ c < 4 ∧ s (1 + i) = iN (9 * (i % 3) + a) ∧ s (10 + i) = iN (9 * (i / 3) + c)
theorem place_ok {a c : Nat} (ha : a ≤ 60) (hc : c ≤ 60) : f_X5_needPlace (iN a) (iN c) = some 0 := by
  rcases s_place (iN a) (iN c) with ⟨h, -⟩ | ⟨-, h⟩
  · exact h
  · rw [s_isPlace (by omega) (by omega), decide_eq_true ⟨ha, hc⟩] at h
    injection h with h
    exact absurd h n10
theorem fl_add {b : TB} {w : TW} {h : TH} {k a c : Nat} (hF : Fl k b w h) (hk : k < 7) (ha : a < 4) (hc : c < 4) (T : TB) : ∃ (v : Int32) (b' : TB) (w' : TW) (T' : TB) (h' : TH), f_X5_addPeg b w T h (iN (9 * (k % 3) + a)) (iN (9 * (k / 3) + c)) = some (0, v, b', w', T', h') ∧ Fl (k + 1) b' w' h' := by
  obtain ⟨s, sv, m, hs, hD, hB, hW, hH, hm, hd, hp⟩ := hF
  have no : ∀ i, i < k → atP s (iN (9 * (k % 3) + a)) (iN (9 * (k / 3) + c)) i = false := by
    intro i hi
    refine Bool.eq_false_iff.mpr (fun e => ?_)
    obtain ⟨e1, e2⟩ := atP_iff.mp e
    obtain ⟨a', c', a1, c1, x1, x2⟩ := hp i hi
    rw [x1, iN_eq (by omega) (by omega)] at e1
    rw [x2, iN_eq (by omega) (by omega)] at e2
    omega
  obtain ⟨v, b', w', T', h', q1, sv', m', -, g0, g1, g2, g3, g4, g5⟩ := P_add (w := w) hs hD hB hm hH T (place_ok (a := 9 * (k % 3) + a) (c := 9 * (k / 3) + c) (by omega) (by omega)) (show k < 9 by omega) no
  refine ⟨v, b', w', T', h', q1, _, sv', m', g1, g2, g3, g4, g5, g0, ?_, fun i hi => ?_⟩
  · rw [sAdd_at (by omega), if_neg (by omega), if_neg (by omega), if_neg (by omega), if_neg (by omega)]
    exact hd
  · rw [sAdd_x (by omega) (by omega), sAdd_y (by omega) (by omega)]
    by_cases e : i = k
    · rw [if_pos e, if_pos e, e]
      exact ⟨a, c, ha, hc, rfl, rfl⟩
    · rw [if_neg e, if_neg e]
      exact hp i (by omega)
theorem fl_drive {b : TB} {w : TW} {h : TH} (hF : Fl 7 b w h) (T : TB) : ∃ (b' : TB) (w' : TW) (T' : TB) (h' : TH), f_X5_drive b w T h (iN 0) = some (0, -iN 1, b', w', T', h') ∧ Inv b' w' h' := by
  obtain ⟨s, sv, m, hs, hD, hB, hW, hH, hm, hd, -⟩ := hF
  obtain ⟨b', w', T', h', q1, q2⟩ := P_drive (w := w) hs hD hB hm hH T (show 0 < 7 by omega)
  rw [hd] at q1
  exact ⟨b', w', T', h', q1, InN_v (InN_Nx q2 (by rw [upd_at, if_pos rfl]; exact fun e => by rw [iN_m1 (by omega)] at e; exact e))⟩
theorem law_10 (hL : L ≤ 260) : ∀ (fu k : Nat) (x : TG), k ≤ 7 → 7 < fu + k → Fl k x.1 x.2.1 x.2.2.2.2.2.2 → f_L_law_10 xs L fu x (iN k) = some 1 := by
  intro fu
  induction fu with
  | zero => intro k x h1 h2; omega
  | succ fu ih =>
    intro k x h1 h2 hF
    show f_L_law_10b xs L (f_L_law_10 xs L fu) x (iN k) = some 1
    unfold f_L_law_10b
    by_cases hk : k = 7
    · subst hk
      obtain ⟨b', w', T', h', q1, q2⟩ := fl_drive hF x.2.2.1
      rw [if_pos (show (7 : Int32) ≤ iN 7 from Int32.le_refl _), show (0 : Int32) = iN 0 from rfl, bd q1, if_pos Q00]
      exact law_77 hL 41 7 (b', w', T', x.2.2.2.1, x.2.2.2.2.1, x.2.2.2.2.2.1, h') (by omega) (by omega) q2
    · obtain ⟨v, hv⟩ := cell_ok (xs := xs) hL (show k < 1000 by omega)
      obtain ⟨a, a1, a2⟩ := low_l v 4 (by decide) (by decide)
      obtain ⟨c, c1, c2⟩ := low_l (v >>> (3 &&& 31)) 4 (by decide) (by decide)
      obtain ⟨u, b', w', T', h', q1, q2⟩ := fl_add hF (show k < 7 by omega) (show a < 4 from a1) (show c < 4 from c1) x.2.2.1
      rw [if_neg (show ¬ (7 : Int32) ≤ iN k by rw [show (7 : Int32) = iN 7 from rfl, iN_le (by omega) (by omega)]; omega), bd hv, rm_3 (by omega), bd a2, lt_eq, dv_3 (by omega), bd c2, lt_eq, show (9 : Int32) = iN 9 from rfl, iN_mul, iN_mul, iN_add, iN_add, bd q1, if_pos Q00, lt_eq, show iN k + 1 = iN (k + 1) from iN_add k 1]
      exact ih (k + 1) (b', w', T', x.2.2.2.1, x.2.2.2.2.1, x.2.2.2.2.2.1, h') (by omega) (by omega) q2
/-! the start -/
def row0 (j : Nat) : Int32 := if j = 58 then iN 1 else if j = 56 then -iN 1 else if j = 55 then -iN 1 else iN 0
theorem Fl_new : Fl 0 newG.1 newG.2.1 newG.2.2.2.2.2.2 := by
  have n0 : ∀ j, j ≠ 55 → j ≠ 56 → j ≠ 58 → row0 j = iN 0 := fun j h1 h2 h3 => by unfold row0; rw [if_neg h3, if_neg h2, if_neg h1]
  have e55 : row0 55 = -iN 1 := by unfold row0; rw [if_neg (by omega), if_neg (by omega), if_pos rfl]
  have e56 : row0 56 = -iN 1 := by unfold row0; rw [if_neg (by omega), if_pos rfl]
  have e58 : row0 58 = iN 1 := by unfold row0; rw [if_pos rfl]
  have hG : Good row0 0 := by
    refine ⟨n0 0 (by omega) (by omega) (by omega), by omega, fun p l hp hl => ⟨0, 0, n0 _ (by omega) (by omega) (by omega), n0 _ (by omega) (by omega) (by omega), by omega, by omega, by omega⟩, ⟨0, n0 59 (by omega) (by omega) (by omega), by omega⟩, Or.inl e55, Or.inl e56⟩
  refine ⟨row0, fun _ => 0, 0, hG, fun a b ha => by omega, ⟨fun p hp => ⟨?_, ?_⟩, fun p l hp hl => ⟨?_, ?_⟩, ?_, ?_, ?_, ?_, ?_, ?_⟩, ⟨fun a b ha => by omega, fun _ => jZ 1, false, fun a ha => by omega, Or.inl ⟨e55, rfl, fun a ha => ⟨rfl, rfl, rfl⟩⟩, rfl, ?_⟩, ⟨0, 0, rfl, by omega, rfl, rfl, by omega, fun a ha => by omega⟩, by omega, e55, fun i hi => by omega⟩
  · exact (n0 (1 + p) (by omega) (by omega) (by omega)).symm
  · exact (n0 (10 + p) (by omega) (by omega) (by omega)).symm
  · exact (n0 (19 + 2 * p + l) (by omega) (by omega) (by omega)).symm
  · exact (n0 (37 + 2 * p + l) (by omega) (by omega) (by omega)).symm
  · exact (n0 0 (by omega) (by omega) (by omega)).symm
  · exact e55.symm
  · exact e56.symm
  · exact (n0 57 (by omega) (by omega) (by omega)).symm
  · exact e58.symm
  · exact (n0 59 (by omega) (by omega) (by omega)).symm
  · rfl
end
