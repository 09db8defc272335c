/-! what the law does by a number -/
theorem and_k (x : Int32) {k : Nat} : ∃ r, r ≤ k ∧ x &&& iN k = iN r := by
  refine ⟨(x &&& iN k).toBitVec.toNat, ?_, Int32.toBitVec_inj.mp ?_⟩
  · rw [Int32.toBitVec_and, BitVec.toNat_and]
    refine Nat.le_trans Nat.and_le_right ?_
    show (BitVec.ofNat 32 k).toNat ≤ k
    rw [BitVec.toNat_ofNat]
    exact Nat.mod_le _ _
  · show _ = BitVec.ofNat 32 _
    rw [BitVec.ofNat_toNat, BitVec.setWidth_eq]
theorem low_n (x : Int32) {a : Nat} (h0 : 0 < a) (ha : a < 2147483648) : ∃ r, r < a ∧ f_L_low x (iN a) = some (iN r) := by
  obtain ⟨k, k1, k2⟩ := and_k x (k := 2147483647)
  refine ⟨k % a, Nat.mod_lt _ h0, ?_⟩
  unfold f_L_low
  rw [show x &&& 2147483647 = iN k from k2, rmI_n h0 (by omega) ha]
theorem low_l (x : Int32) (a : Nat) (h0 : 0 < OfNat.ofNat a) (ha : OfNat.ofNat a < 2147483648) : ∃ r, r < OfNat.ofNat a ∧ f_L_low x (OfNat.ofNat a : Int32) = some (iN r) := low_n x h0 ha
theorem gl_rng : ∀ r : Fin 41, ¬ (iN r.val - 20 < -99) ∧ ¬ (99 < iN r.val - 20) := by decide +kernel
/-- a bench with n pegs -/
def InN (n : Nat) (b : TB) (w : TW) (h : TH) : Prop := ∃ (s sv : Nat → Int32) (m : Nat), Good s n ∧ Dst s n ∧ RB b s ∧ Ww w s n ∧ RH h sv (iN m) ∧ m ≤ 6 ∧ s 55 ≠ -iN 1
section
variable {b : TB} {w : TW} {h : TH} {s sv : Nat → Int32} {m n p l t : Nat}
theorem Inv_N (hI : Inv b w h) : ∃ n, InN n b w h := by
  obtain ⟨s, sv, m, n, a⟩ := hI
  exact ⟨n, s, sv, m, a⟩
theorem InN_v (hI : InN n b w h) : Inv b w h := by
  obtain ⟨s, sv, m, a⟩ := hI
  exact ⟨s, sv, m, n, a⟩
theorem InN_pos (hI : InN n b w h) : 0 < n ∧ n ≤ 9 := by
  obtain ⟨s, sv, m, hs, -, -, -, -, -, hd⟩ := hI
  obtain ⟨d, J, V, hL, -⟩ := lo_Ly hs hd
  have := hL.1
  exact ⟨by omega, hs.2.1⟩
theorem InN_Nx {b' : TB} {w' : TW} {h' : TH} {s' : Nat → Int32} (hN : Nx s sv m n b' w' h' s' n) (hd : s' 55 ≠ -iN 1) : InN n b' w' h' := by
  obtain ⟨sv', m', -, g0, g1, g2, g3, g4, g5⟩ := hN
  exact ⟨s', sv', m', g1, g2, g3, g4, g5, g0, hd⟩
theorem I_c0 (hI : InN n b w h) : f_X5_count b w h (iN 0) = some (0, iN n) := by
  obtain ⟨s, sv, m, hs, -, hB, hW, hH, -⟩ := hI
  exact P_c0 hs hB hW hH
/-- a gear is put where it fits -/
theorem I_put (hI : InN n b w h) (hp : p < n) (hl : l < 2) (ht : t ≤ 20) (T : TB) (tw : TW) : ∃ (v : Int32) (T1 : TB) (tw1 : TW), f_X5_ifPut b T tw (iN p) (iN l) (iN t) (iN 0) = some (0, v, T1, tw1) ∧ (¬ v < iN 0 → ∃ (c : Nat) (b' : TB) (w' : TW) (T' : TB) (h' : TH), f_X5_putGear b w T1 h (iN p) (iN l) (iN t) = some (0, iN c, b', w', T', h') ∧ InN n b' w' h') := by
  obtain ⟨s, sv, m, hs, hD, hB, hW, hH, hm, hd⟩ := hI
  have h9 := hs.2.1
  obtain ⟨T1, tw1, f1⟩ := P_ifPut hs hB T tw hp hl ht
  refine ⟨_, T1, tw1, f1, fun hv => ?_⟩
  have hf : fit (sPut s p l (kG t) t) n p l = true := by
    refine Classical.byContradiction (fun hf => hv ?_)
    unfold wpV
    rw [if_pos rfl, if_neg hf]
    decide
  obtain ⟨c, b', w', T', h', q1, q2, -⟩ := P_put (w := w) hs hD hB hm hH T1 hp hl ht hf
  exact ⟨c, b', w', T', h', q1, InN_Nx q2 (by rw [sPut_hi s (by omega) hl (by omega)]; exact hd)⟩
theorem I_sol (hI : InN n b w h) (T : TB) (tw : TW) : ∃ (x : Option Nat) , (∀ (k : Nat) (T : TB) (tw : TW), k ≤ 2 → ∃ T' tw', f_X5_solution b w T tw (iN k) = some (0, soV x k, T', tw')) ∧ (∀ c, x = some c → c / 42 < n ∧ ∀ T1 : TB, ∃ (v : Int32) (b' : TB) (w' : TW) (T' : TB) (h' : TH), f_X5_putGear b w T1 h (iN (c / 42)) (iN (c / 21 % 2)) (iN (c % 21)) = some (0, v, b', w', T', h') ∧ InN n b' w' h') := by
  obtain ⟨s, sv, m, hs, hD, hB, hW, hH, hm, hd⟩ := hI
  have h9 := hs.2.1
  obtain ⟨x, T1, tw1, c1, c2⟩ := P_solution hs hB hW (show 0 ≤ 2 by omega) T tw
  refine ⟨x, fun k T tw hk => ?_, fun c hc => ?_⟩
  · obtain ⟨y, T2, tw2, a1, a2⟩ := P_solution hs hB hW hk T tw
    have e := fcR_one a2 c2
    subst e
    exact ⟨T2, tw2, a1⟩
  · subst hc
    obtain ⟨d1, d2, d3, d4, -⟩ := c2
    unfold chB at d4
    rw [Bool.and_eq_true] at d4
    refine ⟨by omega, fun T1 => ?_⟩
    obtain ⟨y, b', w', T', h', q1, q2, -⟩ := P_put (w := w) hs hD hB hm hH T1 (show c / 42 < n by omega) (show c / 21 % 2 < 2 by omega) (show c % 21 ≤ 20 by omega) d4.1
    exact ⟨_, b', w', T', h', q1, InN_Nx q2 (by rw [sPut_hi s (by omega) (by omega) (by omega)]; exact hd)⟩
theorem I_drive (hI : InN n b w h) (hp : p < n) (T : TB) : ∃ (v : Int32) (b' : TB) (w' : TW) (T' : TB) (h' : TH), f_X5_drive b w T h (iN p) = some (0, v, b', w', T', h') ∧ InN n b' w' h' := by
  obtain ⟨s, sv, m, hs, hD, hB, hW, hH, hm, hd⟩ := hI
  have h9 := hs.2.1
  obtain ⟨b', w', T', h', q1, q2⟩ := P_drive (w := w) hs hD hB hm hH T hp
  exact ⟨_, b', w', T', h', q1, InN_Nx q2 (by rw [upd_at, if_pos rfl]; exact fun e => by rw [iN_m1 (by omega)] at e; exact e)⟩
theorem I_set (hI : InN n b w h) {y : Nat} (hy : y ≤ 3) (T : TB) : ∃ (v : Int32) (b' : TB) (w' : TW) (T' : TB) (h' : TH), f_X5_set b w T h (iN y) = some (0, v, b', w', T', h') ∧ InN n b' w' h' := by
  obtain ⟨s, sv, m, hs, hD, hB, hW, hH, hm, hd⟩ := hI
  obtain ⟨v, b', w', T', h', q1, q2⟩ := P_set (w := w) hs hD hB hm hH T hy
  exact ⟨v, b', w', T', h', q1, InN_Nx q2 (by rw [upd_at, if_neg (by omega)]; exact hd)⟩
theorem I_goal (hI : InN n b w h) (hp : p < n) {a : Int32} (h1 : ¬ a < -99) (h2 : ¬ 99 < a) {c : Nat} (hc1 : 1 ≤ c) (hc2 : c ≤ 99) (T : TB) : ∃ (v : Int32) (b' : TB) (w' : TW) (T' : TB) (h' : TH), f_X5_goal b w T h (iN p) a (iN c) = some (0, v, b', w', T', h') ∧ InN n b' w' h' := by
  obtain ⟨s, sv, m, hs, hD, hB, hW, hH, hm, hd⟩ := hI
  obtain ⟨v, b', w', T', h', x, y, q1, q2⟩ := P_goal (w := w) hs hD hB hm hH T hp h1 h2 hc1 hc2
  exact ⟨v, b', w', T', h', q1, InN_Nx q2 (by rw [sGoal_ne (by omega)]; exact hd)⟩
theorem does_21 (hI : InN n b w h) (hp : p < n) (T : TB) (tw : TW) (p1 : Int32) : ∃ (v : Int32) (b' : TB) (w' : TW) (T' : TB) (tw' : TW) (h' : TH), f_L_does_21 p1 b w T tw h (iN n) (iN p) = some (v, b', w', T', tw', h') ∧ InN n b' w' h' := by
  obtain ⟨n0, h9⟩ := InN_pos hI
  obtain ⟨y, y1, y2⟩ := and_k (p1 >>> (9 &&& 31)) (k := 1)
  obtain ⟨t, t1, t2⟩ := low_l (p1 >>> (10 &&& 31)) 21 (by decide) (by decide)
  obtain ⟨g, g1, g2⟩ := low_l (p1 >>> (8 &&& 31)) 41 (by decide) (by decide)
  obtain ⟨g', g1', g2'⟩ := low_l (p1 >>> (13 &&& 31)) 20 (by decide) (by decide)
  obtain ⟨z, z1_, z2⟩ := and_k (p1 >>> (6 &&& 31)) (k := 1)
  have t1' : t < 21 := t1
  have g1'' : g < 41 := g1
  have g1''' : g' < 20 := g1'
  have nz : ¬ iN n ≤ 0 := by rw [show (0 : Int32) = iN 0 from rfl, iN_le (by omega) (by omega)]; omega
  unfold f_L_does_21
  rw [lt_eq, bd t2, lt_eq, show (p1 >>> (9 &&& 31)) &&& 1 = iN y from y2, show (p1 >>> (6 &&& 31)) &&& 1 = iN z from z2]
  by_cases c0 : p1 &&& 15 = 0
  · rw [if_pos c0, if_neg nz]
    by_cases c1 : (p1 >>> (8 &&& 31)) &&& 1 = 1
    · obtain ⟨v, b', w', T', h', q1, q2⟩ := I_drive hI hp T
      exact ⟨v, b', w', T', tw, h', by rw [if_pos c1, bd q1, if_pos Q00], q2⟩
    · exact ⟨0, b, w, T, tw, h, by rw [if_neg c1], hI⟩
  · rw [if_neg c0]
    by_cases c1 : p1 &&& 15 = 1
    · obtain ⟨r1, r2⟩ := gl_rng ⟨g, g1''⟩
      obtain ⟨v, b', w', T', h', q1, q2⟩ := I_goal hI hp r1 r2 (c := 1 + g') (by omega) (by omega) T
      refine ⟨v, b', w', T', tw, h', ?_, q2⟩
      rw [if_pos c1, if_neg nz, bd g2, bd g2', show (1 : Int32) + iN g' = iN (1 + g') from iN_add 1 g', bd q1, if_pos Q00]
    · rw [if_neg c1]
      by_cases c2 : p1 &&& 15 = 2
      · obtain ⟨x, x1, x2⟩ := I_sol hI T tw
        obtain ⟨Ta, twa, a1⟩ := x1 0 T tw (by omega)
        rw [if_pos c2, if_neg nz, show (0 : Int32) = iN 0 from rfl, bd a1, if_pos Q00]
        cases x with
        | none =>
          exact ⟨iN 0, b, w, Ta, twa, h, by rw [show soV none 0 = -1 from rfl, if_pos (show (-1 : Int32) < iN 0 by decide)], hI⟩
        | some c =>
          obtain ⟨cn, put⟩ := x2 c rfl
          obtain ⟨Tb, twb, a2⟩ := x1 0 Ta twa (by omega)
          obtain ⟨Tc, twc, a3⟩ := x1 1 Tb twb (by omega)
          obtain ⟨Td, twd, a4⟩ := x1 2 Tc twc (by omega)
          obtain ⟨v, b', w', T', h', q1, q2⟩ := put Td
          refine ⟨v, b', w', T', twd, h', ?_, q2⟩
          rw [show soV (some c) 0 = iN (c / 42) from rfl, if_neg (nlt0 (by omega)), bd a2, if_pos Q00, show (1 : Int32) = iN 1 from rfl, bd a3, if_pos Q00, show (2 : Int32) = iN 2 from rfl, bd a4, if_pos Q00, show soV (some c) 0 = iN (c / 42) from rfl, show soV (some c) 1 = iN (c / 21 % 2) from rfl, show soV (some c) 2 = iN (c % 21) from rfl, bd q1, if_pos Q00]
      · rw [if_neg c2]
        by_cases c3 : p1 &&& 15 = 3
        · rw [if_pos c3]
          by_cases c4 : (p1 >>> (4 &&& 31)) &&& 3 = 0
          · obtain ⟨v, b', w', T', h', q1, q2⟩ := I_set hI (show z ≤ 3 by omega) T
            exact ⟨v, b', w', T', tw, h', by rw [if_pos c4, bd q1, if_pos Q00], q2⟩
          · exact ⟨0, b, w, T, tw, h, by rw [if_neg c4], hI⟩
        · obtain ⟨v, T1, tw1, q1, q2⟩ := I_put hI hp (show y < 2 by omega) (show t ≤ 20 by omega) T tw
          rw [if_neg c3, if_neg nz, show (0 : Int32) = iN 0 from rfl, bd q1, if_pos Q00]
          by_cases hv : v < iN 0
          · exact ⟨iN 0, b, w, T1, tw1, h, by rw [if_pos hv], hI⟩
          · obtain ⟨c, b', w', T', h', q3, q4⟩ := q2 hv
            exact ⟨iN c, b', w', T', tw1, h', by rw [if_neg hv, bd q3, if_pos Q00], q4⟩
theorem does_ok (hI : Inv b w h) (T : TB) (tw : TW) (p1 : Int32) : ∃ (v : Int32) (b' : TB) (w' : TW) (T' : TB) (tw' : TW) (h' : TH), f_L_does b w T tw h p1 = some (v, b', w', T', tw', h') ∧ Inv b' w' h' := by
  obtain ⟨n, hI⟩ := Inv_N hI
  obtain ⟨n0, h9⟩ := InN_pos hI
  obtain ⟨p, p2, p3⟩ := low_n (p1 >>> (4 &&& 31)) n0 (by omega)
  obtain ⟨v, b', w', T', tw', h', q1, q2⟩ := does_21 hI p2 T tw p1
  refine ⟨v, b', w', T', tw', h', ?_, InN_v q2⟩
  unfold f_L_does
  rw [show f_X5_count b w h 0 = _ from I_c0 hI]
  show (if iN n = 0 then _ else _) = _
  rw [if_neg (show ¬ iN n = 0 by rw [show (0 : Int32) = iN 0 from rfl, iN_eq (by omega) (by omega)]; omega), bd p3]
  exact q1
/-- gears that mesh are put where there is none -/
theorem fits_47 (p1 : Int32) {q : Nat} (l6 : Int32) : ∀ (fu k : Nat) (b : TB) (w : TW) (T : TB) (tw : TW) (h : TH) (l7 : Int32), k ≤ 21 → 21 < fu + k → p < n → l < 2 → InN n b w h → ∃ (v : Int32) (b' : TB) (w' : TW) (T' : TB) (tw' : TW) (h' : TH), f_L_fits_47 p1 fu b w T tw h (iN p) (iN q) (iN l) l6 l7 (iN k) = some (v, b', w', T', tw', h') ∧ InN n b' w' h' := by
  intro fu
  induction fu with
  | zero => intro k b w T tw h l7 h1 h2; omega
  | succ fu ih =>
    intro k b w T tw h l7 h1 h2 hp hl hI
    show ∃ (v : Int32) (b' : TB) (w' : TW) (T' : TB) (tw' : TW) (h' : TH), f_L_fits_47b p1 (f_L_fits_47 p1 fu) b w T tw h (iN p) (iN q) (iN l) l6 l7 (iN k) = some (v, b', w', T', tw', h') ∧ InN n b' w' h'
    unfold f_L_fits_47b f_L_fits_94
    by_cases hk : k = 21
    · exact ⟨l7, b, w, T, tw, h, by rw [if_pos (show (21 : Int32) ≤ iN k by rw [hk]; exact Int32.le_refl _)], hI⟩
    · rw [if_neg (show ¬ (21 : Int32) ≤ iN k by rw [show (21 : Int32) = iN 21 from rfl, iN_le (by omega) (by omega)]; omega)]
      by_cases c0 : l6 = 0
      · rw [if_pos c0]
        by_cases c1 : iN p = iN q
        · exact ⟨l7, b, w, T, tw, h, by rw [if_pos c1], hI⟩
        · rw [if_neg c1]
          have nxt : ∀ (b : TB) (w : TW) (T : TB) (tw : TW) (h : TH) (l7 : Int32), InN n b w h → ∃ (v : Int32) (b' : TB) (w' : TW) (T' : TB) (tw' : TW) (h' : TH), (lt (iN k + 1) fun y6 => f_L_fits_47 p1 fu b w T tw h (iN p) (iN q) (iN l) l6 l7 y6) = some (v, b', w', T', tw', h') ∧ InN n b' w' h' := by
            intro b w T tw h l7 hI
            rw [lt_eq, show iN k + 1 = iN (k + 1) from iN_add k 1]
            exact ih (k + 1) b w T tw h l7 (by omega) (by omega) hp hl hI
          by_cases c2 : 0 ≤ l7
          · rw [if_pos c2]
            exact nxt b w T tw h l7 hI
          · obtain ⟨v, T1, tw1, q1, q2⟩ := I_put hI hp hl (show k ≤ 20 by omega) T tw
            rw [if_neg c2, show (0 : Int32) = iN 0 from rfl, bd q1, if_pos Q00]
            by_cases hv : v ≤ iN 0
            · rw [if_pos hv]
              exact nxt b w T1 tw1 h l7 hI
            · obtain ⟨c, b', w', T', h', q3, q4⟩ := q2 (fun e => hv (Int32.le_of_lt e))
              rw [if_neg hv, bd q3, if_pos Q00]
              exact nxt b' w' T' tw1 h' (iN c) q4
      · exact ⟨l7, b, w, T, tw, h, by rw [if_neg c0], hI⟩
theorem fits_ok (hI : Inv b w h) (T : TB) (tw : TW) (p1 : Int32) : ∃ (v : Int32) (b' : TB) (w' : TW) (T' : TB) (tw' : TW) (h' : TH), f_L_fits b w T tw h p1 = some (v, b', w', T', tw', h') ∧ Inv b' w' h' := by
  obtain ⟨n, hI⟩ := Inv_N hI
  obtain ⟨n0, h9⟩ := InN_pos hI
  obtain ⟨p, p2, p3⟩ := low_n p1 n0 (by omega)
  obtain ⟨q, q2, q3⟩ := low_n (p1 >>> (4 &&& 31)) n0 (by omega)
  obtain ⟨y, y1, y2⟩ := and_k (p1 >>> (8 &&& 31)) (k := 1)
  have hI0 := hI
  obtain ⟨s, sv, m, hs, -, hB, hW, -⟩ := hI
  have pe := P_peg hs hB hW p2 (show 2 + y ≤ 8 by omega)
  obtain ⟨v, b', w', T', tw', h', r1, r2⟩ := fits_47 (p := p) (n := n) (l := y) p1 (q := q) (pV s n (lo s).1 (lo s).2.2.1 p (2 + y)) 22 1 b w T tw h (-9) (by omega) (by omega) p2 (by omega) hI0
  refine ⟨v, b', w', T', tw', h', ?_, InN_v r2⟩
  unfold f_L_fits
  rw [bd (show f_X5_count b w h 0 = _ from I_c0 hI0), if_pos Q00, bd p3, bd q3, lt_eq, show (p1 >>> (8 &&& 31)) &&& 1 = iN y from y2, show (2 : Int32) + iN y = iN (2 + y) from iN_add 2 y, bd pe, if_pos Q00]
  exact r1
end
