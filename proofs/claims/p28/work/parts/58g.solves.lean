/-! the first place where something is so, whatever else is kept -/
theorem lp_first {σ ρ : Type} {F : Nat → Nat → σ → Option ρ} {N : Nat} {I : σ → Prop} (P : Nat → Bool) (U : Nat → σ → Option ρ) (V : σ → Option ρ) (hs : ∀ n j s, j < N → I s → ∃ s', I s' ∧ F (n + 1) j s = if P j = true then U j s' else F n (j + 1) s') (he : ∀ n s, I s → F (n + 1) N s = V s) :
    ∀ (d n j : Nat) (s : σ), j + d = N → d < n → I s → (∀ i, i < j → P i = false) → ((∀ i, i < N → P i = false) ∧ ∃ s', I s' ∧ F n j s = V s') ∨ ∃ k, k < N ∧ P k = true ∧ (∀ i, i < k → P i = false) ∧ ∃ s', I s' ∧ F n j s = U k s' := by
  intro d
  induction d with
  | zero =>
    intro n j s hj hn h hf
    obtain ⟨m, rfl⟩ : ∃ m, n = m + 1 := ⟨n - 1, by omega⟩
    have hj : j = N := by omega
    subst hj
    exact Or.inl ⟨hf, s, h, he m s h⟩
  | succ d ih =>
    intro n j s hj hn h hf
    obtain ⟨m, rfl⟩ : ∃ m, n = m + 1 := ⟨n - 1, by omega⟩
    obtain ⟨s', h1, h2⟩ := hs m j s (by omega) h
    rcases bdic (P j) with hp | hp
    · rw [if_neg (by rw [hp]; decide)] at h2
      rw [h2]
      refine ih m (j + 1) s' (by omega) (by omega) h1 (fun i hi => ?_)
      by_cases e : i = j
      · rw [e]; exact hp
      · exact hf i (by omega)
    · rw [if_pos hp] at h2
      exact Or.inr ⟨j, by omega, hp, hf, s', h1, h2⟩
/-- the change c as a row -/
def chP (s : Nat → Int32) (c : Nat) : Nat → Int32 := sPut s (c / 42) (c / 21 % 2) (kG (c % 21)) (c % 21)
def chB (s : Nat → Int32) (n c : Nat) : Bool := fit (chP s c) n (c / 42) (c / 21 % 2) && rB (chP s c)
theorem dvI_k {ρ : Type} {a : Nat} (b : Nat) {k : Int32 → Option ρ} (hb0 : 0 < b) (ha : a < 2147483648) (hb : b < 2147483648) : dvI (iN a) (iN b) k = k (iN (a / b)) := dvI_n hb0 ha hb
theorem rmI_k {ρ : Type} {a : Nat} (b : Nat) {k : Int32 → Option ρ} (hb0 : 0 < b) (ha : a < 2147483648) (hb : b < 2147483648) : rmI (iN a) (iN b) k = k (iN (a % b)) := rmI_n hb0 ha hb
theorem dv_42 {ρ : Type} {a : Nat} {k : Int32 → Option ρ} (ha : a < 2147483648) : dvI (iN a) 42 k = k (iN (a / 42)) := dvI_n (b := 42) (by omega) ha (by omega)
theorem dv_21 {ρ : Type} {a : Nat} {k : Int32 → Option ρ} (ha : a < 2147483648) : dvI (iN a) 21 k = k (iN (a / 21)) := dvI_n (b := 21) (by omega) ha (by omega)
theorem rm_21 {ρ : Type} {a : Nat} {k : Int32 → Option ρ} (ha : a < 2147483648) : rmI (iN a) 21 k = k (iN (a % 21)) := rmI_n (b := 21) (by omega) ha (by omega)
def ptV (c k : Nat) : Nat := if k = 0 then c / 42 else if k = 1 then c / 21 % 2 else c % 21
theorem s_part {c k : Nat} (hc : c < 1000) (hk : k ≤ 2) : f_X5_partOfChange (iN c) (iN k) = some (iN (ptV c k)) := by
  unfold f_X5_partOfChange ptV
  rw [if_neg (show ¬ iN c = -1 by rw [show (-1 : Int32) = -iN 1 from rfl, iN_m1 (by omega)]; exact id), show (21 : Int32) = iN 21 from rfl, show (2 : Int32) = iN 2 from rfl, dvI_k 21 (by omega) (by omega) (by omega), lt_eq]
  rcases (show k = 0 ∨ k = 1 ∨ k = 2 by omega) with rfl | rfl | rfl
  · rw [if_pos z0, dvI_k 2 (by omega) (by omega) (by omega), Nat.div_div_eq_div_mul]
    rfl
  · rw [if_neg z1, if_pos (show iN 1 = 1 from rfl), rmI_k 2 (by omega) (by omega) (by omega)]
    rfl
  · rw [if_neg (show ¬ iN 2 = 0 by decide), if_neg (show ¬ iN 2 = 1 by decide), rmI_k 21 (by omega) (by omega) (by omega)]
    rfl
theorem s_part_none (k : Int32) : f_X5_partOfChange (-1) k = some (-1) := by
  unfold f_X5_partOfChange
  rw [if_pos rfl]
/-- the class tries one change -/
theorem s_change {s : Nat → Int32} {n c : Nat} (hs : Good s n) {b T : TB} (hB : RB b s) (hT : RB T s) (tw : TW) (hc : c < 42 * n) : ∃ T' tw', f_X5_changeReachesGoal b T tw (iN c) = some (b2 (chB s n c), T', tw') ∧ RB T' s := by
  have h9 := hs.2.1
  have hp : c / 42 < n := by omega
  have hp9 : c / 42 < 9 := by omega
  have hl : c / 21 % 2 < 2 := Nat.mod_lt _ (by omega)
  have ht : c % 21 ≤ 20 := by omega
  have hG := Good_put hs hp9 hl (kG_le (c % 21)) (show c % 21 ≤ 40 by omega) (kG_0 _)
  have q0 : f_X5_partOfChange (iN c) 0 = some (iN (c / 42)) := s_part (k := 0) (by omega) (by omega)
  have q1 : f_X5_partOfChange (iN c) 1 = some (iN (c / 21 % 2)) := s_part (k := 1) (by omega) (by omega)
  have q2 : f_X5_partOfChange (iN c) 2 = some (iN (c % 21)) := s_part (k := 2) (by omega) (by omega)
  have q3 : f_X5_kindOfGear (iN (c % 21)) = some (iN (kG (c % 21))) := s_kindOfGear (by omega)
  have hn := RB_pegs hs hT
  have hbK := hB.2.1
  obtain ⟨hX, hK, r0, r1, r2, r3, r4, r5⟩ := hT
  unfold chB chP
  generalize c / 42 = p at *
  generalize c / 21 % 2 = l at *
  generalize c % 21 = t at *
  generalize kG t = k at *
  have hi : ∀ j, 55 ≤ j → sPut s p l k t j = s j := fun j hj => sPut_hi s hp9 hl hj
  have rp := s_replace (kinds := T.2.2.1) (teeth := T.2.2.2.1) (iN k) (iN t) hp9 hl
  have hK' := RK_put (k := k) (t := t) hK hp9 hl
  have hX' : RX T.1 T.2.1 (sPut s p l k t) := RX_put hX
  have fi : f_X0_fits T.1 T.2.1 (upd T.2.2.1 (l * 9 + p) (iN k)) (upd T.2.2.2.1 (l * 9 + p) (iN t)) (iN n) T.2.2.2.2.2.2.2.2.2 (iN p) (iN l) = some (b2 (fit (sPut s p l k t) n p l)) := s_fits hG hX' hK' (r5.trans (hi 59 (by omega)).symm) hp9 hl
  obtain ⟨w', w1, w2⟩ := s_solve hG hX' hK' (r5.trans (hi 59 (by omega)).symm) (r1.trans (hi 55 (by omega)).symm) tw.1 tw.2.1 tw.2.2.1 tw.2.2.2.1 tw.2.2.2.2.1 tw.2.2.2.2.2.1 tw.2.2.2.2.2.2
  obtain ⟨a1, a2, a3, a4⟩ := Wk_all hG (Ww_of w2)
  have rc := s_reachC hG w'.2.1 w'.2.2.1 (r2.trans (hi 56 (by omega)).symm) (r3.trans (hi 57 (by omega)).symm) (r4.trans (hi 58 (by omega)).symm)
  rw [a1] at rc
  have hj : l * 9 + p < 18 := by omega
  obtain ⟨e1, e2, -⟩ := kt hs hp9 hl
  have hb1 := (hbK p l hp9 hl).1.trans e1
  have hb2 := (hbK p l hp9 hl).2.trans e2
  have rb := RK_put (k := kN s p l) (t := tN s p l) hK' hp9 hl
  rw [sPut_back hs hp9 hl] at rb
  have fin : ∀ (tw' : TW) (v : Bool), ∃ T', f_X5_changeReachesGoal_75 b (iN c) (T.1, T.2.1, upd T.2.2.1 (l * 9 + p) (iN k), upd T.2.2.2.1 (l * 9 + p) (iN t), T.2.2.2.2.1, T.2.2.2.2.2.1, T.2.2.2.2.2.2.1, T.2.2.2.2.2.2.2.1, T.2.2.2.2.2.2.2.2.1, T.2.2.2.2.2.2.2.2.2) tw' (iN p) (iN l) (b2 v) = some (b2 v, T', tw') ∧ RB T' s := by
    intro tw' v
    have r2' := s_replace (kinds := upd T.2.2.1 (l * 9 + p) (iN k)) (teeth := upd T.2.2.2.1 (l * 9 + p) (iN t)) (iN (kN s p l)) (iN (tN s p l)) hp9 hl
    refine ⟨(T.1, T.2.1, upd (upd T.2.2.1 (l * 9 + p) (iN k)) (l * 9 + p) (iN (kN s p l)), upd (upd T.2.2.2.1 (l * 9 + p) (iN t)) (l * 9 + p) (iN (tN s p l)), T.2.2.2.2.1, T.2.2.2.2.2.1, T.2.2.2.2.2.2.1, T.2.2.2.2.2.2.2.1, T.2.2.2.2.2.2.2.2.1, T.2.2.2.2.2.2.2.2.2), ?_, hX, rb, r0, r1, r2, r3, r4, r5⟩
    unfold f_X5_changeReachesGoal_75
    rw [bd (s_spot p l), rd_n hj (by omega), rd_n hj (by omega), hb1, hb2, bd r2']
    exact gz_b v _
  unfold f_X5_changeReachesGoal
  rw [bd q0, bd q1, bd q2, bd q3, bd rp, hn, bd fi]
  rcases bdic (fit (sPut s p l k t) n p l) with hf | hf
  · obtain ⟨T', f1, f2⟩ := fin tw false
    rw [hn] at f1
    refine ⟨T', tw, ?_, f2⟩
    rw [hf, if_pos (show b2 false = 0 from rfl), Bool.false_and]
    exact f1
  · obtain ⟨T', f1, f2⟩ := fin w' (rB (sPut s p l k t))
    rw [hn] at f1
    refine ⟨T', w', ?_, f2⟩
    rw [hf, if_neg (show ¬ b2 true = 0 by decide), Bool.true_and, bd w1, bd rc]
    exact f1
/-- what is found -/
def fcR (s : Nat → Int32) (n : Nat) (x : Option Nat) : Prop := match x with
  | none => s 56 = -iN 1 ∨ rB s = true ∨ ∀ c, c < 42 * n → chB s n c = false
  | some c => ¬ s 56 = -iN 1 ∧ rB s = false ∧ c < 42 * n ∧ chB s n c = true ∧ ∀ i, i < c → chB s n i = false
theorem fcR_one {s : Nat → Int32} {n : Nat} {x y : Option Nat} (h1 : fcR s n x) (h2 : fcR s n y) : x = y := by
  cases x with
  | none =>
    cases y with
    | none => rfl
    | some c =>
      obtain ⟨a1, a2, a3, a4, a5⟩ := h2
      rcases h1 with h | h | h
      · exact absurd h a1
      · rw [a2] at h; cases h
      · rw [h c a3] at a4; cases a4
  | some d =>
    cases y with
    | none =>
      obtain ⟨a1, a2, a3, a4, a5⟩ := h1
      rcases h2 with h | h | h
      · exact absurd h a1
      · rw [a2] at h; cases h
      · rw [h d a3] at a4; cases a4
    | some c =>
      obtain ⟨a1, a2, a3, a4, a5⟩ := h1
      obtain ⟨b1, b2_, b3, b4, b5⟩ := h2
      rcases Nat.lt_trichotomy c d with h | h | h
      · rw [a5 c h] at b4; cases b4
      · rw [h]
      · rw [b5 d h] at a4; cases a4
def oN (x : Option Nat) : Int32 := match x with
  | none => -1
  | some c => iN c
def oM (x : Option Nat) : Int32 := match x with
  | none => -1
  | some c => iN (100 * (c / 42) + 50 * (c / 21 % 2) + c % 21)
theorem s_findChange {s : Nat → Int32} {n : Nat} (hs : Good s n) {b : TB} (hB : RB b s) {w : TW} (hW : Ww w s n) (T : TB) (tw : TW) : ∃ x T' tw', f_X5_findChange b w T tw = some (oN x, T', tw') ∧ fcR s n x := by
  have h9 := hs.2.1
  have rc := s_reachC hs w.2.1 w.2.2.1 hB.2.2.2.2.1 hB.2.2.2.2.2.1 hB.2.2.2.2.2.2.1
  rw [(Wk_all hs hW).1] at rc
  have e56 : b.2.2.2.2.2.2.1 = s 56 := hB.2.2.2.2.1
  unfold f_X5_findChange
  rw [RB_pegs hs hB]
  by_cases h6 : s 56 = -iN 1
  · refine ⟨none, T, tw, ?_, Or.inl h6⟩
    rw [if_pos (show b.2.2.2.2.2.2.1 = -1 from e56.trans h6)]
    rfl
  · rw [if_neg (show ¬ b.2.2.2.2.2.2.1 = -1 from fun h => h6 (e56.symm.trans h)), bd rc]
    rcases bdic (rB s) with hr | hr
    · rw [hr, if_pos (show b2 false = 0 from rfl)]
      obtain ⟨v, v1, v2⟩ := s_startTrial T hB
      rw [bd v1, show (2 : Int32) = iN 2 from rfl, show (21 : Int32) = iN 21 from rfl, iN_mul, iN_mul, lt_eq, show n * 2 * 21 = 42 * n by omega]
      have H := lp_first (σ := TB × TW) (F := fun fu j σ => f_X5_findChange_46 b w fu σ.1 σ.2 (iN (42 * n)) (iN j)) (N := 42 * n) (I := fun σ => RB σ.1 s) (chB s n) (fun c σ => some (iN c, σ.1, σ.2)) (fun σ => some (-1, σ.1, σ.2)) ?_ ?_ (42 * n) FU 0 (v, tw) (by omega) (FU_lt (by omega)) v2 (fun i hi => by omega)
      · rcases H with ⟨hno, σ, -, e⟩ | ⟨c, hc1, hc2, hc3, σ, -, e⟩
        · exact ⟨none, σ.1, σ.2, e, Or.inr (Or.inr hno)⟩
        · exact ⟨some c, σ.1, σ.2, e, h6, hr, hc1, hc2, hc3⟩
      · rintro fu j ⟨T1, tw1⟩ hj hI
        obtain ⟨T2, tw2, c1, c2⟩ := s_change hs hB hI tw1 hj
        refine ⟨(T2, tw2), c2, ?_⟩
        show f_X5_findChange_46b b w (f_X5_findChange_46 b w fu) T1 tw1 (iN (42 * n)) (iN j) = _
        unfold f_X5_findChange_46b
        rw [if_neg (by rw [iN_le (by omega) (by omega)]; omega), bd c1]
        rcases bdic (chB s n j) with h | h
        · rw [h, if_pos (show b2 false = 0 from rfl), if_neg (by decide), lt_eq, show iN j + 1 = iN (j + 1) from iN_add j 1]
        · rw [h, if_neg (show ¬ b2 true = 0 by decide), if_pos rfl]
      · rintro fu ⟨T1, tw1⟩ hI
        show f_X5_findChange_46b b w (f_X5_findChange_46 b w fu) T1 tw1 (iN (42 * n)) (iN (42 * n)) = _
        unfold f_X5_findChange_46b
        rw [if_pos (Int32.le_refl _)]
    · refine ⟨none, T, tw, ?_, Or.inr (Or.inl hr)⟩
      rw [hr, if_neg (show ¬ b2 true = 0 by decide)]
      rfl
abbrev TA : Type := (Nat → Int32) × (Nat → Int32) × (Nat → Int64) × (Nat → Int64) × (Nat → Int32) × Int32 × Int64 × Int64
theorem s_solves {s : Nat → Int32} {n : Nat} (hs : Good s n) (a : Nat → Int32) (ab be : Nat → Int64) (jo : Nat → Int32) (j0 : Int32) (r1 r2 : Int64) : ∃ (x : Option Nat) (σ : TA), f_X6_solves s a ab be jo j0 r1 r2 = some (oM x, σ) ∧ σ.1 = s ∧ fcR s n x := by
  have h9 := hs.2.1
  obtain ⟨v, v1, v2, v3, v4, v5, v6⟩ := lay hs ab be jo j0 r1 r2
  have rm := (s_reachM hs v.1 v.2.1).trans (by rw [v4])
  unfold f_X6_solves
  rw [bd v1, rd_56]
  by_cases h6 : s 56 = -iN 1
  · refine ⟨none, (s, a, v.1, v.2.1, v.2.2.1, v.2.2.2.1, v.2.2.2.2.1, v.2.2.2.2.2), ?_, rfl, Or.inl h6⟩
    rw [if_pos (show s 56 = -1 from h6)]
    rfl
  · rw [if_neg (show ¬ s 56 = -1 from h6), bd rm]
    rcases bdic (rB s) with hr | hr
    · rw [hr, if_pos (show b2 false = 0 from rfl)]
      have H := lp_first (σ := TA) (ρ := Int32 × TA) (F := fun fu j σ => f_X6_solves_26 fu σ.1 σ.2.1 σ.2.2.1 σ.2.2.2.1 σ.2.2.2.2.1 σ.2.2.2.2.2.1 σ.2.2.2.2.2.2.1 σ.2.2.2.2.2.2.2 (iN j)) (N := 42 * n) (I := fun σ => σ.1 = s) (chB s n) (fun c σ => some (iN (100 * (c / 42) + 50 * (c / 21 % 2) + c % 21), σ)) (fun σ => some (-1, σ)) ?_ ?_ (42 * n) FU 0 (s, a, v.1, v.2.1, v.2.2.1, v.2.2.2.1, v.2.2.2.2.1, v.2.2.2.2.2) (by omega) (FU_lt (by omega)) rfl (fun i hi => by omega)
      · rcases H with ⟨hno, σ, hσ, e⟩ | ⟨c, hc1, hc2, hc3, σ, hσ, e⟩
        · exact ⟨none, σ, e, hσ, Or.inr (Or.inr hno)⟩
        · exact ⟨some c, σ, e, hσ, h6, hr, hc1, hc2, hc3⟩
      · rintro fu c ⟨s1, a1, ab1, be1, jo1, j1, q1, q2⟩ hc hI
        have hI : s1 = s := hI
        subst hI
        have hp : c / 42 < n := by omega
        have hp9 : c / 42 < 9 := by omega
        have hl : c / 21 % 2 < 2 := Nat.mod_lt _ (by omega)
        have ht : c % 21 ≤ 20 := by omega
        have hG := Good_put hs hp9 hl (kG_le (c % 21)) (show c % 21 ≤ 40 by omega) (kG_0 _)
        have pf : f_X6_putFault s1 (iN (c / 42)) (iN (c / 21 % 2)) (iN 1) (iN (c % 21)) = some (if fit (chP s1 c) n (c / 42) (c / 21 % 2) = true then iN 0 else iN 3, s1) := s_putFault (k := 1) hs hp hl (Or.inl ⟨rfl, ht⟩)
        have pt : f_X6_put s1 (iN (c / 42)) (iN (c / 21 % 2)) (iN 1) (iN (c % 21)) = some (chP s1 c) := s_put hp9 hl (by omega)
        obtain ⟨a', e1, e2⟩ := s_putAside s1 a1
        have hG' : Good (chP s1 c) n := hG
        obtain ⟨u, u1, u2, u3, u4, u5, u6⟩ := lay hG' ab1 be1 jo1 j1 q1 q2
        have ru := (s_reachM hG' u.1 u.2.1).trans (by rw [u4])
        have bk := s_back (u := chP s1 c) e2 (fun j hj => sPut_60 s1 hp9 hl hj)
        have hgt : ¬ 42 * iN n ≤ iN c := by rw [show (42 : Int32) = iN 42 from rfl, iN_mul, iN_le (by omega) (by omega)]; omega
        rcases bdic (fit (chP s1 c) n (c / 42) (c / 21 % 2)) with hf | hf
        · refine ⟨(s1, a1, ab1, be1, jo1, j1, q1, q2), rfl, ?_⟩
          rw [hf, if_neg (by decide)] at pf
          rw [if_neg (by unfold chB; rw [hf, Bool.false_and]; decide)]
          show f_X6_solves_26b (f_X6_solves_26 fu) s1 a1 ab1 be1 jo1 j1 q1 q2 (iN c) = _
          unfold f_X6_solves_26b f_X6_solves_114
          rw [rd_0 (by omega), hs.1, if_neg hgt]
          rw [dv_42 (show c < 2147483648 by omega), dv_21 (show c < 2147483648 by omega), rm_2 (show c / 21 < 2147483648 by omega), rm_21 (show c < 2147483648 by omega)]
          rw [show (1 : Int32) = iN 1 from rfl, bd pf, if_neg (show ¬ iN 3 = 0 by decide), lt_eq, iN_add]
        · rw [if_pos hf] at pf
          have ech : chB s1 n c = rB (chP s1 c) := by unfold chB; rw [hf, Bool.true_and]
          refine ⟨(s1, a', u.1, u.2.1, u.2.2.1, u.2.2.2.1, u.2.2.2.2.1, u.2.2.2.2.2), rfl, ?_⟩
          rw [ech]
          show f_X6_solves_26b (f_X6_solves_26 fu) s1 a1 ab1 be1 jo1 j1 q1 q2 (iN c) = _
          unfold f_X6_solves_26b f_X6_solves_114
          rw [rd_0 (by omega), hs.1, if_neg hgt]
          rw [dv_42 (show c < 2147483648 by omega), dv_21 (show c < 2147483648 by omega), rm_2 (show c / 21 < 2147483648 by omega), rm_21 (show c < 2147483648 by omega)]
          rw [show (1 : Int32) = iN 1 from rfl, bd pf, if_pos z0, bd e1, bd pt, bd u1, bd ru, bd bk]
          rcases bdic (rB (chP s1 c)) with h | h
          · rw [h, if_pos (show b2 false = 0 from rfl), if_neg (by decide), lt_eq, iN_add]
          · rw [h, if_neg (show ¬ b2 true = 0 by decide), if_pos rfl, show (100 : Int32) = iN 100 from rfl, show (50 : Int32) = iN 50 from rfl, iN_mul, iN_mul, iN_add, iN_add]
      · rintro fu ⟨s1, a1, ab1, be1, jo1, j1, q1, q2⟩ hI
        have hI : s1 = s := hI
        subst hI
        show f_X6_solves_26b (f_X6_solves_26 fu) s1 a1 ab1 be1 jo1 j1 q1 q2 (iN (42 * n)) = _
        unfold f_X6_solves_26b
        rw [rd_0 (by omega), hs.1, if_pos (show 42 * iN n ≤ iN (42 * n) by rw [show (42 : Int32) = iN 42 from rfl, iN_mul]; exact Int32.le_refl _)]
    · refine ⟨none, (s, a, v.1, v.2.1, v.2.2.1, v.2.2.2.1, v.2.2.2.2.1, v.2.2.2.2.2), ?_, rfl, Or.inr (Or.inl hr)⟩
      rw [hr, if_neg (show ¬ b2 true = 0 by decide)]
      rfl
def soV (x : Option Nat) (k : Nat) : Int32 := match x with
  | none => -1
  | some c => iN (ptV c k)
theorem s_partO {s : Nat → Int32} {n : Nat} (h9 : n ≤ 9) {x : Option Nat} (h : fcR s n x) {k : Nat} (hk : k ≤ 2) : f_X5_partOfChange (oN x) (iN k) = some (soV x k) := by
  cases x with
  | none => exact s_part_none _
  | some c => exact s_part (by have := h.2.2.1; omega) hk
theorem s_solutionOf {s : Nat → Int32} {n : Nat} (hs : Good s n) {k : Nat} (hk : k ≤ 2) (a : Nat → Int32) (ab be : Nat → Int64) (jo : Nat → Int32) (j0 : Int32) (r1 r2 : Int64) : ∃ (x : Option Nat) (σ : TA), f_X6_solutionOf s a ab be jo j0 r1 r2 (iN k) = some (soV x k, σ) ∧ σ.1 = s ∧ fcR s n x := by
  have h9 := hs.2.1
  obtain ⟨x, σ, e1, e2, e3⟩ := s_solves hs a ab be jo j0 r1 r2
  refine ⟨x, σ, ?_, e2, e3⟩
  unfold f_X6_solutionOf
  rw [bd e1]
  cases x with
  | none => rfl
  | some c =>
    have hc : c < 42 * n := e3.2.2.1
    have hl : c / 21 % 2 < 2 := Nat.mod_lt _ (by omega)
    have ht : c % 21 < 21 := Nat.mod_lt _ (by omega)
    have hne : ¬ oM (some c) = -1 := by
      show ¬ iN _ = -1
      rw [show (-1 : Int32) = -iN 1 from rfl, iN_m1 (by omega)]
      exact id
    rw [if_neg hne]
    show (if iN k = 0 then _ else _) = some (iN (ptV c k), σ)
    unfold ptV oM
    rcases (show k = 0 ∨ k = 1 ∨ k = 2 by omega) with rfl | rfl | rfl
    · rw [if_pos z0, if_pos rfl, show (100 : Int32) = iN 100 from rfl, dvI_k 100 (by omega) (by omega) (by omega), show (100 * (c / 42) + 50 * (c / 21 % 2) + c % 21) / 100 = c / 42 by omega]
    · rw [if_neg z1, if_pos (show iN 1 = 1 from rfl), if_neg (by omega), if_pos rfl, show (50 : Int32) = iN 50 from rfl, show (2 : Int32) = iN 2 from rfl, dvI_k 50 (by omega) (by omega) (by omega), rmI_k 2 (by omega) (by omega) (by omega), show (100 * (c / 42) + 50 * (c / 21 % 2) + c % 21) / 50 % 2 = c / 21 % 2 by omega]
    · rw [if_neg (show ¬ iN 2 = 0 by decide), if_neg (show ¬ iN 2 = 1 by decide), if_neg (by omega), if_neg (by omega), show (50 : Int32) = iN 50 from rfl, rmI_k 50 (by omega) (by omega) (by omega), show (100 * (c / 42) + 50 * (c / 21 % 2) + c % 21) % 50 = c % 21 by omega]
