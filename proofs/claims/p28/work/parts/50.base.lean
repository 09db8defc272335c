/-! THE PURE LEVEL: small numbers, loops -/
theorem not_lt_of {a b : Nat} (h : a ≤ b) : (b < a) = False := eq_false (by omega)
theorem not_le_of {a b : Nat} (h : a < b) : (b ≤ a) = False := eq_false (by omega)
def iN (n : Nat) : Int32 := Int32.ofNat n
theorem iN_lit (k : Nat) : (OfNat.ofNat k : Int32) = iN (OfNat.ofNat k) := rfl
theorem iN_add (a b : Nat) : iN a + iN b = iN (a + b) := (Int32.ofNat_add a b).symm
theorem iN_mul (a b : Nat) : iN a * iN b = iN (a * b) := (Int32.ofNat_mul a b).symm
theorem iN_sub {a b : Nat} (h : b ≤ a) : iN a - iN b = iN (a - b) := (Int32.ofNat_sub a b h).symm
theorem iN_toInt {a : Nat} (ha : a < 2147483648) : (iN a).toInt = a := Int32.toInt_ofNat_of_lt ha
theorem iN_clamp {a : Nat} (ha : a < 2147483648) : (iN a).toNatClampNeg = a := Int32.toNatClampNeg_ofNat_of_lt ha
theorem iN_le {a b : Nat} (ha : a < 2147483648) (hb : b < 2147483648) : (iN a ≤ iN b) = (a ≤ b) := propext (Int32.ofNat_le_iff_le ha hb)
theorem iN_lt {a b : Nat} (ha : a < 2147483648) (hb : b < 2147483648) : (iN a < iN b) = (a < b) := propext (Int32.ofNat_lt_iff_lt ha hb)
theorem iN_eq {a b : Nat} (ha : a < 2147483648) (hb : b < 2147483648) : (iN a = iN b) = (a = b) := propext ⟨fun h => by
  have h2 := congrArg Int32.toNatClampNeg h
  rw [iN_clamp ha, iN_clamp hb] at h2
  exact h2, fun h => by rw [h]⟩
theorem m1_toInt : (-iN 1).toInt = -1 := rfl
theorem iN_m1 {a : Nat} (ha : a < 2147483648) : (iN a = -iN 1) = False := by
  refine eq_false (fun h => ?_)
  have h2 := congrArg Int32.toInt h
  rw [iN_toInt ha, m1_toInt] at h2
  omega
theorem m1_iN {a : Nat} (ha : a < 2147483648) : (-iN 1 = iN a) = False := eq_false (fun h => (iN_m1 ha).mp h.symm)
theorem m1_le {a : Nat} (ha : a < 2147483648) : (-iN 1 ≤ iN a) = True := eq_true (by rw [Int32.le_iff_toInt_le, iN_toInt ha, m1_toInt]; omega)
theorem le_m1 {a : Nat} (ha : a < 2147483648) : (iN a ≤ -iN 1) = False := eq_false (by rw [Int32.le_iff_toInt_le, iN_toInt ha, m1_toInt]; omega)
theorem m1_lt {a : Nat} (ha : a < 2147483648) : (-iN 1 < iN a) = True := eq_true (by rw [Int32.lt_iff_toInt_lt, iN_toInt ha, m1_toInt]; omega)
theorem lt_m1 {a : Nat} (ha : a < 2147483648) : (iN a < -iN 1) = False := eq_false (by rw [Int32.lt_iff_toInt_lt, iN_toInt ha, m1_toInt]; omega)
theorem m1_m1 : (-iN 1 = -iN 1) = True := eq_true rfl
/-- any number that is at least 0 is one of these -/
theorem iN_of {i : Int32} (h : ¬ i < 0) : ∃ a : Nat, i = iN a ∧ a < 2147483648 :=
  ⟨i.toNatClampNeg, (Int32.ofNat_toNatClampNeg i (Int32.not_lt.mp h)).symm, i.toNatClampNeg_lt⟩
theorem lt_eq {α β : Type} (x : α) (k : α → β) : lt x k = k x := rfl
theorem rd_n {α ρ : Type} {f : Nat → α} {n j : Nat} {k : α → Option ρ} (hj : j < n) (hs : j < 2147483648) : rd f n (iN j) k = k (f j) := by
  have h0 : ¬ (iN j < 0) := by rw [iN_lit, iN_lt hs (by omega)]; omega
  unfold rd
  rw [iN_clamp hs, if_neg (by rintro (h | h); exact h0 h; omega)]
theorem wrI_n {ρ : Type} {f : Nat → Int32} {n j : Nat} {x : Int32} {k : (Nat → Int32) → Option ρ} (hj : j < n) (hs : j < 2147483648) : wrI f n (iN j) x k = k (upd f j x) := by
  have h0 : ¬ (iN j < 0) := by rw [iN_lit, iN_lt hs (by omega)]; omega
  unfold wrI
  rw [iN_clamp hs, if_neg (by rintro (h | h); exact h0 h; omega)]
theorem wrJ_n {ρ : Type} {f : Nat → Int64} {n j : Nat} {x : Int64} {k : (Nat → Int64) → Option ρ} (hj : j < n) (hs : j < 2147483648) : wrJ f n (iN j) x k = k (vp_updL f j x) := by
  have h0 : ¬ (iN j < 0) := by rw [iN_lit, iN_lt hs (by omega)]; omega
  unfold wrJ
  rw [iN_clamp hs, if_neg (by rintro (h | h); exact h0 h; omega)]
def b2 (b : Bool) : Int32 := if b = true then iN 1 else iN 0
theorem b2_t : b2 true = iN 1 := rfl
theorem b2_f : b2 false = iN 0 := rfl
theorem b2_eq0 (b : Bool) : (b2 b = iN 0) = (b = false) := by cases b <;> simp [b2, iN_eq]
theorem b2_eq1 (b : Bool) : (b2 b = iN 1) = (b = true) := by cases b <;> simp [b2, iN_eq]
theorem nar_b2 (b : Bool) : vp_nar .boolean (b2 b) = b2 b := by cases b <;> rfl
theorem nar_0 : vp_nar .boolean (iN 0) = iN 0 := rfl
theorem nar_1 : vp_nar .boolean (iN 1) = iN 1 := rfl
theorem wrZ_n {ρ : Type} {f : Nat → Int32} {n j : Nat} {x : Int32} {k : (Nat → Int32) → Option ρ} (hj : j < n) (hs : j < 2147483648) : wrZ f n (iN j) x k = k (upd f j (vp_nar .boolean x)) := by
  have h0 : ¬ (iN j < 0) := by rw [iN_lit, iN_lt hs (by omega)]; omega
  unfold wrZ
  rw [iN_clamp hs, if_neg (by rintro (h | h); exact h0 h; omega)]
theorem gz_b {ρ : Type} (b : Bool) (k : Option ρ) : gz (b2 b) k = k := by cases b <;> rfl
theorem gz_0 {ρ : Type} (k : Option ρ) : gz (iN 0) k = k := rfl
theorem gz_1 {ρ : Type} (k : Option ρ) : gz (iN 1) k = k := rfl
theorem iN_div {a b : Nat} (ha : a < 2147483648) (hb : b < 2147483648) : iN a / iN b = iN (a / b) := (Int32.ofNat_div ha hb).symm
theorem dvI_n {ρ : Type} {a b : Nat} {k : Int32 → Option ρ} (hb0 : 0 < b) (ha : a < 2147483648) (hb : b < 2147483648) : dvI (iN a) (iN b) k = k (iN (a / b)) := by
  unfold dvI
  rw [if_neg (by rw [iN_lit, iN_eq hb (by omega)]; omega), iN_div ha hb]
theorem rmI_n {ρ : Type} {a b : Nat} {k : Int32 → Option ρ} (hb0 : 0 < b) (ha : a < 2147483648) (hb : b < 2147483648) : rmI (iN a) (iN b) k = k (iN (a % b)) := by
  have h1 : a / b * b ≤ a := Nat.div_mul_le_self a b
  unfold rmI
  rw [if_neg (by rw [iN_lit, iN_eq hb (by omega)]; omega), iN_div ha hb, iN_mul, iN_sub h1]
  congr 2
  have := Nat.div_add_mod a b
  rw [Nat.mul_comm] at this
  omega
theorem upd_at (f : Nat → Int32) (k : Nat) (x : Int32) (j : Nat) : upd f k x j = if j = k then x else f j := rfl
theorem updL_at (f : Nat → Int64) (k : Nat) (x : Int64) (j : Nat) : vp_updL f k x j = if j = k then x else f j := rfl
theorem FU_lt {n : Nat} (h : n < 4000) : n < FU := h
/-- loops -/
def lpf {σ : Type} (step : Nat → σ → σ) : Nat → Nat → σ → σ
  | _, 0, s => s
  | j, d + 1, s => lpf step (j + 1) d (step j s)
theorem lp_run {σ ρ : Type} {F : Nat → Nat → σ → Option ρ} {N : Nat} (step : Nat → σ → σ) (I : Nat → σ → Prop) (K : σ → Option ρ) (hs : ∀ n j s, j < N → I j s → F (n + 1) j s = F n (j + 1) (step j s)) (hi : ∀ j s, j < N → I j s → I (j + 1) (step j s)) (he : ∀ n s, I N s → F (n + 1) N s = K s) :
    ∀ (d n j : Nat) (s : σ), j + d = N → d < n → I j s → F n j s = K (lpf step j d s) ∧ I N (lpf step j d s) := by
  intro d
  induction d with
  | zero =>
    intro n j s hj hn h
    obtain ⟨m, rfl⟩ : ∃ m, n = m + 1 := ⟨n - 1, by omega⟩
    have hj : j = N := by omega
    subst hj
    exact ⟨he m s h, h⟩
  | succ d ih =>
    intro n j s hj hn h
    obtain ⟨m, rfl⟩ : ∃ m, n = m + 1 := ⟨n - 1, by omega⟩
    obtain ⟨h1, h2⟩ := ih m (j + 1) (step j s) (by omega) (by omega) (hi j s (by omega) h)
    exact ⟨(hs m j s (by omega) h).trans h1, h2⟩
/-- a loop whose end is told by what it keeps -/
theorem lp_ex {σ ρ : Type} {F : Nat → Nat → σ → Option ρ} {N : Nat} {I : Nat → σ → Prop} (K : σ → Option ρ) (hs : ∀ n j s, j < N → I j s → ∃ s', I (j + 1) s' ∧ F (n + 1) j s = F n (j + 1) s') (he : ∀ n s, I N s → F (n + 1) N s = K s) :
    ∀ (d n j : Nat) (s : σ), j + d = N → d < n → I j s → ∃ s', I N s' ∧ F n j s = K s' := by
  intro d
  induction d with
  | zero =>
    intro n j s hj hn h
    obtain ⟨m, rfl⟩ : ∃ m, n = m + 1 := ⟨n - 1, by omega⟩
    have hj : j = N := by omega
    subst hj
    exact ⟨s, h, he m s h⟩
  | succ d ih =>
    intro n j s hj hn h
    obtain ⟨m, rfl⟩ : ∃ m, n = m + 1 := ⟨n - 1, by omega⟩
    obtain ⟨s', h1, h2⟩ := hs m j s (by omega) h
    obtain ⟨s'', h3, h4⟩ := ih m (j + 1) s' (by omega) (by omega) h1
    exact ⟨s'', h3, h2.trans h4⟩
/-- how many below n -/
def cnt (P : Nat → Bool) : Nat → Nat
  | 0 => 0
  | n + 1 => cnt P n + (P n).toNat
theorem cnt_le (P : Nat → Bool) (n : Nat) : cnt P n ≤ n := by
  induction n with
  | zero => exact Nat.le_refl _
  | succ n ih => have : (P n).toNat ≤ 1 := Bool.toNat_le _; simp only [cnt]; omega
theorem cnt_congr {P Q : Nat → Bool} {n : Nat} (h : ∀ j, j < n → P j = Q j) : cnt P n = cnt Q n := by
  induction n with
  | zero => rfl
  | succ n ih => simp only [cnt]; rw [ih (fun j hj => h j (by omega)), h n (by omega)]
theorem cnt_zero {P : Nat → Bool} {n : Nat} : cnt P n = 0 ↔ ∀ j, j < n → P j = false := by
  induction n with
  | zero => exact ⟨fun _ j hj => by omega, fun _ => rfl⟩
  | succ n ih =>
    simp only [cnt]
    constructor
    · intro h j hj
      rcases Nat.lt_or_ge j n with h1 | h1
      · exact ih.mp (by omega) j h1
      · have : j = n := by omega
        subst this
        cases hp : P j
        · rfl
        · rw [hp] at h; simp at h
    · intro h
      rw [ih.mpr (fun j hj => h j (by omega)), h n (by omega)]
      rfl
theorem lp_cnt {ρ : Type} {F : Nat → Nat → Nat → Option ρ} {N : Nat} (P : Nat → Bool) (K : Nat → Option ρ) (hs : ∀ n j c, j < N → F (n + 1) j c = F n (j + 1) (c + (P j).toNat)) (he : ∀ n c, F (n + 1) N c = K c) : ∀ (n : Nat), N < n → F n 0 0 = K (cnt P N) := by
  have key : ∀ (d n j : Nat), j + d = N → d < n → F n j (cnt P j) = K (cnt P N) := by
    intro d
    induction d with
    | zero =>
      intro n j hj hn
      obtain ⟨m, rfl⟩ : ∃ m, n = m + 1 := ⟨n - 1, by omega⟩
      have hj : j = N := by omega
      subst hj
      exact he m _
    | succ d ih =>
      intro n j hj hn
      obtain ⟨m, rfl⟩ : ∃ m, n = m + 1 := ⟨n - 1, by omega⟩
      rw [hs m j _ (by omega)]
      exact ih m (j + 1) (by omega) (by omega)
  intro n hn
  exact key N n 0 (by omega) hn
theorem bd {α ρ : Type} {o : Option α} {v : α} (h : o = some v) (k : α → Option ρ) : o.bind k = k v := by rw [h]; rfl
theorem rd_l {α ρ : Type} {f : Nat → α} {n : Nat} {k0 : α → Option ρ} (k : Nat) (hj : (OfNat.ofNat k) < n) (hs : (OfNat.ofNat k) < 2147483648) : rd f n (OfNat.ofNat k : Int32) k0 = k0 (f (OfNat.ofNat k)) := by
  have h := rd_n (f := f) (k := k0) hj hs
  (try simp only [← iN_add, ← iN_mul] at h)
  exact h
theorem wrI_l {ρ : Type} {f : Nat → Int32} {n : Nat} {x : Int32} {k0 : (Nat → Int32) → Option ρ} (k : Nat) (hj : (OfNat.ofNat k) < n) (hs : (OfNat.ofNat k) < 2147483648) : wrI f n (OfNat.ofNat k : Int32) x k0 = k0 (upd f (OfNat.ofNat k) x) := by
  have h := wrI_n (f := f) (x := x) (k := k0) hj hs
  (try simp only [← iN_add, ← iN_mul] at h)
  exact h
theorem rd_a {α ρ : Type} {f : Nat → α} {n : Nat} {k0 : α → Option ρ} (a p : Nat) (hj : (OfNat.ofNat a + p) < n) (hs : (OfNat.ofNat a + p) < 2147483648) : rd f n ((OfNat.ofNat a : Int32) + iN p) k0 = k0 (f (OfNat.ofNat a + p)) := by
  have h := rd_n (f := f) (k := k0) hj hs
  (try simp only [← iN_add, ← iN_mul] at h)
  exact h
theorem wrI_a {ρ : Type} {f : Nat → Int32} {n : Nat} {x : Int32} {k0 : (Nat → Int32) → Option ρ} (a p : Nat) (hj : (OfNat.ofNat a + p) < n) (hs : (OfNat.ofNat a + p) < 2147483648) : wrI f n ((OfNat.ofNat a : Int32) + iN p) x k0 = k0 (upd f (OfNat.ofNat a + p) x) := by
  have h := wrI_n (f := f) (x := x) (k := k0) hj hs
  (try simp only [← iN_add, ← iN_mul] at h)
  exact h
theorem rd_s {α ρ : Type} {f : Nat → α} {n : Nat} {k0 : α → Option ρ} (a b p l : Nat) (hj : (OfNat.ofNat a + OfNat.ofNat b * p + l) < n) (hs : (OfNat.ofNat a + OfNat.ofNat b * p + l) < 2147483648) : rd f n (((OfNat.ofNat a : Int32) + (OfNat.ofNat b : Int32) * iN p) + iN l) k0 = k0 (f (OfNat.ofNat a + OfNat.ofNat b * p + l)) := by
  have h := rd_n (f := f) (k := k0) hj hs
  (try simp only [← iN_add, ← iN_mul] at h)
  exact h
theorem wrI_s {ρ : Type} {f : Nat → Int32} {n : Nat} {x : Int32} {k0 : (Nat → Int32) → Option ρ} (a b p l : Nat) (hj : (OfNat.ofNat a + OfNat.ofNat b * p + l) < n) (hs : (OfNat.ofNat a + OfNat.ofNat b * p + l) < 2147483648) : wrI f n (((OfNat.ofNat a : Int32) + (OfNat.ofNat b : Int32) * iN p) + iN l) x k0 = k0 (upd f (OfNat.ofNat a + OfNat.ofNat b * p + l) x) := by
  have h := wrI_n (f := f) (x := x) (k := k0) hj hs
  (try simp only [← iN_add, ← iN_mul] at h)
  exact h
theorem rd_sl {α ρ : Type} {f : Nat → α} {n : Nat} {k0 : α → Option ρ} (a b p l : Nat) (hj : (OfNat.ofNat a + OfNat.ofNat b * p + OfNat.ofNat l) < n) (hs : (OfNat.ofNat a + OfNat.ofNat b * p + OfNat.ofNat l) < 2147483648) : rd f n (((OfNat.ofNat a : Int32) + (OfNat.ofNat b : Int32) * iN p) + (OfNat.ofNat l : Int32)) k0 = k0 (f (OfNat.ofNat a + OfNat.ofNat b * p + OfNat.ofNat l)) := by
  have h := rd_n (f := f) (k := k0) hj hs
  (try simp only [← iN_add, ← iN_mul] at h)
  exact h
theorem wrI_sl {ρ : Type} {f : Nat → Int32} {n : Nat} {x : Int32} {k0 : (Nat → Int32) → Option ρ} (a b p l : Nat) (hj : (OfNat.ofNat a + OfNat.ofNat b * p + OfNat.ofNat l) < n) (hs : (OfNat.ofNat a + OfNat.ofNat b * p + OfNat.ofNat l) < 2147483648) : wrI f n (((OfNat.ofNat a : Int32) + (OfNat.ofNat b : Int32) * iN p) + (OfNat.ofNat l : Int32)) x k0 = k0 (upd f (OfNat.ofNat a + OfNat.ofNat b * p + OfNat.ofNat l) x) := by
  have h := wrI_n (f := f) (x := x) (k := k0) hj hs
  (try simp only [← iN_add, ← iN_mul] at h)
  exact h
theorem rd_c {α ρ : Type} {f : Nat → α} {n : Nat} {k0 : α → Option ρ} (a p q : Nat) (hj : (p * OfNat.ofNat a + q) < n) (hs : (p * OfNat.ofNat a + q) < 2147483648) : rd f n ((iN p) * (OfNat.ofNat a : Int32) + iN q) k0 = k0 (f (p * OfNat.ofNat a + q)) := by
  have h := rd_n (f := f) (k := k0) hj hs
  (try simp only [← iN_add, ← iN_mul] at h)
  exact h
theorem wrI_c {ρ : Type} {f : Nat → Int32} {n : Nat} {x : Int32} {k0 : (Nat → Int32) → Option ρ} (a p q : Nat) (hj : (p * OfNat.ofNat a + q) < n) (hs : (p * OfNat.ofNat a + q) < 2147483648) : wrI f n ((iN p) * (OfNat.ofNat a : Int32) + iN q) x k0 = k0 (upd f (p * OfNat.ofNat a + q) x) := by
  have h := wrI_n (f := f) (x := x) (k := k0) hj hs
  (try simp only [← iN_add, ← iN_mul] at h)
  exact h
theorem rd_m {α ρ : Type} {f : Nat → α} {n : Nat} {k0 : α → Option ρ} (a p q : Nat) (hj : (OfNat.ofNat a * p + q) < n) (hs : (OfNat.ofNat a * p + q) < 2147483648) : rd f n ((OfNat.ofNat a : Int32) * iN p + iN q) k0 = k0 (f (OfNat.ofNat a * p + q)) := by
  have h := rd_n (f := f) (k := k0) hj hs
  (try simp only [← iN_add, ← iN_mul] at h)
  exact h
theorem wrI_m {ρ : Type} {f : Nat → Int32} {n : Nat} {x : Int32} {k0 : (Nat → Int32) → Option ρ} (a p q : Nat) (hj : (OfNat.ofNat a * p + q) < n) (hs : (OfNat.ofNat a * p + q) < 2147483648) : wrI f n ((OfNat.ofNat a : Int32) * iN p + iN q) x k0 = k0 (upd f (OfNat.ofNat a * p + q) x) := by
  have h := wrI_n (f := f) (x := x) (k := k0) hj hs
  (try simp only [← iN_add, ← iN_mul] at h)
  exact h
theorem rd_i {α ρ : Type} {f : Nat → α} {n : Nat} {k0 : α → Option ρ} (p : Nat) (hj : (p + 1) < n) (hs : (p + 1) < 2147483648) : rd f n (iN p + 1) k0 = k0 (f (p + 1)) := by
  have h := rd_n (f := f) (k := k0) hj hs
  (try simp only [← iN_add, ← iN_mul] at h)
  exact h
theorem wrI_i {ρ : Type} {f : Nat → Int32} {n : Nat} {x : Int32} {k0 : (Nat → Int32) → Option ρ} (p : Nat) (hj : (p + 1) < n) (hs : (p + 1) < 2147483648) : wrI f n (iN p + 1) x k0 = k0 (upd f (p + 1) x) := by
  have h := wrI_n (f := f) (x := x) (k := k0) hj hs
  (try simp only [← iN_add, ← iN_mul] at h)
  exact h
