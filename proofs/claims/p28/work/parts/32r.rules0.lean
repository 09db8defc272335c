/-! calls whose answer is known not to be an exception -/
def gQ0 : Array Value → State → Outcome → State → Prop := fun _ st o t => o = .returned none ∧ t.heap = st.heap
theorem br_z {ρ : Type} {r : ρ} {n : Nat} {X Y : Option ρ} (hf : (if n = 0 then X else Y) = some r) (hy : n ≠ 0 → Y = some r → False) : n = 0 ∧ X = some r := by
  by_cases h : n = 0
  · rw [if_pos h] at hf
    exact ⟨h, hf⟩
  · rw [if_neg h] at hf
    exact (hy h hf).elim
section G8
variable {p : Program} {l : Launch} {e : Env} {R : Room} {s : State} {m : MethodId} {args : Array Value} {below : List Frame} {meth : Method} {c : Code} {H : Heap} {locs : List Loc} {cells slots : Nat} {Q : State → Prop}
variable {cc : ByteArray} {pc : Nat} {ls : Array Slot} {rest st0 : List Value} {E : gE} {A A0 A1 : Nat → Prop} {free : Addr → Prop} {H0 : Heap} {mc ms : Nat} {av : Array Value}
theorem g_callR1 (rv : Value) (hr : va_Run p l e R s m args below meth c H locs cells slots 0 0 (F0 m pc ls st0) rest (k2_QcV rv av) (fun _ => False)) (kk : W p l e R s m args below meth c H locs cells slots Q (F0 m (pc + 3) ls (rv :: rest))) : W p l e R s m args below meth c H locs cells slots Q (F0 m pc ls st0) :=
  g_callR (fun _ : Unit => rv) (fo := some ()) (k := fun _ => some ()) (r := ()) rfl (fun _ _ => hr) (fun _ _ => kk)
theorem g_callR0 (hr : va_Run p l e R s m args below meth c H locs cells slots 0 0 (F0 m pc ls st0) rest (gQ0 av) (fun _ => False)) (kk : W p l e R s m args below meth c H locs cells slots Q (F0 m (pc + 3) ls rest)) : W p l e R s m args below meth c H locs cells slots Q (F0 m pc ls st0) := by
  intro T hT X
  obtain ⟨v', st₀, t, T', L, h0, X', hL, e1, e2, ⟨hv', hh⟩, st⟩ := hr T hT X
  cases hv'
  obtain ⟨t2, a1, b1⟩ := kk T' (by rw [e1, hh, h0]) (Stand.forget X' (fun q h => (hL q h).elim))
  exact ⟨t2, st t2 a1, b1⟩
theorem g_callA1 (rv : Option Value) (wf : (Nat → Nat → Nat) → va_W) (hr : va_Run p l e R s m args below meth c H locs cells slots mc ms (F0 m pc ls st0) rest (gQa E rv wf A1 av) free) (hS : va_S A0 H0 H locs) (hA : ∀ q, A1 q → A0 q) (hfr : ∀ q, free q → A0 q)
    (kk : ∀ (ad : Nat → Nat → Nat) (H1 : Heap) (locs1 : List Loc), va_P E.1 vwCl (wf ad) H1 → va_D A0 (wf ad) → va_S A0 H0 H1 locs1 → W p l e R s m args below meth c H1 locs1 (cells + mc) (slots + ms) Q (F0 m (pc + 3) ls (rv.toList ++ rest))) : W p l e R s m args below meth c H locs cells slots Q (F0 m pc ls st0) :=
  g_callA (fun _ : Unit => rv) (fun _ => wf) (fo := some ()) (k := fun _ => some ()) (r := ()) rfl (fun _ _ => hr) hS hA hfr (fun _ ad H1 locs1 _ hP hD hS => kk ad H1 locs1 hP hD hS)
end G8
