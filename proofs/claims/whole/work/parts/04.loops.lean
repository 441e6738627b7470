/-! a loop's head, met again and again: I i holds at the i-th meeting -/
section ZLP
variable {p : Program} {l : Launch} {e : Env} {R : Room} {s : State} {m : MethodId} {args : Array Value} {below : List Frame} {meth : Method} {c : Code} {cells slots : Nat} {Q : State → Prop} {pc : Nat} {rest : List Value}
theorem z_loop (I : Nat → Heap → List Loc → Array Slot → Prop) (N : Nat) {H : Heap} {locs : List Loc} {ls : Array Slot} (h0 : I 0 H locs ls)
    (hs : ∀ (i : Nat) (H : Heap) (locs : List Loc) (ls : Array Slot), i < N → I i H locs ls → (∀ (H' : Heap) (locs' : List Loc) (ls' : Array Slot), I (i + 1) H' locs' ls' → W p l e R s m args below meth c H' locs' cells slots Q (F0 m pc ls' rest)) → W p l e R s m args below meth c H locs cells slots Q (F0 m pc ls rest))
    (he : ∀ (H : Heap) (locs : List Loc) (ls : Array Slot), I N H locs ls → W p l e R s m args below meth c H locs cells slots Q (F0 m pc ls rest)) : W p l e R s m args below meth c H locs cells slots Q (F0 m pc ls rest) := by
  have key : ∀ (k i : Nat) (H : Heap) (locs : List Loc) (ls : Array Slot), i + k = N → I i H locs ls → W p l e R s m args below meth c H locs cells slots Q (F0 m pc ls rest) := by
    intro k
    induction k with
    | zero =>
      intro i H locs ls hi h
      have : i = N := by omega
      subst this
      exact he H locs ls h
    | succ k ih =>
      intro i H locs ls hi h
      exact hs i H locs ls (by omega) h (fun H' locs' ls' h' => ih (i + 1) H' locs' ls' (by omega) h')
  exact key N 0 H locs ls (by omega) h0
end ZLP
def zH (D : va_G) (A : Nat → Prop) (H0 : Heap) (ws : va_W) (H : Heap) (locs : List Loc) : Prop := va_P D vwCl ws H ∧ va_D A ws ∧ va_S A H0 H locs
/-! row 'to' written from its first place on, up to place i -/
def mpq (q : Nat → Nat → Int64) (to : Nat) (F : Nat → Int64) (i : Nat) : Nat → Nat → Int64 := va_up q to (fun j => if j < i then F j else q to j)
theorem mpq_0 {q : Nat → Nat → Int64} {to : Nat} {F : Nat → Int64} : mpq q to F 0 = q := by
  funext b j
  unfold mpq va_up
  by_cases h : b = to
  · subst h; simp
  · simp [h]
theorem mpq_rd {q : Nat → Nat → Int64} {to b i : Nat} {F : Nat → Int64} : mpq q to F i b i = q b i := by
  unfold mpq va_up
  by_cases h : b = to
  · subst h; simp
  · simp [h]
theorem mpq_ne {q : Nat → Nat → Int64} {to b i : Nat} {F : Nat → Int64} (h : b ≠ to) : mpq q to F i b = q b := by
  unfold mpq va_up
  simp [h]
theorem mpq_to {q : Nat → Nat → Int64} {to i j : Nat} {F : Nat → Int64} : mpq q to F i to j = if j < i then F j else q to j := by
  unfold mpq va_up
  simp
theorem mpq_st {q : Nat → Nat → Int64} {to i : Nat} {F : Nat → Int64} {x : Int64} (hx : x = F i) : va_up (mpq q to F i) to (vp_updL (mpq q to F i to) i x) = mpq q to F (i + 1) := by
  subst hx
  funext b j
  by_cases h : b = to
  · subst h
    rw [va_up_self, mpq_to]
    unfold vp_updL
    by_cases h1 : j = i
    · subst h1; simp
    · rw [if_neg h1, mpq_to]
      by_cases h2 : j < i
      · rw [if_pos h2, if_pos (by omega)]
      · rw [if_neg h2, if_neg (by omega)]
  · rw [va_up_ne _ _ h, mpq_ne h, mpq_ne h]
/-! limbs of 26 bits -/
abbrev bB : Int := 67108864
theorem sv10 (f : Nat → Int) : sv bB f 10 = f 0 + f 1 * 67108864 + f 2 * 4503599627370496 + f 3 * 302231454903657293676544 + f 4 * 20282409603651670423947251286016 + f 5 * 1361129467683753853853498429727072845824 + f 6 * 91343852333181432387730302044767688728495783936 + f 7 * 6129982163463555433433388108601236734474956488734408704 + f 8 * 411376139330301510538742295639337626245683966408394965837152256 + f 9 * 27606985387162255149739023449108101809804435888681546220650096895197184 := by
  simp [sv, bB]
def loose (f : Nat → Int64) : Prop := ∀ j, j < 10 → 0 ≤ fI f j ∧ fI f j < 536870912
def settled (f : Nat → Int64) : Prop := (0 ≤ fI f 0 ∧ fI f 0 < 100663296) ∧ ∀ j, 1 ≤ j → j < 10 → 0 ≤ fI f j ∧ fI f j < 67108864
def fv (f : Nat → Int64) : Int := sv bB (fI f) 10
theorem settled_at {f : Nat → Int64} (h : settled f) {j : Nat} (hj : j < 10) : 0 ≤ fI f j ∧ fI f j < 100663296 := by
  by_cases h0 : j = 0
  · subst h0; exact h.1
  · have := h.2 j (by omega) hj
    omega
theorem settled_loose {f : Nat → Int64} (h : settled f) : loose f := fun j hj => by
  have := settled_at h hj
  omega
theorem loose_le {f : Nat → Int64} (h : loose f) : 0 ≤ fv f ∧ fv f ≤ 14821389189223537792601415664409552948137073864685889072669528874619081886531584 := by
  unfold fv
  rw [sv10]
  have h0 := h 0 (by omega)
  have h1 := h 1 (by omega)
  have h2 := h 2 (by omega)
  have h3 := h 3 (by omega)
  have h4 := h 4 (by omega)
  have h5 := h 5 (by omega)
  have h6 := h 6 (by omega)
  have h7 := h 7 (by omega)
  have h8 := h 8 (by omega)
  have h9 := h 9 (by omega)
  omega
theorem p260 : (bB : Int) ^ 10 = 608 + pP * 32 := by decide
theorem B10 : (bB : Int) ^ 10 = 1852673427797059126777135760139006525652319754650249024631321344126610074238976 := by decide
