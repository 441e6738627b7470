theorem ns26 (a : Int64) : (a >>> ((nI 26).toInt64 &&& 63)).toInt = a.toInt / 67108864 := tl_shr a (nI 26) 26 (by decide)
theorem ns21 (a : Int64) : (a >>> ((nI 21).toInt64 &&& 63)).toInt = a.toInt / 2097152 := tl_shr a (nI 21) 21 (by decide)
theorem up_id {q : Nat → Nat → Int64} {a : Nat} : va_up q a (q a) = q := by
  funext b
  by_cases h : b = a
  · subst h; rw [va_up_self]
  · rw [va_up_ne _ _ h]
theorem up_uu {q : Nat → Nat → Int64} {a : Nat} {g h : Nat → Int64} : va_up (va_up q a g) a h = va_up q a h := bx_uu q a g h
theorem fI_at (f : Nat → Int64) (j : Nat) : fI f j = (f j).toInt := rfl
theorem fI_us {f : Nat → Int64} {k : Nat} {x : Int64} : fI (vp_updL f k x) k = x.toInt := by
  rw [fI_upd]; simp
theorem fI_un {f : Nat → Int64} {k j : Nat} {x : Int64} (h : j ≠ k) : fI (vp_updL f k x) j = fI f j := by
  rw [fI_upd]; simp [h]
/-! carry over a row of ten -/
def Icar (f g : Nat → Int64) (i : Nat) (o : Int64) : Prop := (∀ j, j < i → 0 ≤ fI g j ∧ fI g j < bB) ∧ (∀ j, i ≤ j → g j = f j) ∧ 0 ≤ o.toInt ∧ o.toInt < 137438953472 ∧ sv bB (fI g) i + o.toInt * bB ^ i = sv bB (fI f) i
theorem Icar_0 (f : Nat → Int64) : Icar f f 0 0 := ⟨fun j h => by omega, fun _ _ => rfl, by decide, by decide, by simp [sv]⟩
theorem Icar_s {f g : Nat → Int64} {i : Nat} {o v r o' : Int64} (h : Icar f g i o) (hf : 0 ≤ fI f i ∧ fI f i < 4611686018427387904) (hv : v = g i + o) (hr : r = v &&& 67108863) (ho : o' = v >>> ((nI 26).toInt64 &&& 63)) : Icar f (vp_updL g i r) (i + 1) o' := by
  obtain ⟨h1, h2, h3, h4, h5⟩ := h
  have hg : (g i).toInt = fI f i := by rw [h2 i (Nat.le_refl i)]; rfl
  have hvi : v.toInt = fI f i + o.toInt := by rw [hv, tl_add (by rw [hg]; omega) (by rw [hg]; omega), hg]
  have hri : r.toInt = v.toInt % 67108864 := by rw [hr]; exact tl_m26 v
  have hoi : o'.toInt = v.toInt / 67108864 := by rw [ho]; exact ns26 v
  refine ⟨fun j hj => ?_, fun j hj => ?_, by omega, by omega, ?_⟩
  · by_cases e : j = i
    · subst e; rw [fI_us, hri]; exact ⟨by omega, by show _ < (67108864 : Int); omega⟩
    · rw [fI_un e]; exact h1 j (by omega)
  · show (if j = i then r else g j) = f j
    rw [if_neg (by omega)]
    exact h2 j (by omega)
  · show sv bB (fI (vp_updL g i r)) i + fI (vp_updL g i r) i * bB ^ i + o'.toInt * bB ^ (i + 1) = sv bB (fI f) i + fI f i * bB ^ i
    rw [fI_us, fI_upd, sv_up (Nat.le_refl i), ← h5, Int.pow_succ]
    have hd : v.toInt = 67108864 * o'.toInt + r.toInt := by omega
    have : fI f i = 67108864 * o'.toInt + r.toInt - o.toInt := by omega
    rw [this]
    show _ + _ + o'.toInt * (bB ^ i * 67108864) = _
    generalize (bB : Int) ^ i = t
    grind
def CarP (f g : Nat → Int64) : Prop := ∃ o : Int, 0 ≤ o ∧ (∀ j, 1 ≤ j → j < 10 → 0 ≤ fI g j ∧ fI g j < 67108864) ∧ 608 * o ≤ fI g 0 ∧ fI g 0 < 67108864 + 608 * o ∧ fv g = fv f - o * bB ^ 10 + 608 * o ∧ o * bB ^ 10 ≤ fv f
theorem Icar_e {f g : Nat → Int64} {o x y : Int64} (h : Icar f g 10 o) (hx : x = 608 * o) (hy : y = g 0 + x) : CarP f (vp_updL g 0 y) := by
  obtain ⟨h1, -, h3, h4, h5⟩ := h
  have hx1 : x.toInt = 608 * o.toInt := by
    have e : (608 : Int64).toInt = 608 := by decide
    rw [hx, tl_mul (by rw [e]; omega) (by rw [e]; omega), e]
  have h0 := h1 0 (by omega)
  have hy1 : y.toInt = fI g 0 + 608 * o.toInt := by
    have : (g 0).toInt = fI g 0 := rfl
    have hB : (bB : Int) = 67108864 := rfl
    rw [hy, tl_add (by omega) (by omega), hx1, this]
  refine ⟨o.toInt, h3, fun j h1j hj => ?_, ?_, ?_, ?_, ?_⟩
  · rw [fI_un (by omega)]; exact h1 j hj
  · rw [fI_us]; omega
  · rw [fI_us]; have hB : (bB : Int) = 67108864 := rfl; omega
  · unfold fv
    rw [fI_upd, sv_upd (by omega), ← h5, hy1, Int.pow_zero]
    omega
  · unfold fv
    rw [← h5]
    have := sv_nn (B := bB) (f := fI g) (by decide) (n := 10) (fun j hj => (h1 j hj).1)
    omega
/-! carry over the wide row -/
def Icw (f g : Nat → Int64) (i : Nat) : Prop := (∀ j, j < i → 0 ≤ fI g j ∧ fI g j < 67108864) ∧ (∀ j, i < j → g j = f j) ∧ 0 ≤ fI g i ∧ fI g i < 4611686155866341376 ∧ sv bB (fI g) 20 = sv bB (fI f) 20
theorem Icw_0 {f : Nat → Int64} (h : 0 ≤ fI f 0 ∧ fI f 0 < 4611686018427387904) : Icw f f 0 := ⟨fun j h => by omega, fun _ _ => rfl, h.1, by omega, rfl⟩
theorem Icw_s {f g : Nat → Int64} {i : Nat} {x y z : Int64} (h : Icw f g i) (hi : i < 19) (hf : 0 ≤ fI f (i + 1) ∧ fI f (i + 1) < 4611686018427387904) (hx : x = g i >>> ((nI 26).toInt64 &&& 63)) (hy : y = g (i + 1) + x) (hz : z = g i &&& 67108863) : Icw f (vp_updL (vp_updL g (i + 1) y) i z) (i + 1) := by
  obtain ⟨h1, h2, h3, h4, h5⟩ := h
  have hg : (g (i + 1)).toInt = fI f (i + 1) := by rw [h2 (i + 1) (by omega)]; rfl
  have hgi : (g i).toInt = fI g i := rfl
  have hxi : x.toInt = fI g i / 67108864 := by rw [hx]; exact ns26 _
  have hyi : y.toInt = fI f (i + 1) + fI g i / 67108864 := by rw [hy, tl_add (by omega) (by omega), hg, hxi]
  have hzi : z.toInt = fI g i % 67108864 := by rw [hz]; exact tl_m26 _
  refine ⟨fun j hj => ?_, fun j hj => ?_, ?_, ?_, ?_⟩
  · by_cases e : j = i
    · subst e; rw [fI_us, hzi]; omega
    · rw [fI_un e, fI_un (by omega)]; exact h1 j (by omega)
  · show (if j = i then z else if j = i + 1 then y else g j) = f j
    rw [if_neg (by omega), if_neg (by omega)]
    exact h2 j (by omega)
  · rw [fI_un (by omega), fI_us]; omega
  · rw [fI_un (by omega), fI_us]; omega
  · rw [fI_upd, sv_upd (by omega), fI_un (by omega), fI_upd, sv_upd (by omega), h5, hyi, hzi, show fI g (i + 1) = fI f (i + 1) from hg, Int.pow_succ]
    show _ + _ * (bB ^ i * 67108864) + _ = _
    generalize (bB : Int) ^ i = t
    have hd := Int.emod_add_mul_ediv (fI g i) 67108864
    generalize fI g i / 67108864 = a at hd ⊢
    generalize fI g i % 67108864 = b at hd ⊢
    rw [← hd]
    grind
/-! the products gathered -/
def Igo (f h w : Nat → Int64) (i : Nat) : Prop := (∀ k, k < 20 → 0 ≤ fI w k ∧ fI w k ≤ i * 288230376151711744) ∧ sv bB (fI w) 20 = sv bB (fI f) i * fv h
def Igi (f h w : Nat → Int64) (i j : Nat) : Prop := (∀ k, k < 20 → 0 ≤ fI w k ∧ fI w k ≤ (i + 1) * 288230376151711744 ∧ (i + j ≤ k → fI w k ≤ i * 288230376151711744)) ∧ sv bB (fI w) 20 = sv bB (fI f) i * fv h + fI f i * bB ^ i * sv bB (fI h) j
theorem sv_0s {w : Nat → Int} : ∀ {n : Nat}, (∀ j, j < n → w j = 0) → sv bB w n = 0 := by
  intro n
  induction n with
  | zero => intro _; rfl
  | succ n ih =>
    intro h
    show sv bB w n + w n * bB ^ n = 0
    rw [ih (fun j hj => h j (by omega)), h n (by omega)]
    omega
theorem Igo_0 {f h w : Nat → Int64} (hw : ∀ k, k < 20 → w k = 0) : Igo f h w 0 := by
  have h0 : ∀ k, k < 20 → fI w k = 0 := fun k hk => by rw [fI_at, hw k hk]; rfl
  refine ⟨fun k hk => by rw [h0 k hk]; omega, ?_⟩
  rw [sv_0s h0]
  show 0 = 0 * _
  omega
theorem Igi_0 {f h w : Nat → Int64} {i : Nat} (H : Igo f h w i) : Igi f h w i 0 := by
  refine ⟨fun k hk => ?_, ?_⟩
  · have := H.1 k hk; omega
  · rw [H.2]; show _ = _ + _ * 0; omega
theorem Igi_e {f h w : Nat → Int64} {i : Nat} (H : Igi f h w i 10) : Igo f h w (i + 1) := by
  refine ⟨fun k hk => ?_, ?_⟩
  · have := H.1 k hk; omega
  · rw [H.2]
    show _ = (sv bB (fI f) i + fI f i * bB ^ i) * sv bB (fI h) 10
    rw [Int.add_mul]
    rfl
theorem Igi_s {f h w : Nat → Int64} {i j : Nat} {x y : Int64} (H : Igi f h w i j) (hi : i < 10) (hj : j < 10) (hf : loose f) (hh : loose h) (hx : x = f i * h j) (hy : y = w (i + j) + x) : Igi f h (vp_updL w (i + j) y) i (j + 1) := by
  obtain ⟨h1, h2⟩ := H
  have a := hf i hi
  have b := hh j hj
  have c0 : 0 ≤ fI f i * fI h j := Int.mul_nonneg a.1 b.1
  have c1 : fI f i * fI h j ≤ 536870912 * 536870912 := Int.mul_le_mul (by omega) (by omega) b.1 (by omega)
  have hxi : x.toInt = fI f i * fI h j := by rw [hx]; exact tl_mul (a := f i) (b := h j) (by show _ ≤ fI f i * fI h j; omega) (by show fI f i * fI h j < _; omega)
  have k0 := h1 (i + j) (by omega)
  have k1 := k0.2.2 (by omega)
  have hwi : (w (i + j)).toInt = fI w (i + j) := rfl
  have hyi : y.toInt = fI w (i + j) + fI f i * fI h j := by
    rw [hy, tl_add (by rw [hxi]; omega) (by rw [hxi]; omega), hxi, hwi]
  refine ⟨fun k hk => ?_, ?_⟩
  · by_cases e : k = i + j
    · subst e; rw [fI_us, hyi]; omega
    · rw [fI_un e]
      have := h1 k hk
      exact ⟨this.1, this.2.1, fun q => this.2.2 (by omega)⟩
  · rw [fI_upd, sv_upd (by omega), h2, hyi]
    show _ = _ + fI f i * bB ^ i * (sv bB (fI h) j + fI h j * bB ^ j)
    rw [Int.pow_add]
    generalize (bB : Int) ^ i = t
    generalize (bB : Int) ^ j = t2
    grind
theorem Igo_e {f h w : Nat → Int64} (H : Igo f h w 10) : (∀ k, k < 20 → 0 ≤ fI w k ∧ fI w k < 4611686018427387904) ∧ sv bB (fI w) 20 = fv f * fv h := by
  refine ⟨fun k hk => ?_, H.2⟩
  have := H.1 k hk
  omega
/-! the product, folded and carried -/
theorem mul_fold {w t : Nat → Int64} {F G : Int} (hF : 0 ≤ F ∧ F ≤ 14821389189223537792601415664409552948137073864685889072669528874619081886531584) (hG : 0 ≤ G ∧ G ≤ 14821389189223537792601415664409552948137073864685889072669528874619081886531584)
    (h1 : ∀ j, j < 19 → 0 ≤ fI w j ∧ fI w j < 67108864) (h2 : 0 ≤ fI w 19) (h3 : sv bB (fI w) 20 = F * G) (ht : ∀ j, j < 10 → t j = w j + 608 * w (j + 10)) :
    (∀ j, j < 10 → 0 ≤ fI t j ∧ fI t j < 4611686018427387904) ∧ 0 ≤ fv t ∧ fv t ≤ 38914 * bB ^ 10 ∧ cg (fv t) (F * G) := by
  have e : (608 : Int64).toInt = 608 := by decide
  have hFG : F * G ≤ 14821389189223537792601415664409552948137073864685889072669528874619081886531584 * 14821389189223537792601415664409552948137073864685889072669528874619081886531584 := Int.mul_le_mul hF.2 hG.2 hG.1 (by omega)
  rw [show (20 : Nat) = 10 + 10 from rfl, sv_split] at h3
  have hlo0 := sv_nn (B := bB) (f := fI w) (by decide) (n := 10) (fun j hj => (h1 j (by omega)).1)
  have hlo1 := sv_lt (B := bB) (f := fI w) (by decide) (n := 10) (fun j hj => h1 j (by omega))
  have hhi0 := sv_nn (B := bB) (f := fun j => fI w (10 + j)) (by decide) (n := 10) (fun j hj => by
    by_cases e : j = 9
    · subst e; exact h2
    · exact (h1 (10 + j) (by omega)).1)
  rw [B10] at h3 hlo1
  have hhi1 : sv bB (fun j => fI w (10 + j)) 10 ≤ 118571127648566505564552658896643596216887656264275389907834304755582334408851457 := by omega
  have h19 : fI w 19 < 17179869184 := by
    rw [sv10] at hhi1
    have a0 := h1 10 (by omega)
    have a1 := h1 11 (by omega)
    have a2 := h1 12 (by omega)
    have a3 := h1 13 (by omega)
    have a4 := h1 14 (by omega)
    have a5 := h1 15 (by omega)
    have a6 := h1 16 (by omega)
    have a7 := h1 17 (by omega)
    have a8 := h1 18 (by omega)
    simp only [Nat.reduceAdd] at hhi1
    omega
  have hw2 : ∀ j, j < 10 → 0 ≤ fI w (j + 10) ∧ fI w (j + 10) < 17179869184 := fun j hj => by
    by_cases e : j = 9
    · subst e; exact ⟨h2, h19⟩
    · have := h1 (j + 10) (by omega); omega
  have hti : ∀ j, j < 10 → fI t j = fI w j + 608 * fI w (j + 10) := fun j hj => by
    have a := h1 j (by omega)
    have b := hw2 j hj
    have hm : (608 * w (j + 10)).toInt = 608 * fI w (j + 10) := by rw [tl_mul (by rw [e]; show _ ≤ 608 * fI w (j + 10); omega) (by rw [e]; show 608 * fI w (j + 10) < _; omega), e]; rfl
    rw [fI_at, ht j hj, tl_add (by rw [hm]; show _ ≤ fI w j + _; omega) (by rw [hm]; show fI w j + _ < _; omega), hm]
    rfl
  have hsum : fv t = sv bB (fI w) 10 + 608 * sv bB (fun j => fI w (10 + j)) 10 := by
    unfold fv
    rw [sv_congr (g := fun j => fI w j + 608 * fI w (10 + j)) (fun j hj => by rw [hti j hj, Nat.add_comm j 10]), sv_add, sv_mul]
  refine ⟨fun j hj => ?_, by omega, ?_, ?_⟩
  · have a := h1 j (by omega)
    have b := hw2 j hj
    rw [hti j hj]
    omega
  · rw [hsum, B10]
    omega
  · rw [hsum, ← h3]
    refine ⟨-32 * sv bB (fun j => fI w (10 + j)) 10, ?_⟩
    unfold pP
    omega
theorem car_settled {f g : Nat → Int64} (h : CarP f g) (hf : fv f ≤ 38914 * bB ^ 10) : settled g ∧ cg (fv g) (fv f) := by
  obtain ⟨o, h0, h1, h2, h3, h4, h5⟩ := h
  rw [B10] at *
  refine ⟨⟨⟨by omega, by omega⟩, h1⟩, -32 * o, ?_⟩
  rw [h4]
  unfold pP
  omega
/-! times 121665 -/
theorem scale_fold {f t : Nat → Int64} (hf : ∀ j, j < 10 → 0 ≤ fI f j ∧ fI f j < 268435456) (ht : ∀ j, j < 10 → t j = f j * 121665) : (∀ j, j < 10 → 0 ≤ fI t j ∧ fI t j < 4611686018427387904) ∧ fv t = 121665 * fv f ∧ fv t ≤ 486661 * bB ^ 10 := by
  have e : (121665 : Int64).toInt = 121665 := by decide
  have hti : ∀ j, j < 10 → fI t j = 121665 * fI f j := fun j hj => by
    have a := hf j hj
    rw [fI_at, ht j hj, tl_mul (by rw [e]; show _ ≤ fI f j * 121665; omega) (by rw [e]; show fI f j * 121665 < _; omega), e]
    show fI f j * 121665 = _
    omega
  have hs : fv t = 121665 * fv f := by
    unfold fv
    rw [sv_congr (g := fun j => 121665 * fI f j) hti, sv_mul]
  refine ⟨fun j hj => ?_, hs, ?_⟩
  · have a := hf j hj
    rw [hti j hj]
    omega
  · rw [hs, B10]
    unfold fv
    rw [sv10]
    have h0 := hf 0 (by omega)
    have h1 := hf 1 (by omega)
    have h2 := hf 2 (by omega)
    have h3 := hf 3 (by omega)
    have h4 := hf 4 (by omega)
    have h5 := hf 5 (by omega)
    have h6 := hf 6 (by omega)
    have h7 := hf 7 (by omega)
    have h8 := hf 8 (by omega)
    have h9 := hf 9 (by omega)
    omega
def scaled (g : Nat → Int64) : Prop := (0 ≤ fI g 0 ∧ fI g 0 < 362998753) ∧ ∀ j, 1 ≤ j → j < 10 → 0 ≤ fI g j ∧ fI g j < 67108864
theorem car_scaled {f g : Nat → Int64} (h : CarP f g) (hf : fv f ≤ 486661 * bB ^ 10) : scaled g ∧ cg (fv g) (fv f) := by
  obtain ⟨o, h0, h1, h2, h3, h4, h5⟩ := h
  rw [B10] at *
  refine ⟨⟨⟨by omega, by omega⟩, h1⟩, -32 * o, ?_⟩
  rw [h4]
  unfold pP
  omega
/-! sums and differences -/
theorem add_fold {f h t : Nat → Int64} (hf : settled f) (hh : ∀ j, j < 10 → 0 ≤ fI h j ∧ fI h j < 362998753) (ht : ∀ j, j < 10 → t j = f j + h j) : loose t ∧ fv t = fv f + fv h := by
  have hti : ∀ j, j < 10 → fI t j = fI f j + fI h j := fun j hj => by
    have a := settled_at hf hj
    have b := hh j hj
    rw [fI_at, ht j hj, tl_add (by show _ ≤ fI f j + fI h j; omega) (by show fI f j + fI h j < _; omega)]
    rfl
  refine ⟨fun j hj => ?_, ?_⟩
  · have a := settled_at hf hj
    have b := hh j hj
    rw [hti j hj]
    omega
  · unfold fv
    rw [sv_congr (g := fun j => fI f j + fI h j) hti, sv_add]
theorem sub_fold {f h t : Nat → Int64} (hf : settled f) (hh : settled h) (ht : ∀ j, j < 10 → t j = f j + (if j = 0 then 134216512 else 134217726) - h j) : (∀ j, j < 10 → 0 ≤ fI t j ∧ fI t j < 268435456) ∧ cg (fv t) (fv f - fv h) := by
  have e0 : (134216512 : Int64).toInt = 134216512 := by decide
  have e1 : (134217726 : Int64).toInt = 134217726 := by decide
  have hti : ∀ j, j < 10 → fI t j = fI f j + ((if j = 0 then 134216512 else 134217726) + -1 * fI h j) := fun j hj => by
    have a := settled_at hf hj
    have b := settled_at hh hj
    rw [fI_at, ht j hj]
    by_cases ej : j = 0
    · rw [if_pos ej, if_pos ej]
      have h1 : (f j + 134216512).toInt = fI f j + 134216512 := by rw [tl_add (by rw [e0]; show _ ≤ fI f j + _; omega) (by rw [e0]; show fI f j + _ < _; omega), e0]; rfl
      rw [tl_sub (by rw [h1]; show _ ≤ _ - fI h j; omega) (by rw [h1]; show _ - fI h j < _; omega), h1]
      show _ - fI h j = _
      omega
    · rw [if_neg ej, if_neg ej]
      have h1 : (f j + 134217726).toInt = fI f j + 134217726 := by rw [tl_add (by rw [e1]; show _ ≤ fI f j + _; omega) (by rw [e1]; show fI f j + _ < _; omega), e1]; rfl
      rw [tl_sub (by rw [h1]; show _ ≤ _ - fI h j; omega) (by rw [h1]; show _ - fI h j < _; omega), h1]
      show _ - fI h j = _
      omega
  refine ⟨fun j hj => ?_, 64, ?_⟩
  · rw [hti j hj]
    by_cases ej : j = 0
    · subst ej
      have a := hf.1
      have b := hh.1
      simp only [if_true]
      omega
    · have a := hf.2 j (by omega) hj
      have b := hh.2 j (by omega) hj
      rw [if_neg ej]
      omega
  · unfold fv
    rw [sv_congr hti, sv_add, sv_add, sv_mul, show sv bB (fun j => if j = 0 then (134216512 : Int) else 134217726) 10 = pP * 64 from by decide]
    omega
theorem lo_of28 {t : Nat → Int64} (h : ∀ j, j < 10 → 0 ≤ fI t j ∧ fI t j < 268435456) : loose t := fun j hj => by
  have := h j hj
  omega
theorem scaled_at {g : Nat → Int64} (h : scaled g) {j : Nat} (hj : j < 10) : 0 ≤ fI g j ∧ fI g j < 362998753 := by
  by_cases h0 : j = 0
  · subst h0; exact h.1
  · have := h.2 j (by omega) hj
    omega
theorem settled_363 {g : Nat → Int64} (h : settled g) {j : Nat} (hj : j < 10) : 0 ≤ fI g j ∧ fI g j < 362998753 := by
  have := settled_at h hj
  omega
