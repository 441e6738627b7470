/-! the top folded down -/
def Icf (f g : Nat → Int64) (i : Nat) : Prop := (∀ j, j < i → 0 ≤ fI g j ∧ fI g j < 67108864) ∧ (∀ j, i < j → g j = f j) ∧ 0 ≤ fI g i ∧ fI g i < 4611686155866341376 ∧ sv bB (fI g) 10 = sv bB (fI f) 10
theorem Icf_0 {f : Nat → Int64} (h : 0 ≤ fI f 0 ∧ fI f 0 < 4611686018427387904) : Icf f f 0 := ⟨fun j h => by omega, fun _ _ => rfl, h.1, by omega, rfl⟩
theorem Icf_s {f g : Nat → Int64} {i : Nat} {x y z : Int64} (h : Icf f g i) (hi : i < 9) (hf : 0 ≤ fI f (i + 1) ∧ fI f (i + 1) < 4611686018427387904) (hx : x = g i >>> ((nI 26).toInt64 &&& 63)) (hy : y = g (i + 1) + x) (hz : z = g i &&& 67108863) : Icf f (vp_updL (vp_updL g (i + 1) y) i z) (i + 1) := by
  obtain ⟨h1, h2, h3, h4, h5⟩ := h
  have hg : (g (i + 1)).toInt = fI f (i + 1) := by rw [h2 (i + 1) (by omega)]; rfl
  have hgi : (g i).toInt = fI g i := rfl
  have hxi : x.toInt = fI g i / 67108864 := by rw [hx]; exact ns26 _
  have hyi : y.toInt = fI f (i + 1) + fI g i / 67108864 := by rw [hy, tl_add (by omega) (by omega), hg, hxi]
  have hzi : z.toInt = fI g i % 67108864 := by rw [hz]; exact tl_m26 _
  refine ⟨fun j hj => ?_, fun j hj => ?_, ?_, ?_, ?_⟩
  · by_cases e : j = i
    · subst e; rw [fI_us, hzi]; omega
    · rw [fI_un e, fI_un (by omega)]; exact h1 j (by omega)
  · show (if j = i then z else if j = i + 1 then y else g j) = f j
    rw [if_neg (by omega), if_neg (by omega)]
    exact h2 j (by omega)
  · rw [fI_un (by omega), fI_us]; omega
  · rw [fI_un (by omega), fI_us]; omega
  · rw [fI_upd, sv_upd (by omega), fI_un (by omega), fI_upd, sv_upd (by omega), h5, hyi, hzi, show fI g (i + 1) = fI f (i + 1) from hg, Int.pow_succ]
    show _ + _ * (bB ^ i * 67108864) + _ = _
    generalize (bB : Int) ^ i = t
    have hd := Int.emod_add_mul_ediv (fI g i) 67108864
    generalize fI g i / 67108864 = a at hd ⊢
    generalize fI g i % 67108864 = b at hd ⊢
    rw [← hd]
    grind
def FoldP (f h : Nat → Int64) : Prop := ∃ t : Int, 0 ≤ t ∧ (∀ j, 1 ≤ j → j < 9 → 0 ≤ fI h j ∧ fI h j < 67108864) ∧ (0 ≤ fI h 9 ∧ fI h 9 < 2097152) ∧ 19 * t ≤ fI h 0 ∧ fI h 0 < 67108864 + 19 * t ∧ fv h = fv f - t * 57896044618658097711785492504343953926634992332820282019728792003956564819968 + 19 * t ∧ 0 ≤ fv f - t * 57896044618658097711785492504343953926634992332820282019728792003956564819968 ∧ fv f - t * 57896044618658097711785492504343953926634992332820282019728792003956564819968 < 57896044618658097711785492504343953926634992332820282019728792003956564819968
theorem Icf_e {f g : Nat → Int64} {a b y z : Int64} (h : Icf f g 9) (ha : a = g 9 >>> ((nI 21).toInt64 &&& 63)) (hb : b = 19 * a) (hy : y = g 0 + b) (hz : z = g 9 &&& 2097151) : FoldP f (vp_updL (vp_updL g 0 y) 9 z) := by
  obtain ⟨h1, -, h3, h4, h5⟩ := h
  have e19 : (19 : Int64).toInt = 19 := by decide
  have hai : a.toInt = fI g 9 / 2097152 := by rw [ha]; exact ns21 _
  have hbi : b.toInt = 19 * (fI g 9 / 2097152) := by rw [hb, tl_mul (by rw [e19]; omega) (by rw [e19]; omega), e19, hai]
  have g0 := h1 0 (by omega)
  have hg0 : (g 0).toInt = fI g 0 := rfl
  have hyi : y.toInt = fI g 0 + 19 * (fI g 9 / 2097152) := by rw [hy, tl_add (by omega) (by omega), hbi, hg0]
  have hzi : z.toInt = fI g 9 % 2097152 := by rw [hz]; exact tl_m21 _
  have hv : fv f = fI g 0 + fI g 1 * 67108864 + fI g 2 * 4503599627370496 + fI g 3 * 302231454903657293676544 + fI g 4 * 20282409603651670423947251286016 + fI g 5 * 1361129467683753853853498429727072845824 + fI g 6 * 91343852333181432387730302044767688728495783936 + fI g 7 * 6129982163463555433433388108601236734474956488734408704 + fI g 8 * 411376139330301510538742295639337626245683966408394965837152256 + fI g 9 * 27606985387162255149739023449108101809804435888681546220650096895197184 := by
    unfold fv
    rw [← h5, sv10]
  have k1 := h1 1 (by omega)
  have k2 := h1 2 (by omega)
  have k3 := h1 3 (by omega)
  have k4 := h1 4 (by omega)
  have k5 := h1 5 (by omega)
  have k6 := h1 6 (by omega)
  have k7 := h1 7 (by omega)
  have k8 := h1 8 (by omega)
  have hd := Int.emod_add_mul_ediv (fI g 9) 2097152
  have hm : 0 ≤ fI g 9 % 2097152 ∧ fI g 9 % 2097152 < 2097152 := by omega
  have ht : 0 ≤ fI g 9 / 2097152 := by omega
  refine ⟨fI g 9 / 2097152, ht, fun j j1 j2 => ?_, ?_, ?_, ?_, ?_, ?_, ?_⟩
  · rw [fI_un (by omega), fI_un (by omega)]; exact h1 j (by omega)
  · rw [fI_us, hzi]; exact hm
  · rw [fI_un (by omega), fI_us, hyi]; omega
  · rw [fI_un (by omega), fI_us, hyi]; omega
  · have e9 : fI (vp_updL g 0 y) 9 = fI g 9 := fI_un (by omega)
    have e0 : (67108864 : Int) ^ 9 = 27606985387162255149739023449108101809804435888681546220650096895197184 := by decide
    rw [show fv (vp_updL (vp_updL g 0 y) 9 z) = sv bB (fI (vp_updL (vp_updL g 0 y) 9 z)) 10 from rfl, fI_upd, sv_upd (by omega), e9, fI_upd, sv_upd (by omega), h5, hyi, hzi, Int.pow_zero]
    show fv f + _ + (_ - fI g 9) * (67108864 : Int) ^ 9 = _
    rw [e0]
    generalize fI g 9 / 2097152 = t at *
    generalize fI g 9 % 2097152 = r at *
    omega
  · rw [hv]
    generalize fI g 9 / 2097152 = t at *
    generalize fI g 9 % 2097152 = r at *
    omega
  · rw [hv]
    generalize fI g 9 / 2097152 = t at *
    generalize fI g 9 % 2097152 = r at *
    omega
/-- folded twice: the one number less than 2 to the 255, its limbs whole -/
theorem fold_2 {f g h : Nat → Int64} (hf : settled f) (h1 : FoldP f g) (h2 : FoldP g h) : (∀ j, j < 10 → 0 ≤ fI h j ∧ fI h j < 67108864) ∧ fI h 9 < 2097152 ∧ cg (fv h) (fv f) ∧ 0 ≤ fv h ∧ fv h < 57896044618658097711785492504343953926634992332820282019728792003956564819968 := by
  have hf0 := settled_loose hf
  obtain ⟨t, t0, a1, a2, a3, a4, a5, a6, a7⟩ := h1
  obtain ⟨r, r0, b1, b2, b3, b4, b5, b6, b7⟩ := h2
  have hv : 0 ≤ fv f ∧ fv f < 3000000000000000000000000000000000000000000000000000000000000000000000000000000 := by
    unfold fv
    rw [sv10]
    have c0 := settled_at hf (j := 0) (by omega)
    have c1 := hf.2 1 (by omega) (by omega)
    have c2 := hf.2 2 (by omega) (by omega)
    have c3 := hf.2 3 (by omega) (by omega)
    have c4 := hf.2 4 (by omega) (by omega)
    have c5 := hf.2 5 (by omega) (by omega)
    have c6 := hf.2 6 (by omega) (by omega)
    have c7 := hf.2 7 (by omega) (by omega)
    have c8 := hf.2 8 (by omega) (by omega)
    have c9 := hf.2 9 (by omega) (by omega)
    omega
  have ht : t ≤ 64 := by omega
  have hr : r ≤ 1 := by omega
  have hc : cg (fv h) (fv f) := ⟨-t - r, by unfold pP; omega⟩
  have h0 : 0 ≤ fv h ∧ fv h < 57896044618658097711785492504343953926634992332820282019728792003956564819968 := by
    rcases (show r = 0 ∨ r = 1 by omega) with rfl | rfl <;> omega
  have hh0 : 0 ≤ fI h 0 ∧ fI h 0 < 67108864 := by
    refine ⟨by omega, ?_⟩
    rcases (show r = 0 ∨ r = 1 by omega) with rfl | rfl
    · omega
    · have hx : fv h = fI h 0 + fI h 1 * 67108864 + fI h 2 * 4503599627370496 + fI h 3 * 302231454903657293676544 + fI h 4 * 20282409603651670423947251286016 + fI h 5 * 1361129467683753853853498429727072845824 + fI h 6 * 91343852333181432387730302044767688728495783936 + fI h 7 * 6129982163463555433433388108601236734474956488734408704 + fI h 8 * 411376139330301510538742295639337626245683966408394965837152256 + fI h 9 * 27606985387162255149739023449108101809804435888681546220650096895197184 := by
        unfold fv
        rw [sv10]
      have k1 := b1 1 (by omega) (by omega)
      have k2 := b1 2 (by omega) (by omega)
      have k3 := b1 3 (by omega) (by omega)
      have k4 := b1 4 (by omega) (by omega)
      have k5 := b1 5 (by omega) (by omega)
      have k6 := b1 6 (by omega) (by omega)
      have k7 := b1 7 (by omega) (by omega)
      have k8 := b1 8 (by omega) (by omega)
      omega
  refine ⟨fun j hj => ?_, b2.2, hc, h0.1, h0.2⟩
  by_cases e : j = 0
  · subst e; exact hh0
  · by_cases e9 : j = 9
    · subst e9; omega
    · exact b1 j (by omega) (by omega)
theorem FoldP_lim {f h : Nat → Int64} (hf : settled f) (H : FoldP f h) {j : Nat} (hj : j < 10) : 0 ≤ fI h j ∧ fI h j < 4611686018427387904 := by
  obtain ⟨t, t0, a1, a2, a3, a4, a5, a6, a7⟩ := H
  have hv : fv f < 3000000000000000000000000000000000000000000000000000000000000000000000000000000 := by
    unfold fv
    rw [sv10]
    have c0 := settled_at hf (j := 0) (by omega)
    have c1 := hf.2 1 (by omega) (by omega)
    have c2 := hf.2 2 (by omega) (by omega)
    have c3 := hf.2 3 (by omega) (by omega)
    have c4 := hf.2 4 (by omega) (by omega)
    have c5 := hf.2 5 (by omega) (by omega)
    have c6 := hf.2 6 (by omega) (by omega)
    have c7 := hf.2 7 (by omega) (by omega)
    have c8 := hf.2 8 (by omega) (by omega)
    have c9 := hf.2 9 (by omega) (by omega)
    omega
  by_cases e : j = 0
  · subst e; omega
  · by_cases e9 : j = 9
    · subst e9; omega
    · have := a1 j (by omega) (by omega); omega
section ZCP
variable {p : Program} {l : Launch} {e : Env} {R : Room} {s : State} {m : MethodId} {args : Array Value} {below : List Frame} {meth : Method} {c : Code} {H : Heap} {locs : List Loc} {cells slots : Nat} {Q : State → Prop}
variable {cc : ByteArray} {pc : Nat} {ls : Array Slot} {rest : List Value} {D : va_G} {A : Nat → Prop} {tys : List (ClassId × FieldType)} {X : va_W} {H0 : Heap} {cA : ClassId} {L : List Nat} {n : Nat → Nat} {q : Nat → Nat → Int64} {a b : Nat}
/-- System.arraycopy(a, 0, b, 0, k) -/
theorem z_cp (hexec : p.tables.exec = Jvm.exec) (hb : c.code = cc) (hml : c.maxLocals = ls.size) {own : String} {index : Nat} (hown : s.vm.findClass own = some m.cls) (hlink : (Cond.methodLink own index arraycopyName).before args s = true) (hnat : (Cond.native arraycopyName).before args s = true) (hstat : (Cond.static arraycopyName).before args s = true) (hini : (Cond.initialized "java/lang/System").before args s = true)
    (hK : va_K D vwCl ((cA, .long) :: tys) s) (hP : va_P D vwCl (X ++ PL cA L n q) H) (hD : va_D A (X ++ PL cA L n q)) (hS : va_S A H0 H locs) {N0 N1 : Nat} (ha : a ∈ L ∧ n a = N0) (hbL : b ∈ L ∧ n b = N1) (k : Nat) (hk0 : k ≤ N0) (hk1 : k ≤ N1) (hk : k < 2147483648)
    (hframes : 1 ≤ R.frames) (hlocals : (rest.map fun v => v.category).sum + (nativeFrameWords "java/lang/System" "arraycopy" 5 + 11) ≤ R.locals) (hdg : decode cc pc = .ok (.invokestatic index, 3))
    (kk : ∀ (H1 : Heap) (locs1 : List Loc), va_P D vwCl (X ++ PL cA L n (mpq q b (q a) k)) H1 → va_D A (X ++ PL cA L n (mpq q b (q a) k)) → va_S A H0 H1 locs1 → W p l e R s m args below meth c H1 locs1 cells slots Q (F0 m (pc + 3) ls rest)) : W p l e R s m args below meth c H locs cells slots Q (F0 m pc ls (.int (nI k) :: .int (nI 0) :: .ref b :: .int (nI 0) :: .ref a :: rest)) := by
  obtain ⟨ha, hn0⟩ := ha
  obtain ⟨hbL, hn1⟩ := hbL
  obtain ⟨k0, hk0'⟩ := va_pl_get (X := X) (f := fun a => .inl (cA, n a, .inr (.inl (q a)))) ha
  obtain ⟨k1, hk1'⟩ := va_pl_get (X := X) (f := fun a => .inl (cA, n a, .inr (.inl (q a)))) hbL
  have c0 : (nI 0).toNatClampNeg = 0 := by decide
  have ck : (nI k).toNatClampNeg = k := nI_clamp (by omega)
  refine va_copyl hexec hb hml hown hlink hnat hstat hini hK hP hD hS k0 k1 0 0 hk0' hk1' rfl rfl rfl (by decide) (by decide) (nI_pos (by omega)) (by rw [c0, ck, hn0]; omega) (by rw [c0, ck, hn1]; omega) (fun _ _ => rfl) hframes hlocals hdg ?_
  intro H1 locs1
  rw [va_pl_set hD hbL hk1', pl_up, c0, ck]
  have e : va_cpy (q a) (q b) 0 0 k = fun j => if j < k then q a j else q b j := by
    funext j
    by_cases h : j < k
    · rw [pk_cpy_in (Nat.zero_le j) (by omega), if_pos h]; congr 1; omega
    · rw [pk_cpy_out (Or.inr (by omega)), if_neg h]
  rw [e]
  exact kk H1 locs1
end ZCP
