section ZM
variable {p : Program} {l : Launch} {e : Env} {R : Room} {s : State} {m : MethodId} {args : Array Value} {below : List Frame} {meth : Method} {c : Code} {H : Heap} {locs : List Loc} {cells slots : Nat} {Q : State → Prop}
variable {cc : ByteArray} {pc : Nat} {ls : Array Slot} {rest : List Value} {D : va_G} {A : Nat → Prop} {tys : List (ClassId × FieldType)} {ws : va_W} {H0 : Heap} {cA : ClassId} {a : Nat}
theorem y_ld (hexec : p.tables.exec = Jvm.exec) (hb : c.code = cc) (hK : va_K D vwCl tys s) (hP : va_P D vwCl ws H) (q0 t0 : Nat) {N : Nat} {f : Nat → Int64} (ha : ws[q0]? = some (a, .inl (cA, N, .inr (.inl f)))) (ht : tys[t0]? = some (cA, .long)) {i : Int32} (j : Nat) (hi : i = nI j) (hj : j < N) (hN : N < 2147483648) (hdg : decode cc pc = .ok (.laload, 1))
    (kk : W p l e R s m args below meth c H locs cells slots Q (F0 m (pc + 1) ls (.long (f j) :: rest))) : W p l e R s m args below meth c H locs cells slots Q (F0 m pc ls (.int i :: .ref a :: rest)) := by
  subst hi
  refine va_lald hexec hb hK hP q0 t0 ha ht (vp_in_nI hj (by omega)) hdg ?_
  rw [nI_clamp (by omega)]
  exact kk
theorem y_ldi (hexec : p.tables.exec = Jvm.exec) (hb : c.code = cc) (hK : va_K D vwCl tys s) (hP : va_P D vwCl ws H) (q0 t0 : Nat) {N : Nat} {f : Nat → Int32} (ha : ws[q0]? = some (a, .inl (cA, N, .inl f))) (ht : tys[t0]? = some (cA, .int)) {i : Int32} (j : Nat) (hi : i = nI j) (hj : j < N) (hN : N < 2147483648) (hdg : decode cc pc = .ok (.iaload, 1))
    (kk : W p l e R s m args below meth c H locs cells slots Q (F0 m (pc + 1) ls (.int (f j) :: rest))) : W p l e R s m args below meth c H locs cells slots Q (F0 m pc ls (.int i :: .ref a :: rest)) := by
  subst hi
  refine va_iald hexec hb hK hP q0 t0 ha ht (vp_in_nI hj (by omega)) hdg ?_
  rw [nI_clamp (by omega)]
  exact kk
theorem y_st (hexec : p.tables.exec = Jvm.exec) (hb : c.code = cc) (hK : va_K D vwCl tys s) (hP : va_P D vwCl ws H) (hD : va_D A ws) (hS : va_S A H0 H locs) (q0 t0 : Nat) {N : Nat} {f : Nat → Int64} (ha : ws[q0]? = some (a, .inl (cA, N, .inr (.inl f)))) (ht : tys[t0]? = some (cA, .long)) {i : Int32} (j : Nat) (hi : i = nI j) (hj : j < N) (hN : N < 2147483648) {x : Int64} (hdg : decode cc pc = .ok (.lastore, 1))
    (kk : ∀ (H1 : Heap) (locs1 : List Loc), va_P D vwCl (ws.set q0 (a, .inl (cA, N, .inr (.inl (vp_updL f j x))))) H1 → va_D A (ws.set q0 (a, .inl (cA, N, .inr (.inl (vp_updL f j x))))) → va_S A H0 H1 locs1 → W p l e R s m args below meth c H1 locs1 cells slots Q (F0 m (pc + 1) ls rest)) : W p l e R s m args below meth c H locs cells slots Q (F0 m pc ls (.long x :: .int i :: .ref a :: rest)) := by
  subst hi
  refine va_last hexec hb hK hP hD hS q0 t0 ha ht (vp_in_nI hj (by omega)) hdg ?_
  rw [nI_clamp (by omega)]
  exact kk
theorem y_sti (hexec : p.tables.exec = Jvm.exec) (hb : c.code = cc) (hK : va_K D vwCl tys s) (hP : va_P D vwCl ws H) (hD : va_D A ws) (hS : va_S A H0 H locs) (q0 t0 : Nat) {N : Nat} {f : Nat → Int32} (ha : ws[q0]? = some (a, .inl (cA, N, .inl f))) (ht : tys[t0]? = some (cA, .int)) {i : Int32} (j : Nat) (hi : i = nI j) (hj : j < N) (hN : N < 2147483648) {x : Int32} (hdg : decode cc pc = .ok (.iastore, 1))
    (kk : ∀ (H1 : Heap) (locs1 : List Loc), va_P D vwCl (ws.set q0 (a, .inl (cA, N, .inl (upd f j x)))) H1 → va_D A (ws.set q0 (a, .inl (cA, N, .inl (upd f j x)))) → va_S A H0 H1 locs1 → W p l e R s m args below meth c H1 locs1 cells slots Q (F0 m (pc + 1) ls rest)) : W p l e R s m args below meth c H locs cells slots Q (F0 m pc ls (.int x :: .int i :: .ref a :: rest)) := by
  subst hi
  refine va_iast hexec hb hK hP hD hS q0 t0 ha ht (vp_in_nI hj (by omega)) hdg ?_
  rw [nI_clamp (by omega)]
  exact kk
end ZM
/-! differences -/
def Jsu (dg : Nat → Int32) (a b : Nat) (g : Nat → Int64) (i : Nat) (o : Int64) : Prop := (∀ j, j < i → 0 ≤ fI g j ∧ fI g j < cB) ∧ -1 ≤ o.toInt ∧ o.toInt ≤ 1 ∧ sv cB (fI g) i + o.toInt * cB ^ i = sv cB (dd dg a) i + sv cB pD i - sv cB (dd dg b) i
theorem Jsu_0 (dg : Nat → Int32) (a b : Nat) (g : Nat → Int64) : Jsu dg a b g 0 0 := ⟨fun j h => by omega, by decide, by decide, by simp [sv]⟩
theorem Jsu_s {dg : Nat → Int32} {a b i : Nat} {g : Nat → Int64} {o x1 x2 x3 x4 x5 x6 r o' : Int64} (h : Jsu dg a b g i o) (ha : 0 ≤ dd dg a i ∧ dd dg a i < cB) (hb : 0 ≤ dd dg b i ∧ dd dg b i < cB) (h1 : x1.toInt = dd dg a i) (h2 : x2.toInt = pD i) (h3 : x3 = x1 + x2) (h4 : x4.toInt = dd dg b i) (h5 : x5 = x3 - x4) (h6 : x6 = x5 + o) (hr : r = x6 &&& 65535) (ho : o' = x6 >>> ((nI 16).toInt64 &&& 63)) : Jsu dg a b (vp_updL g i r) (i + 1) o' := by
  obtain ⟨k1, k2, k3, k4⟩ := h
  have hB : (cB : Int) = 65536 := rfl
  have hp := pD_in i
  have i3 : x3.toInt = dd dg a i + pD i := by rw [h3, tl_add (by omega) (by omega), h1, h2]
  have i5 : x5.toInt = dd dg a i + pD i - dd dg b i := by rw [h5, tl_sub (by omega) (by omega), i3, h4]
  have i6 : x6.toInt = dd dg a i + pD i - dd dg b i + o.toInt := by rw [h6, tl_add (by omega) (by omega), i5]
  have ir : r.toInt = x6.toInt % 65536 := by rw [hr]; exact tl_m16 _
  have io : o'.toInt = x6.toInt / 65536 := by rw [ho]; exact ms16 _
  refine ⟨fun j hj => ?_, by omega, by omega, ?_⟩
  · by_cases e : j = i
    · subst e; rw [fI_us, ir]; omega
    · rw [fI_un e]; exact k1 j (by omega)
  · show sv cB (fI (vp_updL g i r)) i + fI (vp_updL g i r) i * cB ^ i + o'.toInt * cB ^ (i + 1) = sv cB (dd dg a) i + dd dg a i * cB ^ i + (sv cB pD i + pD i * cB ^ i) - (sv cB (dd dg b) i + dd dg b i * cB ^ i)
    rw [fI_us, fI_upd, sv_up (Nat.le_refl i), Int.pow_succ]
    have hd : x6.toInt = 65536 * o'.toInt + r.toInt := by omega
    have e : dd dg a i = 65536 * o'.toInt + r.toInt - o.toInt + dd dg b i - pD i := by omega
    rw [e]
    show _ + _ + o'.toInt * (cB ^ i * 65536) = _
    generalize (cB : Int) ^ i = t at *
    grind
theorem Jsu_e {dg : Nat → Int32} {a b : Nat} {g : Nat → Int64} {o m z : Int64} {x y : Int} (h : Jsu dg a b g 16 o) (ha : dh dg a x) (hb : dh dg b y) (hm : m = o * 65536) (hz : z = g 15 + m) : (∀ k, k < 16 → 0 ≤ fI (vp_updL g 15 z) k ∧ fI (vp_updL g 15 z) k < 8796093022208) ∧ sv cB (fI (vp_updL g 15 z)) 16 % pP = (x - y) % pP := by
  obtain ⟨k1, k2, k3, k4⟩ := h
  have hB : (cB : Int) = 65536 := rfl
  have e6 : (65536 : Int64).toInt = 65536 := by decide
  have im : m.toInt = o.toInt * 65536 := by rw [hm, tl_mul (by rw [e6]; omega) (by rw [e6]; omega), e6]
  have g15 := k1 15 (by omega)
  have gg : (g 15).toInt = fI g 15 := rfl
  have iz : z.toInt = fI g 15 + o.toInt * 65536 := by rw [hz, tl_add (by omega) (by omega), im, gg]
  have hx := dh_in ha
  have hy := dh_in hb
  rw [ha.2.1, hb.2.1, pD_sum, C16] at k4
  have hn := sv_nn (B := cB) (f := fI g) (by decide) (n := 15) (fun j hj => (k1 j (by omega)).1)
  have hl := sv_lt (B := cB) (f := fI g) (by decide) (n := 15) (fun j hj => k1 j (by omega))
  rw [C15] at hl
  have hs := sv16 (fI g)
  have hv : sv cB (fI (vp_updL g 15 z)) 16 = x + pP - y := by
    rw [fI_upd, sv_upd (by omega), C15, iz, ← k4]
    omega
  refine ⟨fun k hk => ?_, ?_⟩
  · by_cases e : k = 15
    · subst e
      rw [fI_us, iz]
      refine ⟨?_, by omega⟩
      omega
    · rw [fI_un e]
      have := k1 k hk
      omega
  · rw [hv, show x + pP - y = x - y + pP by omega, Int.add_emod_right]
/-! products -/
def Kgo (dg : Nat → Int32) (a b : Nat) (w : Nat → Int64) (i : Nat) : Prop := (∀ k, k < 32 → 0 ≤ fI w k ∧ fI w k ≤ i * 4294967296) ∧ sv cB (fI w) 32 = sv cB (dd dg a) i * sv cB (dd dg b) 16
def Kgi (dg : Nat → Int32) (a b : Nat) (w : Nat → Int64) (i j : Nat) : Prop := (∀ k, k < 32 → 0 ≤ fI w k ∧ fI w k ≤ (i + 1) * 4294967296 ∧ (i + j ≤ k → fI w k ≤ i * 4294967296)) ∧ sv cB (fI w) 32 = sv cB (dd dg a) i * sv cB (dd dg b) 16 + dd dg a i * cB ^ i * sv cB (dd dg b) j
theorem sv_0c {w : Nat → Int} : ∀ {n : Nat}, (∀ j, j < n → w j = 0) → sv cB w n = 0 := by
  intro n
  induction n with
  | zero => intro _; rfl
  | succ n ih =>
    intro h
    show sv cB w n + w n * cB ^ n = 0
    rw [ih (fun j hj => h j (by omega)), h n (by omega)]
    omega
theorem Kgo_0 {dg : Nat → Int32} {a b : Nat} {w : Nat → Int64} (hw : ∀ k, k < 32 → w k = 0) : Kgo dg a b w 0 := by
  have h0 : ∀ k, k < 32 → fI w k = 0 := fun k hk => by rw [fI_at, hw k hk]; rfl
  refine ⟨fun k hk => by rw [h0 k hk]; omega, ?_⟩
  rw [sv_0c h0]
  show 0 = 0 * _
  omega
theorem Kgi_0 {dg : Nat → Int32} {a b : Nat} {w : Nat → Int64} {i : Nat} (H : Kgo dg a b w i) : Kgi dg a b w i 0 := by
  refine ⟨fun k hk => ?_, ?_⟩
  · have := H.1 k hk; omega
  · rw [H.2]; show _ = _ + _ * 0; omega
theorem Kgi_e {dg : Nat → Int32} {a b : Nat} {w : Nat → Int64} {i : Nat} (H : Kgi dg a b w i 16) : Kgo dg a b w (i + 1) := by
  refine ⟨fun k hk => ?_, ?_⟩
  · have := H.1 k hk; omega
  · rw [H.2]
    show _ = (sv cB (dd dg a) i + dd dg a i * cB ^ i) * sv cB (dd dg b) 16
    rw [Int.add_mul]
theorem Kgi_s {dg : Nat → Int32} {a b : Nat} {w : Nat → Int64} {i j : Nat} {x1 x2 x y : Int64} (H : Kgi dg a b w i j) (hi : i < 16) (hj : j < 16) (ha : 0 ≤ dd dg a i ∧ dd dg a i < cB) (hb : 0 ≤ dd dg b j ∧ dd dg b j < cB) (h1 : x1.toInt = dd dg a i) (h2 : x2.toInt = dd dg b j) (hx : x = x1 * x2) (hy : y = w (i + j) + x) : Kgi dg a b (vp_updL w (i + j) y) i (j + 1) := by
  obtain ⟨k1, k2⟩ := H
  have hB : (cB : Int) = 65536 := rfl
  have c0 : 0 ≤ dd dg a i * dd dg b j := Int.mul_nonneg ha.1 hb.1
  have c1 : dd dg a i * dd dg b j ≤ 65536 * 65536 := Int.mul_le_mul (by omega) (by omega) hb.1 (by omega)
  have hxi : x.toInt = dd dg a i * dd dg b j := by rw [hx, tl_mul (by rw [h1, h2]; omega) (by rw [h1, h2]; omega), h1, h2]
  have k0 := k1 (i + j) (by omega)
  have k3 := k0.2.2 (by omega)
  have hwi : (w (i + j)).toInt = fI w (i + j) := rfl
  have hyi : y.toInt = fI w (i + j) + dd dg a i * dd dg b j := by
    rw [hy, tl_add (by rw [hxi]; omega) (by rw [hxi]; omega), hxi, hwi]
  refine ⟨fun k hk => ?_, ?_⟩
  · by_cases e : k = i + j
    · subst e; rw [fI_us, hyi]; omega
    · rw [fI_un e]
      have := k1 k hk
      exact ⟨this.1, this.2.1, fun q => this.2.2 (by omega)⟩
  · rw [fI_upd, sv_upd (by omega), k2, hyi]
    show _ = _ + dd dg a i * cB ^ i * (sv cB (dd dg b) j + dd dg b j * cB ^ j)
    rw [Int.pow_add]
    generalize (cB : Int) ^ i = t
    generalize (cB : Int) ^ j = t2
    grind
theorem Kgo_e {dg : Nat → Int32} {a b : Nat} {w t : Nat → Int64} {x y : Int} (H : Kgo dg a b w 16) (ha : dh dg a x) (hb : dh dg b y) (ht : ∀ j, j < 16 → t j = w j + 38 * w (16 + j)) : (∀ k, k < 16 → 0 ≤ fI t k ∧ fI t k < 8796093022208) ∧ sv cB (fI t) 16 % pP = x * y % pP := by
  obtain ⟨k1, k2⟩ := H
  have e : (38 : Int64).toInt = 38 := by decide
  have hti : ∀ j, j < 16 → fI t j = fI w j + 38 * fI w (16 + j) := fun j hj => by
    have a1 := k1 j (by omega)
    have a2 := k1 (16 + j) (by omega)
    have hm : (38 * w (16 + j)).toInt = 38 * fI w (16 + j) := by rw [tl_mul (by rw [e]; show _ ≤ 38 * fI w (16 + j); omega) (by rw [e]; show 38 * fI w (16 + j) < _; omega), e]; rfl
    rw [fI_at, ht j hj, tl_add (by rw [hm]; show _ ≤ fI w j + _; omega) (by rw [hm]; show fI w j + _ < _; omega), hm]
    rfl
  refine ⟨fun k hk => ?_, ?_⟩
  · have a1 := k1 k (by omega)
    have a2 := k1 (16 + k) (by omega)
    rw [hti k hk]
    omega
  · rw [sv_congr (g := fun j => fI w j + 38 * fI w (16 + j)) hti, sv_add, sv_mul]
    rw [ha.2.1, hb.2.1, show (32 : Nat) = 16 + 16 from rfl, sv_split, C16] at k2
    apply cg_emod
    rw [← k2]
    exact ⟨-2 * sv cB (fun j => fI w (16 + j)) 16, by unfold pP; omega⟩
/-! sums, and times a small number -/
theorem add_m {dg : Nat → Int32} {a b : Nat} {t : Nat → Int64} {x y : Int} (ha : dh dg a x) (hb : dh dg b y) (ht : ∀ j, j < 16 → fI t j = dd dg a j + dd dg b j) : (∀ k, k < 16 → 0 ≤ fI t k ∧ fI t k < 8796093022208) ∧ sv cB (fI t) 16 % pP = (x + y) % pP := by
  have hB : (cB : Int) = 65536 := rfl
  refine ⟨fun k hk => ?_, ?_⟩
  · have a1 := ha.1 k hk
    have a2 := hb.1 k hk
    rw [ht k hk]
    omega
  · rw [sv_congr (g := fun j => dd dg a j + dd dg b j) ht, sv_add, ha.2.1, hb.2.1]
theorem small_m {dg : Nat → Int32} {a : Nat} {t : Nat → Int64} {x : Int} (ha : dh dg a x) (ht : ∀ j, j < 16 → fI t j = 121665 * dd dg a j) : (∀ k, k < 16 → 0 ≤ fI t k ∧ fI t k < 8796093022208) ∧ sv cB (fI t) 16 % pP = (121665 * x) % pP := by
  have hB : (cB : Int) = 65536 := rfl
  refine ⟨fun k hk => ?_, ?_⟩
  · have a1 := ha.1 k hk
    rw [ht k hk]
    omega
  · rw [sv_congr (g := fun j => 121665 * dd dg a j) ht, sv_mul, ha.2.1]
theorem mod_mod (x : Int) : x % pP % pP = x % pP := Int.emod_emod_of_dvd x (Int.dvd_refl pP)
