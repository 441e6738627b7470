/-! digits of 16 bits: the reference's numbers -/
abbrev cB : Int := 65536
theorem ms16 (a : Int64) : (a >>> ((nI 16).toInt64 &&& 63)).toInt = a.toInt / 65536 := tl_shr a (nI 16) 16 (by decide)
theorem ms15 (a : Int64) : (a >>> ((nI 15).toInt64 &&& 63)).toInt = a.toInt / 32768 := tl_shr a (nI 15) 15 (by decide)
def pD (k : Nat) : Int := if k = 0 then 65517 else if k = 15 then 32767 else 65535
theorem pD_sum : sv cB pD 16 = pP := by decide
theorem pD_in (k : Nat) : 0 ≤ pD k ∧ pD k < 65536 := by
  unfold pD
  repeat' split
  all_goals omega
theorem C16 : (cB : Int) ^ 16 = 115792089237316195423570985008687907853269984665640564039457584007913129639936 := by decide
theorem sv16 (f : Nat → Int) : sv cB f 16 = sv cB f 15 + f 15 * 1766847064778384329583297500742918515827483896875618958121606201292619776 := by
  show sv cB f 15 + f 15 * cB ^ 15 = _
  rw [show (cB : Int) ^ 15 = 1766847064778384329583297500742918515827483896875618958121606201292619776 from by decide]
theorem C15 : (cB : Int) ^ 15 = 1766847064778384329583297500742918515827483896875618958121606201292619776 := by decide
/-- every place at most c: the sum at most c times that of ones -/
theorem sv_le {B c : Int} {f : Nat → Int} (hB : 0 ≤ B) : ∀ {n : Nat}, (∀ j, j < n → f j ≤ c) → sv B f n ≤ c * sv B (fun _ => 1) n := by
  intro n
  induction n with
  | zero => intro _; show (0 : Int) ≤ c * 0; omega
  | succ n ih =>
    intro h
    show sv B f n + f n * B ^ n ≤ c * (sv B (fun _ => 1) n + 1 * B ^ n)
    have h1 := ih (fun j hj => h j (by omega))
    have h2 := Int.mul_le_mul_of_nonneg_right (h n (by omega)) (show 0 ≤ B ^ n from Int.pow_nonneg hB)
    rw [Int.mul_add, Int.one_mul]
    omega
/-! carry over sixteen -/
def Jcar (f g : Nat → Int64) (i : Nat) (o : Int64) : Prop := (∀ j, j < i → 0 ≤ fI g j ∧ fI g j < cB) ∧ (∀ j, i ≤ j → g j = f j) ∧ 0 ≤ o.toInt ∧ o.toInt < 268435456 ∧ sv cB (fI g) i + o.toInt * cB ^ i = sv cB (fI f) i
theorem Jcar_0 (f : Nat → Int64) : Jcar f f 0 0 := ⟨fun j h => by omega, fun _ _ => rfl, by decide, by decide, by simp [sv]⟩
theorem Jcar_s {f g : Nat → Int64} {i : Nat} {o v r o' : Int64} (h : Jcar f g i o) (hf : 0 ≤ fI f i ∧ fI f i < 8796093022208) (hv : v = g i + o) (hr : r = v &&& 65535) (ho : o' = v >>> ((nI 16).toInt64 &&& 63)) : Jcar f (vp_updL g i r) (i + 1) o' := by
  obtain ⟨h1, h2, h3, h4, h5⟩ := h
  have hg : (g i).toInt = fI f i := by rw [h2 i (Nat.le_refl i)]; rfl
  have hvi : v.toInt = fI f i + o.toInt := by rw [hv, tl_add (by rw [hg]; omega) (by rw [hg]; omega), hg]
  have hri : r.toInt = v.toInt % 65536 := by rw [hr]; exact tl_m16 v
  have hoi : o'.toInt = v.toInt / 65536 := by rw [ho]; exact ms16 v
  refine ⟨fun j hj => ?_, fun j hj => ?_, by omega, by omega, ?_⟩
  · by_cases e : j = i
    · subst e; rw [fI_us, hri]; exact ⟨by omega, by show _ < (65536 : Int); omega⟩
    · rw [fI_un e]; exact h1 j (by omega)
  · show (if j = i then r else g j) = f j
    rw [if_neg (by omega)]
    exact h2 j (by omega)
  · show sv cB (fI (vp_updL g i r)) i + fI (vp_updL g i r) i * cB ^ i + o'.toInt * cB ^ (i + 1) = sv cB (fI f) i + fI f i * cB ^ i
    rw [fI_us, fI_upd, sv_up (Nat.le_refl i), ← h5, Int.pow_succ]
    have hd : v.toInt = 65536 * o'.toInt + r.toInt := by omega
    have : fI f i = 65536 * o'.toInt + r.toInt - o.toInt := by omega
    rw [this]
    show _ + _ + o'.toInt * (cB ^ i * 65536) = _
    generalize (cB : Int) ^ i = t
    grind
/-- one turn of store -/
def TurnP (f h : Nat → Int64) : Prop := ∃ a : Int, 0 ≤ a ∧ a < 1073741824 ∧ (∀ k, 1 ≤ k → k < 16 → 0 ≤ fI h k ∧ fI h k < 65536) ∧ 0 ≤ fI h 0 ∧ fI h 0 < 65536 + 19 * a ∧ sv cB (fI h) 16 = sv cB (fI f) 16 - a * 57896044618658097711785492504343953926634992332820282019728792003956564819968 + 19 * a ∧ 0 ≤ sv cB (fI f) 16 - a * 57896044618658097711785492504343953926634992332820282019728792003956564819968 ∧ sv cB (fI f) 16 - a * 57896044618658097711785492504343953926634992332820282019728792003956564819968 < 57896044618658097711785492504343953926634992332820282019728792003956564819968
theorem Jcar_t {f g : Nat → Int64} {o a2 b ab z c d : Int64} (h : Jcar f g 16 o) (h2 : a2 = o * 2) (hb : b = g 15 >>> ((nI 15).toInt64 &&& 63)) (hab : ab = a2 + b) (hz : z = g 15 &&& 32767) (hc : c = 19 * ab) (hd : d = g 0 + c) : TurnP f (vp_updL (vp_updL g 15 z) 0 d) := by
  obtain ⟨h1, -, h3, h4, h5⟩ := h
  have hB : (cB : Int) = 65536 := rfl
  have e2 : (2 : Int64).toInt = 2 := by decide
  have e19 : (19 : Int64).toInt = 19 := by decide
  have g15 := h1 15 (by omega)
  have g0 := h1 0 (by omega)
  have ga : (g 15).toInt = fI g 15 := rfl
  have gb : (g 0).toInt = fI g 0 := rfl
  have i2 : a2.toInt = o.toInt * 2 := by rw [h2, tl_mul (by rw [e2]; omega) (by rw [e2]; omega), e2]
  have ib : b.toInt = fI g 15 / 32768 := by rw [hb]; exact ms15 _
  have iab : ab.toInt = o.toInt * 2 + fI g 15 / 32768 := by rw [hab, tl_add (by omega) (by omega), i2, ib]
  have iz : z.toInt = fI g 15 % 32768 := by rw [hz]; exact tl_m15 _
  have ic : c.toInt = 19 * ab.toInt := by rw [hc, tl_mul (by rw [e19]; omega) (by rw [e19]; omega), e19]
  have id : d.toInt = fI g 0 + 19 * ab.toInt := by rw [hd, tl_add (by omega) (by omega), ic, gb]
  have hn := sv_nn (B := cB) (f := fI g) (by decide) (n := 15) (fun j hj => (h1 j (by omega)).1)
  have hl := sv_lt (B := cB) (f := fI g) (by decide) (n := 15) (fun j hj => h1 j (by omega))
  rw [C15] at hl
  have hv : sv cB (fI f) 16 = sv cB (fI g) 15 + fI g 15 * 1766847064778384329583297500742918515827483896875618958121606201292619776 + o.toInt * 115792089237316195423570985008687907853269984665640564039457584007913129639936 := by
    rw [← h5, sv16, C16]
  refine ⟨ab.toInt, by omega, by omega, fun k k1 k2 => ?_, ?_, ?_, ?_, ?_, ?_⟩
  · rw [fI_un (by omega)]
    by_cases e : k = 15
    · subst e; rw [fI_us, iz]; omega
    · rw [fI_un e]; exact h1 k (by omega)
  · rw [fI_us, id]; omega
  · rw [fI_us, id]; omega
  · rw [fI_upd, sv_upd (by omega), fI_un (by omega), fI_upd, sv_upd (by omega), id, iz, Int.pow_zero, C15, show sv cB (fI g) 16 = sv cB (fI g) 15 + fI g 15 * 1766847064778384329583297500742918515827483896875618958121606201292619776 from sv16 _, hv, iab]
    have hq := Int.emod_add_mul_ediv (fI g 15) 32768
    generalize fI g 15 / 32768 = q at *
    generalize fI g 15 % 32768 = r at *
    omega
  · rw [hv, iab]; omega
  · rw [hv, iab]; omega
theorem turn_1 {f h : Nat → Int64} (H : TurnP f h) : (∀ k, k < 16 → 0 ≤ fI h k ∧ fI h k < 8796093022208) ∧ cg (sv cB (fI h) 16) (sv cB (fI f) 16) ∧ sv cB (fI h) 16 < 57896044618658097711785492504343953926634992332820282019728792003956564819968 + 20401094656 := by
  obtain ⟨a, a0, a1, h1, h2, h3, h4, h5, h6⟩ := H
  refine ⟨fun k hk => ?_, ⟨-a, by unfold pP; omega⟩, by omega⟩
  by_cases e : k = 0
  · subst e; omega
  · have := h1 k (by omega) hk; omega
theorem turn_2 {f h : Nat → Int64} (H : TurnP f h) (hf : sv cB (fI f) 16 < 57896044618658097711785492504343953926634992332820282019728792003956564819968 + 20401094656) : sv cB (fI h) 16 < 57896044618658097711785492504343953926634992332820282019728792003956564819968 := by
  obtain ⟨a, a0, a1, h1, h2, h3, h4, h5, h6⟩ := H
  have : a ≤ 1 := by omega
  rcases (show a = 0 ∨ a = 1 by omega) with rfl | rfl <;> omega
/-- behind i turns -/
def Jt (f g : Nat → Int64) (i : Nat) : Prop := (∀ k, k < 16 → 0 ≤ fI g k ∧ fI g k < 8796093022208) ∧ cg (sv cB (fI g) 16) (sv cB (fI f) 16) ∧ (1 ≤ i → sv cB (fI g) 16 < 57896044618658097711785492504343953926634992332820282019728792003956564819968 + 20401094656) ∧ (2 ≤ i → sv cB (fI g) 16 < 57896044618658097711785492504343953926634992332820282019728792003956564819968)
theorem Jt_0 {f : Nat → Int64} (h : ∀ k, k < 16 → 0 ≤ fI f k ∧ fI f k < 8796093022208) : Jt f f 0 := ⟨h, cg_refl _, fun h => by omega, fun h => by omega⟩
theorem Jt_s {f g h : Nat → Int64} {i : Nat} (H : Jt f g i) (T : TurnP g h) : Jt f h (i + 1) := by
  obtain ⟨a1, a2, a3, a4⟩ := H
  obtain ⟨b1, b2, b3⟩ := turn_1 T
  exact ⟨b1, cg_trans b2 a2, fun _ => b3, fun q => turn_2 T (a3 (by omega))⟩
theorem Jcar_e {f g : Nat → Int64} {o : Int64} (h : Jcar f g 16 o) (hf : sv cB (fI f) 16 < 57896044618658097711785492504343953926634992332820282019728792003956564819968) : (∀ k, k < 16 → 0 ≤ fI g k ∧ fI g k < cB) ∧ sv cB (fI g) 16 = sv cB (fI f) 16 := by
  obtain ⟨h1, -, h3, h4, h5⟩ := h
  have hn := sv_nn (B := cB) (f := fI g) (by decide) (n := 16) (fun j hj => (h1 j hj).1)
  rw [C16] at h5
  exact ⟨h1, by omega⟩
/-! is it P or more -/
theorem great_gt {s : Nat → Int} {k : Nat} (hs : ∀ j, j < 16 → 0 ≤ s j ∧ s j < cB) (hk : k < 16) (he : ∀ j, k < j → j < 16 → s j = pD j) (hgt : pD k < s k) : pP < sv cB s 16 := by
  have hp := pD_sum
  obtain ⟨r, hr⟩ : ∃ r, 16 = (k + 1) + r := ⟨15 - k, by omega⟩
  rw [hr, sv_split] at hp ⊢
  rw [sv_congr (f := fun j => s (k + 1 + j)) (g := fun j => pD (k + 1 + j)) (fun j hj => he _ (by omega) (by omega)), ← hp]
  have a1 : sv cB pD k < cB ^ k := sv_lt (by decide) (fun j _ => pD_in j)
  have a2 : 0 ≤ sv cB s k := sv_nn (by decide) (fun j hj => (hs j (by omega)).1)
  have a3 := Int.mul_le_mul_of_nonneg_right (show pD k + 1 ≤ s k by omega) (show (0 : Int) ≤ cB ^ k from Int.pow_nonneg (by decide))
  rw [Int.add_mul, Int.one_mul] at a3
  show sv cB pD k + pD k * cB ^ k + _ < sv cB s k + s k * cB ^ k + _
  omega
theorem great_lt {s : Nat → Int} {k : Nat} (hs : ∀ j, j < 16 → 0 ≤ s j ∧ s j < cB) (hk : k < 16) (he : ∀ j, k < j → j < 16 → s j = pD j) (hlt : s k < pD k) : sv cB s 16 < pP := by
  have hp := pD_sum
  obtain ⟨r, hr⟩ : ∃ r, 16 = (k + 1) + r := ⟨15 - k, by omega⟩
  rw [hr, sv_split] at hp ⊢
  rw [sv_congr (f := fun j => s (k + 1 + j)) (g := fun j => pD (k + 1 + j)) (fun j hj => he _ (by omega) (by omega)), ← hp]
  have a1 : sv cB s k < cB ^ k := sv_lt (by decide) (fun j hj => hs j (by omega))
  have a2 : 0 ≤ sv cB pD k := sv_nn (by decide) (fun j _ => (pD_in j).1)
  have a3 := Int.mul_le_mul_of_nonneg_right (show s k + 1 ≤ pD k by omega) (show (0 : Int) ≤ cB ^ k from Int.pow_nonneg (by decide))
  rw [Int.add_mul, Int.one_mul] at a3
  show sv cB s k + s k * cB ^ k + _ < sv cB pD k + pD k * cB ^ k + _
  omega
theorem great_eq {s : Nat → Int} (he : ∀ j, j < 16 → s j = pD j) : sv cB s 16 = pP := by rw [sv_congr he, pD_sum]
/-! digits by number -/
def dd (dg : Nat → Int32) (a k : Nat) : Int := (dg (16 * a + k)).toInt
def dh (dg : Nat → Int32) (a : Nat) (x : Int) : Prop := (∀ k, k < 16 → 0 ≤ dd dg a k ∧ dd dg a k < cB) ∧ sv cB (dd dg a) 16 = x ∧ x < pP
theorem dh_in {dg : Nat → Int32} {a : Nat} {x : Int} (h : dh dg a x) : 0 ≤ x ∧ x < pP := ⟨h.2.1 ▸ sv_nn (by decide) (fun j hj => (h.1 j hj).1), h.2.2⟩
theorem dh_kp {dg dg' : Nat → Int32} {a to : Nat} {x : Int} (h : dh dg a x) (hne : a ≠ to) (hk : ∀ i, i / 16 ≠ to → dg' i = dg i) : dh dg' a x := by
  have e : ∀ k, k < 16 → dd dg' a k = dd dg a k := fun k hk2 => by unfold dd; rw [hk _ (by omega)]
  refine ⟨fun k hk2 => by rw [e k hk2]; exact h.1 k hk2, by rw [sv_congr e]; exact h.2.1, h.2.2⟩
theorem i32_of {z : Int64} (h0 : 0 ≤ z.toInt) (h1 : z.toInt < 65536) : z.toInt32.toInt = z.toInt := by
  rw [Int64.toInt_toInt32]
  exact Int.bmod_eq_of_le (by omega) (by omega)
/-- the last loop of store: digits of what is left -/
def Jst (s : Nat → Int) (gr : Bool) (dg dg' : Nat → Int32) (to i : Nat) (o : Int64) : Prop := (∀ j, j < i → 0 ≤ dd dg' to j ∧ dd dg' to j < cB) ∧ (∀ j, j / 16 ≠ to → dg' j = dg j) ∧ -1 ≤ o.toInt ∧ o.toInt ≤ 0 ∧ sv cB (dd dg' to) i + o.toInt * cB ^ i = sv cB s i - (if gr then sv cB pD i else 0)
theorem Jst_0 (s : Nat → Int) (gr : Bool) (dg : Nat → Int32) (to : Nat) : Jst s gr dg dg to 0 0 := ⟨fun j h => by omega, fun _ _ => rfl, by decide, by decide, by cases gr <;> simp [sv]⟩
theorem upd_s {f : Nat → Int32} {k : Nat} {x : Int32} : upd f k x k = x := pk_us
theorem Jst_s {s : Nat → Int} {gr : Bool} {dg dg' : Nat → Int32} {to i : Nat} {o x y z lf r o' : Int64} {c : Int32} (h : Jst s gr dg dg' to i o) (hi : i < 16) (hs : 0 ≤ s i ∧ s i < cB) (hx : x.toInt = s i) (hy : y.toInt = if gr then pD i else 0) (hz : z = x - y) (hl : lf = z + o) (hr : r = lf &&& 65535) (hc : c = r.toInt32) (ho : o' = lf >>> ((nI 16).toInt64 &&& 63)) : Jst s gr dg (upd dg' (16 * to + i) c) to (i + 1) o' := by
  obtain ⟨h1, h2, h3, h4, h5⟩ := h
  have hB : (cB : Int) = 65536 := rfl
  have hp := pD_in i
  have hy0 : 0 ≤ y.toInt ∧ y.toInt < 65536 := by rw [hy]; split <;> omega
  have iz : z.toInt = s i - y.toInt := by rw [hz, tl_sub (by omega) (by omega), hx]
  have il : lf.toInt = s i - y.toInt + o.toInt := by rw [hl, tl_add (by omega) (by omega), iz]
  have ir : r.toInt = lf.toInt % 65536 := by rw [hr]; exact tl_m16 _
  have io : o'.toInt = lf.toInt / 65536 := by rw [ho]; exact ms16 _
  have ic : c.toInt = lf.toInt % 65536 := by rw [hc, i32_of (by omega) (by omega), ir]
  have dS : dd (upd dg' (16 * to + i) c) to i = c.toInt := by unfold dd; rw [pk_us]
  have dN : ∀ j, j ≠ i → dd (upd dg' (16 * to + i) c) to j = dd dg' to j := fun j hj => by unfold dd; rw [pk_un (by omega)]
  refine ⟨fun j hj => ?_, fun j hj => ?_, by omega, by omega, ?_⟩
  · by_cases e : j = i
    · subst e; rw [dS, ic]; omega
    · rw [dN j e]; exact h1 j (by omega)
  · rw [pk_un (by omega)]; exact h2 j hj
  · show sv cB (dd (upd dg' (16 * to + i) c) to) i + dd (upd dg' (16 * to + i) c) to i * cB ^ i + o'.toInt * cB ^ (i + 1) = sv cB s i + s i * cB ^ i - (if gr then sv cB pD i + pD i * cB ^ i else 0)
    rw [dS, sv_congr (g := dd dg' to) (fun j hj => dN j (by omega)), Int.pow_succ]
    have hd : lf.toInt = 65536 * o'.toInt + c.toInt := by omega
    have e : s i = 65536 * o'.toInt + c.toInt - o.toInt + y.toInt := by omega
    rw [e]
    show _ + _ + o'.toInt * (cB ^ i * 65536) = _
    generalize (cB : Int) ^ i = t at *
    cases gr with
    | true =>
      simp only [if_true] at h5 hy ⊢
      rw [hy]
      grind
    | false =>
      simp only [Bool.false_eq_true, if_false] at h5 hy ⊢
      rw [hy]
      grind
theorem Jst_e {s : Nat → Int} {gr : Bool} {dg dg' : Nat → Int32} {to : Nat} {o : Int64} (h : Jst s gr dg dg' to 16 o) (hs0 : 0 ≤ sv cB s 16) (hs1 : sv cB s 16 < 57896044618658097711785492504343953926634992332820282019728792003956564819968) (hg : gr = true ↔ pP ≤ sv cB s 16) : dh dg' to (sv cB s 16 % pP) := by
  obtain ⟨h1, h2, h3, h4, h5⟩ := h
  have hn := sv_nn (B := cB) (f := dd dg' to) (by decide) (n := 16) (fun j hj => (h1 j hj).1)
  have hl := sv_lt (B := cB) (f := dd dg' to) (by decide) (n := 16) h1
  rw [C16] at h5 hl
  rw [pD_sum] at h5
  have hpv : pP = 57896044618658097711785492504343953926634992332820282019728792003956564819949 := rfl
  refine ⟨h1, ?_, (mod_in _).2⟩
  cases gr with
  | true =>
    have hge := hg.mp rfl
    simp only [if_true] at h5
    have e : sv cB s 16 % pP = sv cB s 16 - pP := by rw [← Int.sub_emod_right, Int.emod_eq_of_lt (by omega) (by omega)]
    rw [e]
    omega
  | false =>
    have hlt : sv cB s 16 < pP := by
      apply Int.lt_of_not_ge
      intro h
      exact absurd (hg.mpr h) (by decide)
    simp only [Bool.false_eq_true, if_false] at h5
    rw [Int.emod_eq_of_lt hs0 hlt]
    omega
