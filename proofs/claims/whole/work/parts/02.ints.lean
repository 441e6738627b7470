/-! longs as integers: sums, products, shifts and masks, where nothing wraps around -/
theorem tl_add {a b : Int64} (h1 : -9223372036854775808 ≤ a.toInt + b.toInt) (h2 : a.toInt + b.toInt < 9223372036854775808) : (a + b).toInt = a.toInt + b.toInt := by
  rw [Int64.toInt_add]
  exact Int.bmod_eq_of_le (by omega) (by omega)
theorem tl_sub {a b : Int64} (h1 : -9223372036854775808 ≤ a.toInt - b.toInt) (h2 : a.toInt - b.toInt < 9223372036854775808) : (a - b).toInt = a.toInt - b.toInt := by
  rw [Int64.toInt_sub]
  exact Int.bmod_eq_of_le (by omega) (by omega)
theorem tl_mul {a b : Int64} (h1 : -9223372036854775808 ≤ a.toInt * b.toInt) (h2 : a.toInt * b.toInt < 9223372036854775808) : (a * b).toInt = a.toInt * b.toInt := by
  rw [Int64.toInt_mul]
  exact Int.bmod_eq_of_le (by omega) (by omega)
theorem tl_ti (a : Int64) : a.toInt = if a.toBitVec.toNat < 9223372036854775808 then (a.toBitVec.toNat : Int) else (a.toBitVec.toNat : Int) - 18446744073709551616 := by
  show a.toBitVec.toInt = _
  rw [BitVec.toInt_eq_toNat_cond]
  split <;> split <;> omega
theorem tl_maskN (a m : Int64) (k : Nat) (hm : m.toBitVec.toNat = 2 ^ k - 1) : (a &&& m).toBitVec.toNat = a.toBitVec.toNat % 2 ^ k := by
  show (a.toBitVec &&& m.toBitVec).toNat = _
  rw [BitVec.toNat_and, hm, Nat.and_two_pow_sub_one_eq_mod]
theorem tl_m26 (a : Int64) : (a &&& 67108863).toInt = a.toInt % 67108864 := by
  rw [tl_ti (a &&& 67108863), tl_ti a, tl_maskN a _ 26 (by decide)]
  have := a.toBitVec.isLt
  split <;> split <;> omega
theorem tl_m21 (a : Int64) : (a &&& 2097151).toInt = a.toInt % 2097152 := by
  rw [tl_ti (a &&& 2097151), tl_ti a, tl_maskN a _ 21 (by decide)]
  have := a.toBitVec.isLt
  split <;> split <;> omega
theorem tl_m16 (a : Int64) : (a &&& 65535).toInt = a.toInt % 65536 := by
  rw [tl_ti (a &&& 65535), tl_ti a, tl_maskN a _ 16 (by decide)]
  have := a.toBitVec.isLt
  split <;> split <;> omega
theorem tl_m15 (a : Int64) : (a &&& 32767).toInt = a.toInt % 32768 := by
  rw [tl_ti (a &&& 32767), tl_ti a, tl_maskN a _ 15 (by decide)]
  have := a.toBitVec.isLt
  split <;> split <;> omega
theorem tl_shr (a : Int64) (y : Int32) (k : Nat) (hy : ((y.toInt64 &&& 63).toBitVec.smod 64).toNat = k) : (a >>> (y.toInt64 &&& 63)).toInt = a.toInt / ((2 ^ k : Nat) : Int) := by
  show (a.toBitVec.sshiftRight ((y.toInt64 &&& 63).toBitVec.smod 64).toNat).toInt = _
  rw [hy, BitVec.toInt_sshiftRight]
  exact Int.shiftRight_eq_div_pow _ _
theorem tl_s26 (a : Int64) : (a >>> ((26 : Int32).toInt64 &&& 63)).toInt = a.toInt / 67108864 := tl_shr a 26 26 (by decide)
theorem tl_s21 (a : Int64) : (a >>> ((21 : Int32).toInt64 &&& 63)).toInt = a.toInt / 2097152 := tl_shr a 21 21 (by decide)
theorem tl_s16 (a : Int64) : (a >>> ((16 : Int32).toInt64 &&& 63)).toInt = a.toInt / 65536 := tl_shr a 16 16 (by decide)
theorem tl_s15 (a : Int64) : (a >>> ((15 : Int32).toInt64 &&& 63)).toInt = a.toInt / 32768 := tl_shr a 15 15 (by decide)
theorem tl_i2l (x : Int32) : x.toInt64.toInt = x.toInt := Int32.toInt_toInt64 x
/-! sums by places -/
def sv (B : Int) (f : Nat → Int) : Nat → Int
  | 0 => 0
  | n + 1 => sv B f n + f n * B ^ n
def fI (f : Nat → Int64) : Nat → Int := fun j => (f j).toInt
def fJ (f : Nat → Int32) : Nat → Int := fun j => (f j).toInt
theorem fI_upd (f : Nat → Int64) (k : Nat) (x : Int64) : fI (vp_updL f k x) = fun j => if j = k then x.toInt else fI f j := by
  funext j
  unfold fI vp_updL
  split <;> rfl
theorem sv_congr {B : Int} {f g : Nat → Int} : ∀ {n : Nat}, (∀ j, j < n → f j = g j) → sv B f n = sv B g n := by
  intro n
  induction n with
  | zero => intro _; rfl
  | succ n ih =>
    intro h
    show sv B f n + f n * B ^ n = sv B g n + g n * B ^ n
    rw [ih (fun j hj => h j (by omega)), h n (by omega)]
theorem sv_upd {B : Int} {f : Nat → Int} {k : Nat} {x : Int} : ∀ {n : Nat}, k < n → sv B (fun j => if j = k then x else f j) n = sv B f n + (x - f k) * B ^ k := by
  intro n
  induction n with
  | zero => intro h; omega
  | succ n ih =>
    intro h
    show sv B _ n + (if n = k then x else f n) * B ^ n = sv B f n + f n * B ^ n + _
    by_cases hk : n = k
    · subst hk
      rw [if_pos rfl, sv_congr (g := f) (fun j hj => if_neg (by omega)), Int.sub_mul]
      omega
    · rw [if_neg hk, ih (by omega)]
      omega
theorem sv_up {B : Int} {f : Nat → Int} {k n : Nat} {x : Int} (h : n ≤ k) : sv B (fun j => if j = k then x else f j) n = sv B f n := sv_congr (fun j hj => if_neg (by omega))
theorem sv_add {B : Int} {f g : Nat → Int} : ∀ {n : Nat}, sv B (fun j => f j + g j) n = sv B f n + sv B g n := by
  intro n
  induction n with
  | zero => rfl
  | succ n ih =>
    show sv B _ n + (f n + g n) * B ^ n = sv B f n + f n * B ^ n + (sv B g n + g n * B ^ n)
    rw [ih, Int.add_mul]
    omega
theorem sv_mul {B c : Int} {f : Nat → Int} : ∀ {n : Nat}, sv B (fun j => c * f j) n = c * sv B f n := by
  intro n
  induction n with
  | zero => show (0 : Int) = c * 0; omega
  | succ n ih =>
    show sv B _ n + c * f n * B ^ n = c * (sv B f n + f n * B ^ n)
    rw [ih, Int.mul_add, Int.mul_assoc]
theorem sv_split {B : Int} {f : Nat → Int} {m : Nat} : ∀ {n : Nat}, sv B f (m + n) = sv B f m + B ^ m * sv B (fun j => f (m + j)) n := by
  intro n
  induction n with
  | zero => show sv B f m = sv B f m + B ^ m * 0; omega
  | succ n ih =>
    show sv B f (m + n) + f (m + n) * B ^ (m + n) = sv B f m + B ^ m * (sv B _ n + f (m + n) * B ^ n)
    rw [ih, Int.mul_add, Int.pow_add]
    grind
theorem sv_nn {B : Int} {f : Nat → Int} (hB : 0 ≤ B) : ∀ {n : Nat}, (∀ j, j < n → 0 ≤ f j) → 0 ≤ sv B f n := by
  intro n
  induction n with
  | zero => intro _; exact Int.le_refl 0
  | succ n ih =>
    intro h
    show 0 ≤ sv B f n + f n * B ^ n
    have h1 := ih (fun j hj => h j (by omega))
    have h2 := Int.mul_nonneg (h n (by omega)) (show 0 ≤ B ^ n from Int.pow_nonneg hB)
    omega
theorem sv_lt {B : Int} {f : Nat → Int} (hB : 0 < B) : ∀ {n : Nat}, (∀ j, j < n → 0 ≤ f j ∧ f j < B) → sv B f n < B ^ n := by
  intro n
  induction n with
  | zero => intro _; rw [Int.pow_zero]; show (0 : Int) < 1; omega
  | succ n ih =>
    intro h
    show sv B f n + f n * B ^ n < B ^ (n + 1)
    have h1 := ih (fun j hj => h j (by omega))
    have h3 := (h n (by omega)).2
    have h2 := Int.mul_le_mul_of_nonneg_right (show f n ≤ B - 1 by omega) (show 0 ≤ B ^ n from Int.pow_nonneg (Int.le_of_lt hB))
    rw [Int.sub_mul] at h2
    rw [Int.pow_succ, Int.mul_comm (B ^ n) B]
    omega
/-- the places of a number, one by one -/
theorem sv_dig {B : Int} {f : Nat → Int} (hB : 0 < B) : ∀ {n : Nat}, (∀ j, j < n → 0 ≤ f j ∧ f j < B) → ∀ k, k < n → sv B f n / B ^ k % B = f k := by
  intro n h k hk
  obtain ⟨r, rfl⟩ : ∃ r, n = k + (1 + r) := ⟨n - k - 1, by omega⟩
  have hp : (0 : Int) < B ^ k := Int.pow_pos hB
  rw [sv_split, Int.add_mul_ediv_left _ _ (Int.ne_of_gt hp), Int.ediv_eq_zero_of_lt (sv_nn (Int.le_of_lt hB) (fun j hj => (h j (by omega)).1)) (sv_lt hB (fun j hj => h j (by omega))), Int.zero_add, sv_split]
  show ((0 + f (k + 0) * B ^ 0) + B ^ 1 * _) % B = f k
  rw [Int.pow_one, Int.add_mul_emod_self_left]
  have := h k (by omega)
  rw [Int.pow_zero, Int.mul_one, Int.zero_add]
  exact Int.emod_eq_of_lt this.1 this.2
/-! rests by P -/
def pP : Int := 57896044618658097711785492504343953926634992332820282019728792003956564819949
def cg (a b : Int) : Prop := ∃ k : Int, a = b + pP * k
theorem cg_refl (a : Int) : cg a a := ⟨0, by omega⟩
theorem cg_of {a b : Int} (h : a = b) : cg a b := h ▸ cg_refl a
theorem cg_symm {a b : Int} (h : cg a b) : cg b a := by
  obtain ⟨k, rfl⟩ := h
  exact ⟨-k, by rw [Int.mul_neg]; omega⟩
theorem cg_trans {a b d : Int} (h : cg a b) (h2 : cg b d) : cg a d := by
  obtain ⟨k, rfl⟩ := h
  obtain ⟨j, rfl⟩ := h2
  exact ⟨j + k, by rw [Int.mul_add]; omega⟩
theorem cg_add {a b d e : Int} (h : cg a b) (h2 : cg d e) : cg (a + d) (b + e) := by
  obtain ⟨k, rfl⟩ := h
  obtain ⟨j, rfl⟩ := h2
  exact ⟨k + j, by rw [Int.mul_add]; omega⟩
theorem cg_sub {a b d e : Int} (h : cg a b) (h2 : cg d e) : cg (a - d) (b - e) := by
  obtain ⟨k, rfl⟩ := h
  obtain ⟨j, rfl⟩ := h2
  exact ⟨k - j, by rw [Int.mul_sub]; omega⟩
theorem cg_mul {a b d e : Int} (h : cg a b) (h2 : cg d e) : cg (a * d) (b * e) := by
  obtain ⟨k, rfl⟩ := h
  obtain ⟨j, rfl⟩ := h2
  exact ⟨k * e + b * j + pP * k * j, by grind⟩
theorem cg_mod (a : Int) : cg (a % pP) a := ⟨-(a / pP), by have := Int.emod_add_mul_ediv a pP; rw [Int.mul_neg]; omega⟩
theorem cg_emod {a b : Int} (h : cg a b) : a % pP = b % pP := by
  obtain ⟨k, rfl⟩ := h
  exact Int.add_mul_emod_self_left _ _ _
theorem cg_eq {a b : Int} (h : cg a b) (h0 : 0 ≤ a) (h1 : a < pP) (h2 : 0 ≤ b) (h3 : b < pP) : a = b := by
  have := cg_emod h
  rw [Int.emod_eq_of_lt h0 h1, Int.emod_eq_of_lt h2 h3] at this
  exact this
theorem mod_in (a : Int) : 0 ≤ a % pP ∧ a % pP < pP := ⟨Int.emod_nonneg _ (by decide), Int.emod_lt_of_pos _ (by decide)⟩
