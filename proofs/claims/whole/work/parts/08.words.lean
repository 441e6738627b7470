/-! ===== lN n to 2^64: shifts, and, or, masks, one bit ===== -/
theorem wb_tb (n : Nat) : (lN n).toBitVec = BitVec.ofNat 64 n := rfl
theorem wb_inj {a b : Int64} (h : a.toBitVec = b.toBitVec) : a = b := Int64.toBitVec_inj.mp h
theorem wb_tn {n : Nat} (h : n < 2 ^ 64) : (lN n).toBitVec.toNat = n := by rw [wb_tb, BitVec.toNat_ofNat, Nat.mod_eq_of_lt h]
theorem wb_of (x : Int64) : ∃ n, n < 2 ^ 64 ∧ x = lN n := ⟨x.toBitVec.toNat, x.toBitVec.isLt, wb_inj (by rw [wb_tb]; simp)⟩
theorem wb_of32 (x : Int32) : ∃ n, n < 2 ^ 32 ∧ x = nI n := ⟨x.toBitVec.toNat, x.toBitVec.isLt, Int32.toBitVec_inj.mp (by show _ = BitVec.ofNat 32 _; simp)⟩
theorem wb_c : ∀ k, k < 64 → ((nI k).toInt64 &&& 63) = lN k := by decide +kernel
theorem wb_cu : ∀ k, k < 64 → ((nI k).toInt64.toUInt64 &&& Int64.toUInt64 63) = UInt64.ofNat k := by decide +kernel
theorem wb_sm : ∀ k, k < 64 → (BitVec.ofNat 64 k).smod 64 = BitVec.ofNat 64 k := by decide +kernel
theorem wb_pw {a b : Nat} (h : a ≤ b) : 2 ^ b = 2 ^ a * 2 ^ (b - a) := by rw [← Nat.pow_add]; congr 1; omega
theorem wb_lt2 {a b : Nat} (h : a < b) : 2 ^ a < 2 ^ b := Nat.pow_lt_pow_right (by decide) h
theorem wb_mod (n : Nat) : lN n = lN (n % 2 ^ 64) := wb_inj (by rw [wb_tb, wb_tb]; apply BitVec.eq_of_toNat_eq; rw [BitVec.toNat_ofNat, BitVec.toNat_ofNat, Nat.mod_mod])
theorem wb_shr {n k : Nat} (hn : n < 2 ^ 64) (hk : k < 64) : ((lN n).toUInt64 >>> ((nI k).toInt64.toUInt64 &&& Int64.toUInt64 63)).toInt64 = lN (n / 2 ^ k) := by
  rw [wb_cu k hk]
  apply wb_inj
  apply BitVec.eq_of_toNat_eq
  show ((lN n).toUInt64 >>> UInt64.ofNat k).toNat = (BitVec.ofNat 64 _).toNat
  have h1 : (UInt64.ofNat k).toNat = k := by
    show (BitVec.ofNat 64 k).toNat = k
    rw [BitVec.toNat_ofNat, Nat.mod_eq_of_lt (by omega)]
  have h2 : (lN n).toUInt64.toNat = n := wb_tn hn
  rw [UInt64.toNat_shiftRight, h1, h2, Nat.mod_eq_of_lt hk, Nat.shiftRight_eq_div_pow, BitVec.toNat_ofNat, Nat.mod_eq_of_lt (Nat.lt_of_le_of_lt (Nat.div_le_self _ _) hn)]
theorem wb_shl (n : Nat) {k : Nat} (hk : k < 64) : lN n <<< ((nI k).toInt64 &&& 63) = lN (n * 2 ^ k) := by
  rw [wb_c k hk]
  apply wb_inj
  rw [Int64.toBitVec_shiftLeft, wb_tb, wb_tb, wb_tb, wb_sm k hk]
  apply BitVec.eq_of_toNat_eq
  rw [BitVec.shiftLeft_eq', BitVec.toNat_shiftLeft, BitVec.toNat_ofNat, BitVec.toNat_ofNat, BitVec.toNat_ofNat, Nat.mod_eq_of_lt (show k < 2 ^ 64 by omega), Nat.shiftLeft_eq, Nat.mul_mod, Nat.mod_mod, ← Nat.mul_mod]
theorem wb_and {a b : Nat} (ha : a < 2 ^ 64) (hb : b < 2 ^ 64) : lN a &&& lN b = lN (a &&& b) := by
  apply wb_inj
  rw [Int64.toBitVec_and, wb_tb, wb_tb, wb_tb]
  apply BitVec.eq_of_toNat_eq
  rw [BitVec.toNat_and, BitVec.toNat_ofNat, BitVec.toNat_ofNat, BitVec.toNat_ofNat, Nat.mod_eq_of_lt ha, Nat.mod_eq_of_lt hb, Nat.mod_eq_of_lt (Nat.and_lt_two_pow _ hb)]
theorem wb_or {a b : Nat} (ha : a < 2 ^ 64) (hb : b < 2 ^ 64) : lN a ||| lN b = lN (a ||| b) := by
  apply wb_inj
  rw [Int64.toBitVec_or, wb_tb, wb_tb, wb_tb]
  apply BitVec.eq_of_toNat_eq
  rw [BitVec.toNat_or, BitVec.toNat_ofNat, BitVec.toNat_ofNat, BitVec.toNat_ofNat, Nat.mod_eq_of_lt ha, Nat.mod_eq_of_lt hb, Nat.mod_eq_of_lt (Nat.or_lt_two_pow ha hb)]
theorem wb_mask {n k : Nat} (hn : n < 2 ^ 64) (hk : k < 64) : lN n &&& lN (2 ^ k - 1) = lN (n % 2 ^ k) := by
  rw [wb_and hn (by have := wb_lt2 hk; omega), Nat.and_two_pow_sub_one_eq_mod]
theorem wb_a1 {n : Nat} (hn : n < 2 ^ 64) : lN n &&& 1 = lN (n % 2) := wb_mask (k := 1) hn (by decide)
theorem wb_bit {n k : Nat} (hn : n < 2 ^ 64) (hk : k < 64) : ((lN n).toUInt64 >>> ((nI k).toInt64.toUInt64 &&& Int64.toUInt64 63)).toInt64 &&& 1 = lN (n / 2 ^ k % 2) := by
  rw [wb_shr hn hk, wb_a1 (Nat.lt_of_le_of_lt (Nat.div_le_self _ _) hn)]
/-! ===== lN: masks, 'or' of parts that don't overlap is a sum ===== -/
theorem u_tn {n : Nat} (h : n < 2 ^ 64) : (UInt64.ofNat n).toNat = n := Nat.mod_eq_of_lt h
theorem g_and {a b c : Nat} (ha : a < 2 ^ 64) (hb : b < 2 ^ 64) (hc : a &&& b = c) : lN a &&& lN b = lN c := by
  subst hc
  have h : UInt64.ofNat a &&& UInt64.ofNat b = UInt64.ofNat (a &&& b) := UInt64.toNat_inj.mp (by rw [UInt64.toNat_and, u_tn ha, u_tn hb, u_tn (Nat.and_lt_two_pow a hb)])
  have h2 := congrArg UInt64.toInt64 h
  exact h2
theorem g_and1 {a : Nat} (ha : a < 2 ^ 64) : lN a &&& 1 = lN (a % 2) := g_and (b := 1) ha (by decide) (Nat.and_two_pow_sub_one_eq_mod a 1)
theorem g_mask {a s p : Nat} (hp : 2 ^ s = p) (hs : s < 64) (ha : a < 2 ^ 64) : lN a &&& lN (p - 1) = lN (a % p) := by
  subst hp
  have := Nat.pow_lt_pow_right (show 1 < 2 by decide) hs
  exact g_and ha (by omega) (Nat.and_two_pow_sub_one_eq_mod a s)
theorem g_or {k p a b : Nat} (hp : 2 ^ k = p) (ha : a < p) (h : b * p + a < 2 ^ 64) : lN (b * p) ||| lN a = lN (b * p + a) := by
  subst hp
  have h1 : b * 2 ^ k ||| a = b * 2 ^ k + a := by rw [← Nat.shiftLeft_eq, Nat.shiftLeft_add_eq_or_of_lt ha]
  have h3 : UInt64.ofNat (b * 2 ^ k) ||| UInt64.ofNat a = UInt64.ofNat (b * 2 ^ k + a) := UInt64.toNat_inj.mp (by rw [UInt64.toNat_or, u_tn (by omega), u_tn (by omega), u_tn h, h1])
  have h2 := congrArg UInt64.toInt64 h3
  exact h2
theorem g_or' {k p a b : Nat} (hp : 2 ^ k = p) (ha : a < p) (h : a + b * p < 2 ^ 64) : lN a ||| lN (b * p) = lN (a + b * p) := by
  rw [Int64.or_comm, g_or hp ha (by omega), Nat.add_comm]
/-! four longs as a number -/
def uw (x : Int64) : Nat := x.toBitVec.toNat
theorem uw_lt (x : Int64) : uw x < 18446744073709551616 := x.toBitVec.isLt
theorem uw_eq (x : Int64) : x = lN (uw x) := by
  obtain ⟨n, hn, e⟩ := wb_of x
  subst e
  unfold uw
  rw [wb_tn hn]
theorem uw_of {n : Nat} (h : n < 18446744073709551616) : uw (lN n) = n := wb_tn h
theorem uw_inj {x y : Int64} (h : uw x = uw y) : x = y := by rw [uw_eq x, uw_eq y, h]
theorem uw_ti (x : Int64) : x.toInt = if uw x < 9223372036854775808 then (uw x : Int) else (uw x : Int) - 18446744073709551616 := tl_ti x
theorem uw_ls {n : Nat} (h : n < 9223372036854775808) : (lN n).toInt = (n : Int) := pk_lT h
def wv (f : Nat → Int64) : Nat := uw (f 0) + uw (f 1) * 18446744073709551616 + uw (f 2) * 340282366920938463463374607431768211456 + uw (f 3) * 6277101735386680763835789423207666416102355444464034512896
def ow (x k : Nat) : Int64 := lN (x / 18446744073709551616 ^ k)
theorem ow_wv (f : Nat → Int64) {k : Nat} (hk : k < 4) : f k = ow (wv f) k := by
  have h0 := uw_lt (f 0)
  have h1 := uw_lt (f 1)
  have h2 := uw_lt (f 2)
  have h3 := uw_lt (f 3)
  unfold ow wv
  rw [wb_mod]
  rcases (show k = 0 ∨ k = 1 ∨ k = 2 ∨ k = 3 by omega) with rfl | rfl | rfl | rfl
  · rw [uw_eq (f 0)]; congr 1; rw [uw_of h0]; omega
  · rw [uw_eq (f 1)]; congr 1; rw [uw_of h1]; omega
  · rw [uw_eq (f 2)]; congr 1; rw [uw_of h2]; omega
  · rw [uw_eq (f 3)]; congr 1; rw [uw_of h3]; omega
theorem wv_congr {f g : Nat → Int64} (h : ∀ k, k < 4 → f k = g k) : wv f = wv g := by
  unfold wv
  rw [h 0 (by omega), h 1 (by omega), h 2 (by omega), h 3 (by omega)]
theorem wv_ow {x : Nat} (hx : x < 115792089237316195423570985008687907853269984665640564039457584007913129639936) : wv (ow x) = x := by
  have e : ∀ k, uw (ow x k) = x / 18446744073709551616 ^ k % 18446744073709551616 := fun k => by
    unfold ow
    rw [wb_mod, uw_of (Nat.mod_lt _ (by decide))]
  unfold wv
  rw [e 0, e 1, e 2, e 3]
  omega
/-! limbs out of words -/
def rl (f : Nat → Int64) (i : Nat) : Nat := if 64 < i * 26 % 64 + 26 ∧ i * 26 / 64 + 1 < 4 then (uw (f (i * 26 / 64)) / 2 ^ (i * 26 % 64) + (uw (f (i * 26 / 64 + 1)) % 2 ^ (i * 26 % 64)) * 2 ^ (64 - i * 26 % 64)) % 67108864 else uw (f (i * 26 / 64)) / 2 ^ (i * 26 % 64) % 67108864
theorem lN_m26 {n : Nat} (hn : n < 18446744073709551616) : (lN n &&& 67108863).toInt = ((n % 67108864 : Nat) : Int) := by
  rw [show (67108863 : Int64) = lN (2 ^ 26 - 1) from by decide, wb_mask (by omega) (by omega), uw_ls (by omega)]
theorem rd_a {x v : Int64} {sh : Nat} (hsh : sh < 64) (hv : v = (x.toUInt64 >>> ((nI sh).toInt64.toUInt64 &&& Int64.toUInt64 63)).toInt64) : (v &&& 67108863).toInt = ((uw x / 2 ^ sh % 67108864 : Nat) : Int) := by
  have hx := uw_lt x
  rw [hv, uw_eq x, wb_shr (by omega) hsh, uw_of hx, lN_m26 (Nat.lt_of_le_of_lt (Nat.div_le_self _ _) hx)]
theorem rd_b {x y v w z : Int64} {sh : Nat} (h0 : 0 < sh) (hsh : sh < 64) (hv : v = (x.toUInt64 >>> ((nI sh).toInt64.toUInt64 &&& Int64.toUInt64 63)).toInt64) (hw : w = y <<< ((nI (64 - sh)).toInt64 &&& 63)) (hz : z = v ||| w) : (z &&& 67108863).toInt = (((uw x / 2 ^ sh + (uw y % 2 ^ sh) * 2 ^ (64 - sh)) % 67108864 : Nat) : Int) := by
  have hx := uw_lt x
  have e64 : 2 ^ 64 = 2 ^ sh * 2 ^ (64 - sh) := wb_pw (by omega)
  have hv1 : v = lN (uw x / 2 ^ sh) := by rw [hv, uw_eq x, wb_shr (by omega) hsh, uw_of hx]
  have hw1 : w = lN (uw y % 2 ^ sh * 2 ^ (64 - sh)) := by
    rw [hw, uw_eq y, wb_shl _ (by omega), wb_mod, e64, Nat.mul_mod_mul_right, uw_of (uw_lt y)]
  have hp : 0 < 2 ^ sh := Nat.two_pow_pos sh
  have ha : uw x / 2 ^ sh < 2 ^ (64 - sh) := by
    rw [Nat.div_lt_iff_lt_mul hp, Nat.mul_comm, ← e64]
    exact hx
  have hb : uw y % 2 ^ sh < 2 ^ sh := Nat.mod_lt _ hp
  have hs : uw x / 2 ^ sh + uw y % 2 ^ sh * 2 ^ (64 - sh) < 2 ^ 64 := by
    have : (uw y % 2 ^ sh + 1) * 2 ^ (64 - sh) ≤ 2 ^ sh * 2 ^ (64 - sh) := Nat.mul_le_mul_right _ hb
    rw [Nat.add_mul, Nat.one_mul, ← e64] at this
    omega
  rw [hz, hv1, hw1, g_or' (k := 64 - sh) rfl ha hs, lN_m26 hs]
theorem rl_lt (f : Nat → Int64) (i : Nat) : rl f i < 67108864 := by
  unfold rl
  split <;> exact Nat.mod_lt _ (by decide)
theorem read_fold {f t : Nat → Int64} (h3 : uw (f 3) < 9223372036854775808) (ht : ∀ j, j < 10 → fI t j = (rl f j : Int)) : settled t ∧ fv t = (wv f : Int) := by
  refine ⟨⟨?_, fun j _ hj => ?_⟩, ?_⟩
  · have := rl_lt f 0
    rw [ht 0 (by omega)]
    omega
  · have := rl_lt f j
    rw [ht j hj]
    omega
  · have h0 := uw_lt (f 0)
    have h1 := uw_lt (f 1)
    have h2 := uw_lt (f 2)
    unfold fv wv
    rw [sv10, ht 0 (by omega), ht 1 (by omega), ht 2 (by omega), ht 3 (by omega), ht 4 (by omega), ht 5 (by omega), ht 6 (by omega), ht 7 (by omega), ht 8 (by omega), ht 9 (by omega)]
    simp only [rl, Nat.reduceMul, Nat.reduceMod, Nat.reduceDiv, Nat.reduceAdd, Nat.reduceSub, Nat.reducePow, Nat.reduceLT, and_true, and_false, and_self, if_true, if_false, Nat.reduceLeDiff]
    generalize uw (f 0) = a at *
    generalize uw (f 1) = b at *
    generalize uw (f 2) = c at *
    generalize uw (f 3) = d at *
    omega
/-! words out of limbs -/
def jt (r : Nat → Nat) (k i : Nat) : Nat := if k = i * 26 / 64 then r i * 2 ^ (i * 26 % 64) % 18446744073709551616 else if k = i * 26 / 64 + 1 ∧ 64 < i * 26 % 64 + 26 then r i / 2 ^ (64 - i * 26 % 64) else 0
def jw (r : Nat → Nat) (k : Nat) : Nat → Nat
  | 0 => 0
  | i + 1 => jw r k i + jt r k i
theorem jt_a {r : Nat → Nat} {k i s : Nat} (h : i * 26 / 64 = k) (h2 : i * 26 % 64 = s) : jt r k i = r i * 2 ^ s % 18446744073709551616 := by
  unfold jt
  rw [if_pos h.symm, h2]
theorem jt_b {r : Nat → Nat} {k i s : Nat} (h : i * 26 / 64 + 1 = k) (h1 : 64 < i * 26 % 64 + 26) (h2 : 64 - i * 26 % 64 = s) : jt r k i = r i / 2 ^ s := by
  unfold jt
  rw [if_neg (by omega), if_pos ⟨h.symm, h1⟩, h2]
theorem jt_c {r : Nat → Nat} {k i : Nat} (h : i * 26 / 64 ≠ k) (h2 : i * 26 / 64 + 1 ≠ k ∨ i * 26 % 64 ≤ 38) : jt r k i = 0 := by
  unfold jt
  rw [if_neg (fun e => h e.symm), if_neg (by omega)]
theorem jw_lt {r : Nat → Nat} (hr : ∀ j, j < 10 → r j < 67108864) {i : Nat} (hi : i < 10) : jw r (i * 26 / 64) i < 2 ^ (i * 26 % 64) ∧ jw r (i * 26 / 64 + 1) i = 0 := by
  have h0 := hr 0 (by omega)
  have h1 := hr 1 (by omega)
  have h2 := hr 2 (by omega)
  have h3 := hr 3 (by omega)
  have h4 := hr 4 (by omega)
  have h5 := hr 5 (by omega)
  have h6 := hr 6 (by omega)
  have h7 := hr 7 (by omega)
  have h8 := hr 8 (by omega)
  rcases (show i = 0 ∨ i = 1 ∨ i = 2 ∨ i = 3 ∨ i = 4 ∨ i = 5 ∨ i = 6 ∨ i = 7 ∨ i = 8 ∨ i = 9 by omega) with rfl | rfl | rfl | rfl | rfl | rfl | rfl | rfl | rfl | rfl
  · exact ⟨Nat.one_pos, rfl⟩
  · show jw r 0 1 < 2 ^ 26 ∧ jw r 1 1 = 0
    simp only [jw]
    rw [jt_a (k := 0) (i := 0) (s := 0) (by decide) (by decide), jt_c (k := 1) (i := 0) (by decide) (by decide)]
    omega
  · show jw r 0 2 < 2 ^ 52 ∧ jw r 1 2 = 0
    simp only [jw]
    rw [jt_a (k := 0) (i := 0) (s := 0) (by decide) (by decide), jt_a (k := 0) (i := 1) (s := 26) (by decide) (by decide), jt_c (k := 1) (i := 0) (by decide) (by decide), jt_c (k := 1) (i := 1) (by decide) (by decide)]
    omega
  · show jw r 1 3 < 2 ^ 14 ∧ jw r 2 3 = 0
    simp only [jw]
    rw [jt_c (k := 1) (i := 0) (by decide) (by decide), jt_c (k := 1) (i := 1) (by decide) (by decide), jt_b (k := 1) (i := 2) (s := 12) (by decide) (by decide) (by decide), jt_c (k := 2) (i := 0) (by decide) (by decide), jt_c (k := 2) (i := 1) (by decide) (by decide), jt_c (k := 2) (i := 2) (by decide) (by decide)]
    omega
  · show jw r 1 4 < 2 ^ 40 ∧ jw r 2 4 = 0
    simp only [jw]
    rw [jt_c (k := 1) (i := 0) (by decide) (by decide), jt_c (k := 1) (i := 1) (by decide) (by decide), jt_b (k := 1) (i := 2) (s := 12) (by decide) (by decide) (by decide), jt_a (k := 1) (i := 3) (s := 14) (by decide) (by decide), jt_c (k := 2) (i := 0) (by decide) (by decide), jt_c (k := 2) (i := 1) (by decide) (by decide), jt_c (k := 2) (i := 2) (by decide) (by decide), jt_c (k := 2) (i := 3) (by decide) (by decide)]
    omega
  · show jw r 2 5 < 2 ^ 2 ∧ jw r 3 5 = 0
    simp only [jw]
    rw [jt_c (k := 2) (i := 0) (by decide) (by decide), jt_c (k := 2) (i := 1) (by decide) (by decide), jt_c (k := 2) (i := 2) (by decide) (by decide), jt_c (k := 2) (i := 3) (by decide) (by decide), jt_b (k := 2) (i := 4) (s := 24) (by decide) (by decide) (by decide), jt_c (k := 3) (i := 0) (by decide) (by decide), jt_c (k := 3) (i := 1) (by decide) (by decide), jt_c (k := 3) (i := 2) (by decide) (by decide), jt_c (k := 3) (i := 3) (by decide) (by decide), jt_c (k := 3) (i := 4) (by decide) (by decide)]
    omega
  · show jw r 2 6 < 2 ^ 28 ∧ jw r 3 6 = 0
    simp only [jw]
    rw [jt_c (k := 2) (i := 0) (by decide) (by decide), jt_c (k := 2) (i := 1) (by decide) (by decide), jt_c (k := 2) (i := 2) (by decide) (by decide), jt_c (k := 2) (i := 3) (by decide) (by decide), jt_b (k := 2) (i := 4) (s := 24) (by decide) (by decide) (by decide), jt_a (k := 2) (i := 5) (s := 2) (by decide) (by decide), jt_c (k := 3) (i := 0) (by decide) (by decide), jt_c (k := 3) (i := 1) (by decide) (by decide), jt_c (k := 3) (i := 2) (by decide) (by decide), jt_c (k := 3) (i := 3) (by decide) (by decide), jt_c (k := 3) (i := 4) (by decide) (by decide), jt_c (k := 3) (i := 5) (by decide) (by decide)]
    omega
  · show jw r 2 7 < 2 ^ 54 ∧ jw r 3 7 = 0
    simp only [jw]
    rw [jt_c (k := 2) (i := 0) (by decide) (by decide), jt_c (k := 2) (i := 1) (by decide) (by decide), jt_c (k := 2) (i := 2) (by decide) (by decide), jt_c (k := 2) (i := 3) (by decide) (by decide), jt_b (k := 2) (i := 4) (s := 24) (by decide) (by decide) (by decide), jt_a (k := 2) (i := 5) (s := 2) (by decide) (by decide), jt_a (k := 2) (i := 6) (s := 28) (by decide) (by decide), jt_c (k := 3) (i := 0) (by decide) (by decide), jt_c (k := 3) (i := 1) (by decide) (by decide), jt_c (k := 3) (i := 2) (by decide) (by decide), jt_c (k := 3) (i := 3) (by decide) (by decide), jt_c (k := 3) (i := 4) (by decide) (by decide), jt_c (k := 3) (i := 5) (by decide) (by decide), jt_c (k := 3) (i := 6) (by decide) (by decide)]
    omega
  · show jw r 3 8 < 2 ^ 16 ∧ jw r 4 8 = 0
    simp only [jw]
    rw [jt_c (k := 3) (i := 0) (by decide) (by decide), jt_c (k := 3) (i := 1) (by decide) (by decide), jt_c (k := 3) (i := 2) (by decide) (by decide), jt_c (k := 3) (i := 3) (by decide) (by decide), jt_c (k := 3) (i := 4) (by decide) (by decide), jt_c (k := 3) (i := 5) (by decide) (by decide), jt_c (k := 3) (i := 6) (by decide) (by decide), jt_b (k := 3) (i := 7) (s := 10) (by decide) (by decide) (by decide), jt_c (k := 4) (i := 0) (by decide) (by decide), jt_c (k := 4) (i := 1) (by decide) (by decide), jt_c (k := 4) (i := 2) (by decide) (by decide), jt_c (k := 4) (i := 3) (by decide) (by decide), jt_c (k := 4) (i := 4) (by decide) (by decide), jt_c (k := 4) (i := 5) (by decide) (by decide), jt_c (k := 4) (i := 6) (by decide) (by decide), jt_c (k := 4) (i := 7) (by decide) (by decide)]
    omega
  · show jw r 3 9 < 2 ^ 42 ∧ jw r 4 9 = 0
    simp only [jw]
    rw [jt_c (k := 3) (i := 0) (by decide) (by decide), jt_c (k := 3) (i := 1) (by decide) (by decide), jt_c (k := 3) (i := 2) (by decide) (by decide), jt_c (k := 3) (i := 3) (by decide) (by decide), jt_c (k := 3) (i := 4) (by decide) (by decide), jt_c (k := 3) (i := 5) (by decide) (by decide), jt_c (k := 3) (i := 6) (by decide) (by decide), jt_b (k := 3) (i := 7) (s := 10) (by decide) (by decide) (by decide), jt_a (k := 3) (i := 8) (s := 16) (by decide) (by decide), jt_c (k := 4) (i := 0) (by decide) (by decide), jt_c (k := 4) (i := 1) (by decide) (by decide), jt_c (k := 4) (i := 2) (by decide) (by decide), jt_c (k := 4) (i := 3) (by decide) (by decide), jt_c (k := 4) (i := 4) (by decide) (by decide), jt_c (k := 4) (i := 5) (by decide) (by decide), jt_c (k := 4) (i := 6) (by decide) (by decide), jt_c (k := 4) (i := 7) (by decide) (by decide), jt_c (k := 4) (i := 8) (by decide) (by decide)]
    omega
theorem jw_e0 {r : Nat → Nat} (h0 : r 0 < 67108864) (h1 : r 1 < 67108864) : jw r 0 10 = r 0 + r 1 * 67108864 + r 2 % 4096 * 4503599627370496 := by
  simp only [jw]
  rw [jt_a (k := 0) (i := 0) (s := 0) (by decide) (by decide), jt_a (k := 0) (i := 1) (s := 26) (by decide) (by decide), jt_a (k := 0) (i := 2) (s := 52) (by decide) (by decide), jt_c (k := 0) (i := 3) (by decide) (by decide), jt_c (k := 0) (i := 4) (by decide) (by decide), jt_c (k := 0) (i := 5) (by decide) (by decide), jt_c (k := 0) (i := 6) (by decide) (by decide), jt_c (k := 0) (i := 7) (by decide) (by decide), jt_c (k := 0) (i := 8) (by decide) (by decide), jt_c (k := 0) (i := 9) (by decide) (by decide)]
  omega
theorem jw_e1 {r : Nat → Nat} (h2 : r 2 < 67108864) (h3 : r 3 < 67108864) : jw r 1 10 = r 2 / 4096 + r 3 * 16384 + r 4 % 16777216 * 1099511627776 := by
  simp only [jw]
  rw [jt_c (k := 1) (i := 0) (by decide) (by decide), jt_c (k := 1) (i := 1) (by decide) (by decide), jt_b (k := 1) (i := 2) (s := 12) (by decide) (by decide) (by decide), jt_a (k := 1) (i := 3) (s := 14) (by decide) (by decide), jt_a (k := 1) (i := 4) (s := 40) (by decide) (by decide), jt_c (k := 1) (i := 5) (by decide) (by decide), jt_c (k := 1) (i := 6) (by decide) (by decide), jt_c (k := 1) (i := 7) (by decide) (by decide), jt_c (k := 1) (i := 8) (by decide) (by decide), jt_c (k := 1) (i := 9) (by decide) (by decide)]
  omega
theorem jw_e2 {r : Nat → Nat} (h4 : r 4 < 67108864) (h5 : r 5 < 67108864) (h6 : r 6 < 67108864) : jw r 2 10 = r 4 / 16777216 + r 5 * 4 + r 6 * 268435456 + r 7 % 1024 * 18014398509481984 := by
  simp only [jw]
  rw [jt_c (k := 2) (i := 0) (by decide) (by decide), jt_c (k := 2) (i := 1) (by decide) (by decide), jt_c (k := 2) (i := 2) (by decide) (by decide), jt_c (k := 2) (i := 3) (by decide) (by decide), jt_b (k := 2) (i := 4) (s := 24) (by decide) (by decide) (by decide), jt_a (k := 2) (i := 5) (s := 2) (by decide) (by decide), jt_a (k := 2) (i := 6) (s := 28) (by decide) (by decide), jt_a (k := 2) (i := 7) (s := 54) (by decide) (by decide), jt_c (k := 2) (i := 8) (by decide) (by decide), jt_c (k := 2) (i := 9) (by decide) (by decide)]
  omega
theorem jw_e3 {r : Nat → Nat} (h7 : r 7 < 67108864) (h8 : r 8 < 67108864) (h9 : r 9 < 2097152) : jw r 3 10 = r 7 / 1024 + r 8 * 65536 + r 9 * 4398046511104 := by
  simp only [jw]
  rw [jt_c (k := 3) (i := 0) (by decide) (by decide), jt_c (k := 3) (i := 1) (by decide) (by decide), jt_c (k := 3) (i := 2) (by decide) (by decide), jt_c (k := 3) (i := 3) (by decide) (by decide), jt_c (k := 3) (i := 4) (by decide) (by decide), jt_c (k := 3) (i := 5) (by decide) (by decide), jt_c (k := 3) (i := 6) (by decide) (by decide), jt_b (k := 3) (i := 7) (s := 10) (by decide) (by decide) (by decide), jt_a (k := 3) (i := 8) (s := 16) (by decide) (by decide), jt_a (k := 3) (i := 9) (s := 42) (by decide) (by decide)]
  omega
theorem join_fold {r : Nat → Nat} {w : Nat → Int64} (hr : ∀ j, j < 10 → r j < 67108864) (h9 : r 9 < 2097152) (hw : ∀ k, k < 4 → w k = lN (jw r k 10)) : (wv w : Int) = sv bB (fun j => (r j : Int)) 10 := by
  have h0 := hr 0 (by omega)
  have h1 := hr 1 (by omega)
  have h2 := hr 2 (by omega)
  have h3 := hr 3 (by omega)
  have h4 := hr 4 (by omega)
  have h5 := hr 5 (by omega)
  have h6 := hr 6 (by omega)
  have h7 := hr 7 (by omega)
  have h8 := hr 8 (by omega)
  unfold wv
  rw [sv10, hw 0 (by omega), hw 1 (by omega), hw 2 (by omega), hw 3 (by omega), jw_e0 h0 h1, jw_e1 h2 h3, jw_e2 h4 h5 h6, jw_e3 h7 h8 h9]
  clear hw hr
  generalize r 0 = r0 at *
  generalize r 1 = r1 at *
  generalize r 2 = r2 at *
  generalize r 3 = r3 at *
  generalize r 4 = r4 at *
  generalize r 5 = r5 at *
  generalize r 6 = r6 at *
  generalize r 7 = r7 at *
  generalize r 8 = r8 at *
  generalize r 9 = r9 at *
  rw [uw_of (by omega), uw_of (by omega), uw_of (by omega), uw_of (by omega)]
  have e2 := Nat.mod_add_div r2 4096
  have e4 := Nat.mod_add_div r4 16777216
  have e7 := Nat.mod_add_div r7 1024
  generalize r2 % 4096 = a2 at *
  generalize r2 / 4096 = b2 at *
  generalize r4 % 16777216 = a4 at *
  generalize r4 / 16777216 = b4 at *
  generalize r7 % 1024 = a7 at *
  generalize r7 / 1024 = b7 at *
  clear h0 h1 h2 h3 h4 h5 h6 h7 h8 h9
  subst e2 e4 e7
  simp only [Int.natCast_add, Int.natCast_mul]
  omega
/-! the rest by P of a number less than 2 to the 255 -/
def nP : Nat := 57896044618658097711785492504343953926634992332820282019728792003956564819949
theorem nP_pP : (nP : Int) = pP := by decide
theorem uw_m1 {x : Int64} (h : x = -1) : uw x = 18446744073709551615 := by subst h; decide
theorem rest_hi {f : Nat → Int64} (h3 : f 3 = 9223372036854775807) (h2 : f 2 = -1) (h1 : f 1 = -1) (h0 : ¬ (f 0) < -19) (h00 : f 0 < 0) {y : Int64} (hy : y = f 0 + 19) : wv (fun j => if j = 0 then y else 0) = wv f % nP := by
  have e3 : uw (f 3) = 9223372036854775807 := by rw [h3]; decide
  have a0 : (f 0).toInt < 0 := by
    have := Int64.lt_iff_toInt_lt.mp h00
    rwa [show (0 : Int64).toInt = 0 from by decide] at this
  have a1 : -19 ≤ (f 0).toInt := by
    have := mt Int64.lt_iff_toInt_lt.mpr h0
    rw [show (-19 : Int64).toInt = -19 from by decide] at this
    omega
  have a2 := uw_ti (f 0)
  have a3 := uw_lt (f 0)
  have a4 : (uw (f 0) : Int) = (f 0).toInt + 18446744073709551616 := by
    split at a2 <;> omega
  have hyi : y.toInt = (f 0).toInt + 19 := by
    have e : (19 : Int64).toInt = 19 := by decide
    rw [hy, tl_add (by rw [e]; omega) (by rw [e]; omega), e]
  have b2 := uw_ti y
  have b3 := uw_lt y
  have b4 : (uw y : Int) = (f 0).toInt + 19 := by
    split at b2 <;> omega
  unfold wv nP
  simp only [if_true, Nat.reduceEqDiff, if_false, show uw 0 = 0 from by decide, reduceCtorEq]
  rw [e3, uw_m1 h2, uw_m1 h1]
  omega
theorem rest_lo {f : Nat → Int64} (h : uw (f 3) < 9223372036854775808) (hn : ¬ (f 3 = 9223372036854775807 ∧ f 2 = -1 ∧ f 1 = -1 ∧ ¬ f 0 < -19 ∧ f 0 < 0)) : wv f = wv f % nP := by
  have a0 := uw_lt (f 0)
  have a1 := uw_lt (f 1)
  have a2 := uw_lt (f 2)
  symm
  apply Nat.mod_eq_of_lt
  apply Nat.lt_of_not_le
  intro hle
  apply hn
  have b3 : uw (f 3) = 9223372036854775807 := by unfold wv nP at hle; omega
  have b2 : uw (f 2) = 18446744073709551615 := by unfold wv nP at hle; omega
  have b1 : uw (f 1) = 18446744073709551615 := by unfold wv nP at hle; omega
  have b0 : 18446744073709551597 ≤ uw (f 0) := by unfold wv nP at hle; omega
  have c0 := uw_ti (f 0)
  have c1 : (f 0).toInt = (uw (f 0) : Int) - 18446744073709551616 := by
    split at c0 <;> omega
  refine ⟨uw_inj (by rw [b3]; decide), uw_inj (by rw [b2]; decide), uw_inj (by rw [b1]; decide), ?_, ?_⟩
  · intro q
    have := Int64.lt_iff_toInt_lt.mp q
    rw [show (-19 : Int64).toInt = -19 from by decide] at this
    omega
  · apply Int64.lt_iff_toInt_lt.mpr
    rw [show (0 : Int64).toInt = 0 from by decide]
    omega
theorem cmp_eq {x y : Int64} (h : ¬ ¬ lg_cmp x y = 0) : x = y := by
  have h := Decidable.of_not_not h
  unfold lg_cmp at h
  split at h
  · exact absurd h (by decide)
  · split at h
    · assumption
    · exact absurd h (by decide)
theorem cmp_ne {x y : Int64} (h : ¬ lg_cmp x y = 0) : x ≠ y := fun e => h (by subst e; simp [lg_cmp])
