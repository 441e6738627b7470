theorem lv_eq {ls : Array Slot} {k : Nat} {l l' : List (Nat × Value)} (e : l = l') (h : lv_has ls k l) : lv_has ls k l' := e ▸ h
theorem dn_step : ∀ i, i < 254 → nI (253 - i) + Int32.ofInt (-1) = nI 253 - nI (i + 1) := by decide +kernel
theorem uw_nn {x : Int64} (h : 0 ≤ x.toInt) : (uw x : Int) = x.toInt := by
  have a := uw_ti x
  have b := uw_lt x
  split at a <;> omega
theorem settled_congr {f g : Nat → Int64} (h : ∀ j, j < 10 → f j = g j) (H : settled f) : settled g := by
  have e : ∀ j, j < 10 → fI g j = fI f j := fun j hj => by rw [fI_at, fI_at, h j hj]
  refine ⟨by rw [e 0 (by omega)]; exact H.1, fun j h1 hj => by rw [e j hj]; exact H.2 j h1 hj⟩
theorem fv_congr {f g : Nat → Int64} (h : ∀ j, j < 10 → f j = g j) : fv f = fv g := sv_congr (fun j hj => by rw [fI_at, fI_at, h j hj])
theorem jn_a {r : Nat → Nat} {i : Nat} {x y z v : Int64} (hr : ∀ j, j < 10 → r j < 67108864) (hi : i < 10) (hx : x = lN (jw r (i * 26 / 64) i)) (hy : uw y = r i) (hz : z = y <<< ((nI (i * 26 % 64)).toInt64 &&& 63)) (hv : v = x ||| z) : v = lN (jw r (i * 26 / 64) (i + 1)) := by
  have hl := (jw_lt hr hi).1
  have e64 : 18446744073709551616 = 2 ^ (64 - i * 26 % 64) * 2 ^ (i * 26 % 64) := by
    rw [← Nat.pow_add, show 64 - i * 26 % 64 + i * 26 % 64 = 64 by omega]
  have hm : r i * 2 ^ (i * 26 % 64) % 18446744073709551616 = r i % 2 ^ (64 - i * 26 % 64) * 2 ^ (i * 26 % 64) := by
    rw [e64, Nat.mul_mod_mul_right]
  show v = lN (jw r (i * 26 / 64) i + jt r (i * 26 / 64) i)
  rw [jt_a rfl rfl, hv, hx, hz, uw_eq y, hy, wb_shl _ (by omega), wb_mod (r i * 2 ^ (i * 26 % 64)), show (2 : Nat) ^ 64 = 18446744073709551616 from by decide, hm, g_or' (k := i * 26 % 64) rfl hl]
  have h1 : r i % 2 ^ (64 - i * 26 % 64) + 1 ≤ 2 ^ (64 - i * 26 % 64) := Nat.mod_lt _ (Nat.two_pow_pos _)
  have h2 := Nat.mul_le_mul_right (2 ^ (i * 26 % 64)) h1
  rw [← e64, Nat.add_mul, Nat.one_mul] at h2
  show _ < 18446744073709551616
  omega
theorem jn_b {r : Nat → Nat} {i : Nat} {x y z v : Int64} (hr : ∀ j, j < 10 → r j < 67108864) (hi : i < 10) (hc : 64 < i * 26 % 64 + 26) (hx : x = lN (jw r (i * 26 / 64 + 1) i)) (hy : uw y = r i) (hz : z = (y.toUInt64 >>> ((nI (64 - i * 26 % 64)).toInt64.toUInt64 &&& Int64.toUInt64 63)).toInt64) (hv : v = x ||| z) : v = lN (jw r (i * 26 / 64 + 1) (i + 1)) := by
  have hl := (jw_lt hr hi).2
  have hy2 := uw_lt y
  show v = lN (jw r (i * 26 / 64 + 1) i + jt r (i * 26 / 64 + 1) i)
  rw [jt_b rfl hc rfl, hv, hx, hz, hl, uw_eq y, wb_shr (by exact hy2) (by omega), hy, Nat.zero_add]
  rw [hy] at hy2
  rw [wb_or (by decide) (Nat.lt_of_le_of_lt (Nat.div_le_self _ _) hy2), Nat.zero_or]
theorem jw_same {r : Nat → Nat} {k i : Nat} (h : i * 26 / 64 ≠ k) (h2 : i * 26 / 64 + 1 ≠ k ∨ i * 26 % 64 ≤ 38) : jw r k (i + 1) = jw r k i := by
  show jw r k i + jt r k i = _
  rw [jt_c h h2, Nat.add_zero]
theorem jn_s1 {r : Nat → Nat} {g : Nat → Int64} {i : Nat} {y : Int64} (hI : ∀ k, k < 4 → g k = lN (jw r k i)) (hy : y = lN (jw r (i * 26 / 64) (i + 1))) (hc : i * 26 % 64 ≤ 38 ∨ 4 ≤ i * 26 / 64 + 1) : ∀ k, k < 4 → vp_updL g (i * 26 / 64) y k = lN (jw r k (i + 1)) := by
  intro k hk
  unfold vp_updL
  by_cases e : k = i * 26 / 64
  · subst e; rw [if_pos rfl, hy]
  · rw [if_neg e, hI k hk, jw_same (fun q => e q.symm) (by omega)]
theorem jn_s2 {r : Nat → Nat} {g : Nat → Int64} {i : Nat} {y z : Int64} (hI : ∀ k, k < 4 → g k = lN (jw r k i)) (hy : y = lN (jw r (i * 26 / 64) (i + 1))) (hz : z = lN (jw r (i * 26 / 64 + 1) (i + 1))) : ∀ k, k < 4 → vp_updL (vp_updL g (i * 26 / 64) y) (i * 26 / 64 + 1) z k = lN (jw r k (i + 1)) := by
  intro k hk
  unfold vp_updL
  by_cases e : k = i * 26 / 64 + 1
  · subst e; rw [if_pos rfl, hz]
  · rw [if_neg e]
    by_cases e2 : k = i * 26 / 64
    · subst e2; rw [if_pos rfl, hy]
    · rw [if_neg e2, hI k hk, jw_same (fun q => e2 q.symm) (by omega)]
theorem rl_a {f : Nat → Int64} {i : Nat} (h : i * 26 % 64 + 26 ≤ 64 ∨ 4 ≤ i * 26 / 64 + 1) : rl f i = uw (f (i * 26 / 64)) / 2 ^ (i * 26 % 64) % 67108864 := by
  unfold rl
  rw [if_neg (by omega)]
theorem rl_b {f : Nat → Int64} {i : Nat} (h : 64 < i * 26 % 64 + 26) (h2 : i * 26 / 64 + 1 < 4) : rl f i = (uw (f (i * 26 / 64)) / 2 ^ (i * 26 % 64) + (uw (f (i * 26 / 64 + 1)) % 2 ^ (i * 26 % 64)) * 2 ^ (64 - i * 26 % 64)) % 67108864 := by
  unfold rl
  rw [if_pos ⟨h, h2⟩]
theorem rd_s {f g : Nat → Int64} {i : Nat} {y : Int64} (hI : ∀ j, j < i → fI g j = (rl f j : Int)) (hy : y.toInt = (rl f i : Int)) : ∀ j, j < i + 1 → fI (vp_updL g i y) j = (rl f j : Int) := by
  intro j hj
  by_cases e : j = i
  · subst e; rw [fI_us, hy]
  · rw [fI_un e]; exact hI j (by omega)
/-- a number to the power P - 2, bit by bit: bits 254 to 0, all 1 but for bits 4 and 2 -/
def pw (z : Int) : Nat → Int
  | 0 => 1
  | i + 1 => if i = 250 ∨ i = 252 then pw z i * pw z i else pw z i * pw z i * z
theorem pw_1 (z : Int) : pw z 1 = z := by
  show (if 0 = 250 ∨ 0 = 252 then (1 : Int) * 1 else 1 * 1 * z) = z
  rw [if_neg (by omega)]
  omega
theorem pw_a {z : Int} {i : Nat} (h : i = 250 ∨ i = 252) : pw z (i + 1) = pw z i * pw z i := if_pos h
theorem pw_b {z : Int} {i : Nat} (h : ¬ (i = 250 ∨ i = 252)) : pw z (i + 1) = pw z i * pw z i * z := if_neg h
theorem wv_lt255 {f : Nat → Int64} (h : wv f < 57896044618658097711785492504343953926634992332820282019728792003956564819968) : uw (f 3) < 9223372036854775808 := by
  unfold wv at h
  omega
