/-- the number a stands for e, by its rest -/
def dc (dg : Nat → Int32) (a : Nat) (e : Int) : Prop := dh dg a (e % pP)
theorem dc_of {dg : Nat → Int32} {a : Nat} {x : Int} (h : dh dg a x) : dc dg a x := by
  unfold dc
  rw [Int.emod_eq_of_lt (dh_in h).1 (dh_in h).2]
  exact h
theorem dc_kp {dg dg' : Nat → Int32} {a to : Nat} {x : Int} (h : dc dg a x) (hne : a ≠ to) (hk : ∀ i, i / 16 ≠ to → dg' i = dg i) : dc dg' a x := dh_kp h hne hk
theorem dc_cg {dg : Nat → Int32} {a : Nat} {x y : Int} (h : dc dg a x) (e : cg x y) : dc dg a y := by
  unfold dc
  rw [← cg_emod e]
  exact h
theorem dc_mod {dg : Nat → Int32} {a : Nat} {x : Int} (h : dc dg a x) : dc dg a (x % pP) := dc_cg h (cg_symm (cg_mod x))
/-- digits by the number -/
theorem dd_of {dg : Nat → Int32} {a : Nat} {x : Int} (h : dh dg a x) {k : Nat} (hk : k < 16) : dd dg a k = x / cB ^ k % cB := by
  rw [← h.2.1]
  exact (sv_dig (by decide) h.1 k hk).symm
theorem same_iff {dg : Nat → Int32} {a b : Nat} {x y : Int} (ha : dh dg a x) (hb : dh dg b y) : (∀ k, k < 16 → dd dg a k = dd dg b k) ↔ x = y := by
  constructor
  · intro h
    rw [← ha.2.1, ← hb.2.1]
    exact sv_congr h
  · intro h k hk
    rw [dd_of ha hk, dd_of hb hk, h]
theorem zero_iff {dg : Nat → Int32} {a : Nat} {x : Int} (ha : dh dg a x) : (∀ k, k < 16 → dd dg a k = 0) ↔ x = 0 := by
  constructor
  · intro h
    rw [← ha.2.1]
    exact sv_0c h
  · intro h k hk
    rw [dd_of ha hk, h]
    simp
theorem sm_dh {dg : Nat → Int32} {to : Nat} {v : Int32} (h : ∀ k, k < 16 → dg (16 * to + k) = if k = 0 then v else 0) (hv : 0 ≤ v.toInt ∧ v.toInt < 65536) : dc dg to v.toInt := by
  apply dc_of
  have e : ∀ k, k < 16 → dd dg to k = if k = 0 then v.toInt else 0 := fun k hk => by
    unfold dd
    rw [h k hk]
    split
    · rfl
    · rfl
  refine ⟨fun k hk => ?_, ?_, ?_⟩
  · rw [e k hk]
    have hB : (cB : Int) = 65536 := rfl
    split <;> omega
  · rw [sv_congr e]
    simp [sv]
  · have hpv : pP = 57896044618658097711785492504343953926634992332820282019728792003956564819949 := rfl
    omega
/-! one bit by an arithmetic shift -/
theorem sbit {x v w : Int64} {s : Nat} (hs : s < 64) (hv : v = x >>> ((nI s).toInt64 &&& 63)) (hw : w = v &&& 1) : (uw x).testBit s = true ↔ w = 1 := by
  have hb : v.toBitVec = x.toBitVec.sshiftRight s := by
    rw [hv, wb_c s hs]
    show x.toBitVec.sshiftRight ((lN s).toBitVec.smod 64).toNat = _
    rw [wb_tb, wb_sm s hs, BitVec.toNat_ofNat, Nat.mod_eq_of_lt (by omega)]
  have h1 : (uw v).testBit 0 = (uw x).testBit s := by
    show v.toBitVec.getLsbD 0 = x.toBitVec.getLsbD s
    rw [hb, BitVec.getLsbD_sshiftRight]
    simp [hs]
  have h2 : uw w = uw v % 2 := by
    rw [hw]
    exact tl_maskN v 1 1 (by decide)
  rw [← h1, Nat.testBit_zero, decide_eq_true_iff]
  constructor
  · intro h
    apply uw_inj
    rw [h2, h]
    decide
  · intro h
    rw [← h2, h]
    decide
/-! digits out of words -/
theorem lN_m16 {n : Nat} (hn : n < 18446744073709551616) : (lN n &&& 65535).toInt = ((n % 65536 : Nat) : Int) := by
  rw [show (65535 : Int64) = lN (2 ^ 16 - 1) from by decide, wb_mask (by omega) (by omega), uw_ls (by omega)]
theorem rd_16 {x v w : Int64} {sh : Nat} (hsh : sh < 64) (hv : v = (x.toUInt64 >>> ((nI sh).toInt64.toUInt64 &&& Int64.toUInt64 63)).toInt64) (hw : w = v &&& 65535) : w.toInt = ((uw x / 2 ^ sh % 65536 : Nat) : Int) := by
  have hx := uw_lt x
  rw [hw, hv, uw_eq x, wb_shr (by omega) hsh, uw_of hx, lN_m16 (Nat.lt_of_le_of_lt (Nat.div_le_self _ _) hx)]
theorem svx (f : Nat → Int) : sv cB f 16 = f 0 + f 1 * 65536 + f 2 * 4294967296 + f 3 * 281474976710656 + f 4 * 18446744073709551616 + f 5 * 1208925819614629174706176 + f 6 * 79228162514264337593543950336 + f 7 * 5192296858534827628530496329220096 + f 8 * 340282366920938463463374607431768211456 + f 9 * 22300745198530623141535718272648361505980416 + f 10 * 1461501637330902918203684832716283019655932542976 + f 11 * 95780971304118053647396689196894323976171195136475136 + f 12 * 6277101735386680763835789423207666416102355444464034512896 + f 13 * 411376139330301510538742295639337626245683966408394965837152256 + f 14 * 26959946667150639794667015087019630673637144422540572481103610249216 + f 15 * 1766847064778384329583297500742918515827483896875618958121606201292619776 := by
  simp [sv, cB]
theorem word4 {w : Nat} (h : w < 18446744073709551616) : w % 65536 + w / 65536 % 65536 * 65536 + w / 4294967296 % 65536 * 4294967296 + w / 281474976710656 % 65536 * 281474976710656 = w := by omega
theorem word4t {w : Nat} (h : w < 18446744073709551616) : w % 65536 + w / 65536 % 65536 * 65536 + w / 4294967296 % 65536 * 4294967296 + w / 281474976710656 % 32768 * 281474976710656 = w % 9223372036854775808 := by omega
theorem makeU_sum {f : Nat → Int64} {t : Nat → Int64} {z : Int64} (ht : ∀ k, k < 16 → fI t k = ((uw (f (k / 4)) / 2 ^ (16 * (k % 4)) % 65536 : Nat) : Int)) (hz : z = t 15 &&& 32767) : (∀ k, k < 16 → 0 ≤ fI (vp_updL t 15 z) k ∧ fI (vp_updL t 15 z) k < 8796093022208) ∧ sv cB (fI (vp_updL t 15 z)) 16 % pP = (uo f : Int) := by
  have hzi : z.toInt = fI t 15 % 32768 := by rw [hz]; exact tl_m15 _
  have h15 : z.toInt = ((uw (f 3) / 281474976710656 % 32768 : Nat) : Int) := by
    rw [hzi, ht 15 (by omega)]
    show (((uw (f 3) / 281474976710656 % 65536 : Nat) : Int)) % 32768 = _
    omega
  refine ⟨fun k hk => ?_, ?_⟩
  · by_cases e : k = 15
    · subst e; rw [fI_us, h15]; omega
    · rw [fI_un e, ht k hk]; omega
  · have e0 := word4 (uw_lt (f 0))
    have e1 := word4 (uw_lt (f 1))
    have e2 := word4 (uw_lt (f 2))
    have e3 := word4t (uw_lt (f 3))
    have hs : sv cB (fI (vp_updL t 15 z)) 16 = ((uw (f 0) + uw (f 1) * 18446744073709551616 + uw (f 2) * 340282366920938463463374607431768211456 + uw (f 3) % 9223372036854775808 * 6277101735386680763835789423207666416102355444464034512896 : Nat) : Int) := by
      rw [svx, fI_us, fI_un (show (0 : Nat) ≠ 15 by omega), fI_un (show (1 : Nat) ≠ 15 by omega), fI_un (show (2 : Nat) ≠ 15 by omega), fI_un (show (3 : Nat) ≠ 15 by omega), fI_un (show (4 : Nat) ≠ 15 by omega), fI_un (show (5 : Nat) ≠ 15 by omega), fI_un (show (6 : Nat) ≠ 15 by omega), fI_un (show (7 : Nat) ≠ 15 by omega), fI_un (show (8 : Nat) ≠ 15 by omega), fI_un (show (9 : Nat) ≠ 15 by omega), fI_un (show (10 : Nat) ≠ 15 by omega), fI_un (show (11 : Nat) ≠ 15 by omega), fI_un (show (12 : Nat) ≠ 15 by omega), fI_un (show (13 : Nat) ≠ 15 by omega), fI_un (show (14 : Nat) ≠ 15 by omega), h15]
      rw [show fI t 0 = ((uw (f 0) % 65536 : Nat) : Int) from (ht 0 (by omega)).trans (by simp), show fI t 1 = ((uw (f 0) / 65536 % 65536 : Nat) : Int) from ht 1 (by omega), show fI t 2 = ((uw (f 0) / 4294967296 % 65536 : Nat) : Int) from ht 2 (by omega), show fI t 3 = ((uw (f 0) / 281474976710656 % 65536 : Nat) : Int) from ht 3 (by omega)]
      rw [show fI t 4 = ((uw (f 1) % 65536 : Nat) : Int) from (ht 4 (by omega)).trans (by simp), show fI t 5 = ((uw (f 1) / 65536 % 65536 : Nat) : Int) from ht 5 (by omega), show fI t 6 = ((uw (f 1) / 4294967296 % 65536 : Nat) : Int) from ht 6 (by omega), show fI t 7 = ((uw (f 1) / 281474976710656 % 65536 : Nat) : Int) from ht 7 (by omega)]
      rw [show fI t 8 = ((uw (f 2) % 65536 : Nat) : Int) from (ht 8 (by omega)).trans (by simp), show fI t 9 = ((uw (f 2) / 65536 % 65536 : Nat) : Int) from ht 9 (by omega), show fI t 10 = ((uw (f 2) / 4294967296 % 65536 : Nat) : Int) from ht 10 (by omega), show fI t 11 = ((uw (f 2) / 281474976710656 % 65536 : Nat) : Int) from ht 11 (by omega)]
      rw [show fI t 12 = ((uw (f 3) % 65536 : Nat) : Int) from (ht 12 (by omega)).trans (by simp), show fI t 13 = ((uw (f 3) / 65536 % 65536 : Nat) : Int) from ht 13 (by omega), show fI t 14 = ((uw (f 3) / 4294967296 % 65536 : Nat) : Int) from ht 14 (by omega)]
      rw [← e3]
      generalize uw (f 3) % 65536 = a0 at *
      generalize uw (f 3) / 65536 % 65536 = a1 at *
      generalize uw (f 3) / 4294967296 % 65536 = a2 at *
      generalize uw (f 3) / 281474976710656 % 32768 = a3 at *
      generalize hb0 : uw (f 0) % 65536 = b0 at *
      generalize hb1 : uw (f 0) / 65536 % 65536 = b1 at *
      generalize hb2 : uw (f 0) / 4294967296 % 65536 = b2 at *
      generalize hb3 : uw (f 0) / 281474976710656 % 65536 = b3 at *
      generalize hc0 : uw (f 1) % 65536 = c0 at *
      generalize hc1 : uw (f 1) / 65536 % 65536 = c1 at *
      generalize hc2 : uw (f 1) / 4294967296 % 65536 = c2 at *
      generalize hc3 : uw (f 1) / 281474976710656 % 65536 = c3 at *
      generalize hd0 : uw (f 2) % 65536 = d0 at *
      generalize hd1 : uw (f 2) / 65536 % 65536 = d1 at *
      generalize hd2 : uw (f 2) / 4294967296 % 65536 = d2 at *
      generalize hd3 : uw (f 2) / 281474976710656 % 65536 = d3 at *
      clear hb0 hb1 hb2 hb3 hc0 hc1 hc2 hc3 hd0 hd1 hd2 hd3 ht hz hzi h15
      generalize uw (f 0) = w0 at *
      generalize uw (f 1) = w1 at *
      generalize uw (f 2) = w2 at *
      subst e0 e1 e2
      simp only [Int.natCast_add, Int.natCast_mul]
      omega
    have hu : wv f % 57896044618658097711785492504343953926634992332820282019728792003956564819968 = uw (f 0) + uw (f 1) * 18446744073709551616 + uw (f 2) * 340282366920938463463374607431768211456 + uw (f 3) % 9223372036854775808 * 6277101735386680763835789423207666416102355444464034512896 := by
      have a0 := uw_lt (f 0)
      have a1 := uw_lt (f 1)
      have a2 := uw_lt (f 2)
      unfold wv
      omega
    rw [hs, ← hu, ← nP_pP]
    unfold uo
    exact (Int.natCast_emod _ _).symm
/-! words out of digits -/
def la (dg : Nat → Int32) (b : Nat) : Nat → Nat
  | 0 => 0
  | i + 1 => la dg b i * 65536 + (dg (b + (3 - i))).toInt.toNat
theorem la_s {dg : Nat → Int32} {b i : Nat} {v w x y : Int64} {d : Int32} (hv : v = lN (la dg b i)) (hd : d = dg (b + (3 - i))) (h0 : 0 ≤ d.toInt) (hw : w = v * 65536) (hx : x = d.toInt64) (hy : y = w + x) : y = lN (la dg b (i + 1)) := by
  have hx1 : x = lN d.toInt.toNat := by
    apply Int64.toInt_inj.mp
    have := d.toInt_lt
    rw [hx, tl_i2l, uw_ls (by omega)]
    omega
  rw [hy, hw, hv, hx1, show (65536 : Int64) = lN 65536 from rfl, lN_mul, lN_add]
  show _ = lN (la dg b i * 65536 + (dg (b + (3 - i))).toInt.toNat)
  rw [hd]
theorem laE (dg : Nat → Int32) (b : Nat) : la dg b 4 = (dg (b + 0)).toInt.toNat + (dg (b + 1)).toInt.toNat * 65536 + (dg (b + 2)).toInt.toNat * 4294967296 + (dg (b + 3)).toInt.toNat * 281474976710656 := by
  show (((0 * 65536 + (dg (b + 3)).toInt.toNat) * 65536 + (dg (b + 2)).toInt.toNat) * 65536 + (dg (b + 1)).toInt.toNat) * 65536 + (dg (b + 0)).toInt.toNat = _
  omega
theorem la_4 {dg : Nat → Int32} {a k : Nat} {x : Int} (h : dh dg a x) (hk : k < 4) : lN (la dg (16 * a + 4 * k) 4) = ow x.toNat k := by
  have hin := dh_in h
  have hd : ∀ j, j < 16 → (dd dg a j = ((dg (16 * a + j)).toInt.toNat : Int) ∧ (dg (16 * a + j)).toInt.toNat < 65536) := fun j hj => by
    have h1 := h.1 j hj
    have hB : (cB : Int) = 65536 := rfl
    have h2 : dd dg a j = (dg (16 * a + j)).toInt := rfl
    omega
  have hx : x = _ := h.2.1.symm.trans (svx _)
  rw [(hd 0 (by omega)).1, (hd 1 (by omega)).1, (hd 2 (by omega)).1, (hd 3 (by omega)).1, (hd 4 (by omega)).1, (hd 5 (by omega)).1, (hd 6 (by omega)).1, (hd 7 (by omega)).1, (hd 8 (by omega)).1, (hd 9 (by omega)).1, (hd 10 (by omega)).1, (hd 11 (by omega)).1, (hd 12 (by omega)).1, (hd 13 (by omega)).1, (hd 14 (by omega)).1, (hd 15 (by omega)).1] at hx
  have b0 := (hd 0 (by omega)).2
  have b1 := (hd 1 (by omega)).2
  have b2 := (hd 2 (by omega)).2
  have b3 := (hd 3 (by omega)).2
  have b4 := (hd 4 (by omega)).2
  have b5 := (hd 5 (by omega)).2
  have b6 := (hd 6 (by omega)).2
  have b7 := (hd 7 (by omega)).2
  have b8 := (hd 8 (by omega)).2
  have b9 := (hd 9 (by omega)).2
  have b10 := (hd 10 (by omega)).2
  have b11 := (hd 11 (by omega)).2
  have b12 := (hd 12 (by omega)).2
  have b13 := (hd 13 (by omega)).2
  have b14 := (hd 14 (by omega)).2
  have b15 := (hd 15 (by omega)).2
  have wl : ∀ p q r t : Nat, p < 65536 → q < 65536 → r < 65536 → t < 65536 → p + q * 65536 + r * 4294967296 + t * 281474976710656 < 18446744073709551616 := fun p q r t h1 h2 h3 h4 => by omega
  have hx0 : 0 ≤ x := hin.1
  clear hd h hin
  generalize h0e : (dg (16 * a + 0)).toInt.toNat = e0 at *
  generalize h1e : (dg (16 * a + 1)).toInt.toNat = e1 at *
  generalize h2e : (dg (16 * a + 2)).toInt.toNat = e2 at *
  generalize h3e : (dg (16 * a + 3)).toInt.toNat = e3 at *
  generalize h4e : (dg (16 * a + 4)).toInt.toNat = e4 at *
  generalize h5e : (dg (16 * a + 5)).toInt.toNat = e5 at *
  generalize h6e : (dg (16 * a + 6)).toInt.toNat = e6 at *
  generalize h7e : (dg (16 * a + 7)).toInt.toNat = e7 at *
  generalize h8e : (dg (16 * a + 8)).toInt.toNat = e8 at *
  generalize h9e : (dg (16 * a + 9)).toInt.toNat = e9 at *
  generalize h10e : (dg (16 * a + 10)).toInt.toNat = e10 at *
  generalize h11e : (dg (16 * a + 11)).toInt.toNat = e11 at *
  generalize h12e : (dg (16 * a + 12)).toInt.toNat = e12 at *
  generalize h13e : (dg (16 * a + 13)).toInt.toNat = e13 at *
  generalize h14e : (dg (16 * a + 14)).toInt.toNat = e14 at *
  generalize h15e : (dg (16 * a + 15)).toInt.toNat = e15 at *
  have hl := fun k => laE dg (16 * a + 4 * k)
  have u0 := wl e0 e1 e2 e3 b0 b1 b2 b3
  have u1 := wl e4 e5 e6 e7 b4 b5 b6 b7
  have u2 := wl e8 e9 e10 e11 b8 b9 b10 b11
  have u3 := wl e12 e13 e14 e15 b12 b13 b14 b15
  obtain ⟨w0, hw0⟩ : ∃ w, w = e0 + e1 * 65536 + e2 * 4294967296 + e3 * 281474976710656 := ⟨_, rfl⟩
  obtain ⟨w1, hw1⟩ : ∃ w, w = e4 + e5 * 65536 + e6 * 4294967296 + e7 * 281474976710656 := ⟨_, rfl⟩
  obtain ⟨w2, hw2⟩ : ∃ w, w = e8 + e9 * 65536 + e10 * 4294967296 + e11 * 281474976710656 := ⟨_, rfl⟩
  obtain ⟨w3, hw3⟩ : ∃ w, w = e12 + e13 * 65536 + e14 * 4294967296 + e15 * 281474976710656 := ⟨_, rfl⟩
  have hxn : x.toNat = w0 + w1 * 18446744073709551616 + w2 * 340282366920938463463374607431768211456 + w3 * 6277101735386680763835789423207666416102355444464034512896 := by
    clear hl u0 u1 u2 u3 b0 b1 b2 b3 b4 b5 b6 b7 b8 b9 b10 b11 b12 b13 b14 b15 wl
    omega
  rw [← hw0] at u0
  rw [← hw1] at u1
  rw [← hw2] at u2
  rw [← hw3] at u3
  unfold ow
  rw [wb_mod (x.toNat / 18446744073709551616 ^ k), hxn]
  clear hx hxn b0 b1 b2 b3 b4 b5 b6 b7 b8 b9 b10 b11 b12 b13 b14 b15 wl hx0
  congr 1
  rcases (show k = 0 ∨ k = 1 ∨ k = 2 ∨ k = 3 by omega) with rfl | rfl | rfl | rfl
  · rw [hl 0]
    show (dg (16 * a + 0)).toInt.toNat + (dg (16 * a + 1)).toInt.toNat * 65536 + (dg (16 * a + 2)).toInt.toNat * 4294967296 + (dg (16 * a + 3)).toInt.toNat * 281474976710656 = _
    rw [h0e, h1e, h2e, h3e, ← hw0]
    clear hw0 hw1 hw2 hw3
    omega
  · rw [hl 1]
    show (dg (16 * a + 4)).toInt.toNat + (dg (16 * a + 5)).toInt.toNat * 65536 + (dg (16 * a + 6)).toInt.toNat * 4294967296 + (dg (16 * a + 7)).toInt.toNat * 281474976710656 = _
    rw [h4e, h5e, h6e, h7e, ← hw1]
    clear hw0 hw1 hw2 hw3
    omega
  · rw [hl 2]
    show (dg (16 * a + 8)).toInt.toNat + (dg (16 * a + 9)).toInt.toNat * 65536 + (dg (16 * a + 10)).toInt.toNat * 4294967296 + (dg (16 * a + 11)).toInt.toNat * 281474976710656 = _
    rw [h8e, h9e, h10e, h11e, ← hw2]
    clear hw0 hw1 hw2 hw3
    omega
  · rw [hl 3]
    show (dg (16 * a + 12)).toInt.toNat + (dg (16 * a + 13)).toInt.toNat * 65536 + (dg (16 * a + 14)).toInt.toNat * 4294967296 + (dg (16 * a + 15)).toInt.toNat * 281474976710656 = _
    rw [h12e, h13e, h14e, h15e, ← hw3]
    clear hw0 hw1 hw2 hw3
    omega
