/-! the state of a desk, as numbers: phase ph, steps st, results rs, scalar sc, point pt; the ladder's numbers follow from these -/
def uo (f : Nat → Int64) : Nat := wv f % 57896044618658097711785492504343953926634992332820282019728792003956564819968 % nP
def pb (f : Nat → Int64) (i : Nat) : Bool := if i < 3 then false else if i = 254 then true else (uw (f (i / 64))).testBit (i % 64)
def lad (sc pt : Nat → Int64) : Nat → Int × Int × Int × Int
  | 0 => (1, 0, (uo pt : Int), 1)
  | i + 1 => (wX2 (pb sc (254 - i)) (lad sc pt i).1 (lad sc pt i).2.1 (lad sc pt i).2.2.1 (lad sc pt i).2.2.2 % pP,
      wZ2 (pb sc (254 - i)) (uo pt : Int) (lad sc pt i).1 (lad sc pt i).2.1 (lad sc pt i).2.2.1 (lad sc pt i).2.2.2 % pP,
      wX3 (pb sc (254 - i)) (lad sc pt i).1 (lad sc pt i).2.1 (lad sc pt i).2.2.1 (lad sc pt i).2.2.2 % pP,
      wZ3 (pb sc (254 - i)) (uo pt : Int) (lad sc pt i).1 (lad sc pt i).2.1 (lad sc pt i).2.2.1 (lad sc pt i).2.2.2 % pP)
def res (sc pt : Nat → Int64) : Nat := (((lad sc pt 255).1 * pw (lad sc pt 255).2.1 255) % pP).toNat
theorem uo_lt (f : Nat → Int64) : uo f < nP := Nat.mod_lt _ (by decide)
theorem uo_congr {f g : Nat → Int64} (h : ∀ k, k < 4 → f k = g k) : uo f = uo g := by unfold uo; rw [wv_congr h]
theorem res_int (sc pt : Nat → Int64) : (res sc pt : Int) = ((lad sc pt 255).1 * pw (lad sc pt 255).2.1 255) % pP := Int.toNat_of_nonneg (mod_in _).1
theorem res_lt (sc pt : Nat → Int64) : res sc pt < nP := by
  have h1 := (mod_in ((lad sc pt 255).1 * pw (lad sc pt 255).2.1 255)).2
  have h2 := res_int sc pt
  have h3 := nP_pP
  omega
theorem lad_in (sc pt : Nat → Int64) (i : Nat) : (0 ≤ (lad sc pt i).1 ∧ (lad sc pt i).1 < pP) ∧ (0 ≤ (lad sc pt i).2.1 ∧ (lad sc pt i).2.1 < pP) ∧ (0 ≤ (lad sc pt i).2.2.1 ∧ (lad sc pt i).2.2.1 < pP) ∧ (0 ≤ (lad sc pt i).2.2.2 ∧ (lad sc pt i).2.2.2 < pP) := by
  cases i with
  | zero =>
    have h1 := uo_lt pt
    have h2 := nP_pP
    have a1 : (0 : Int) ≤ 1 ∧ (1 : Int) < pP := by decide
    have a0 : (0 : Int) ≤ 0 ∧ (0 : Int) < pP := by decide
    refine ⟨a1, a0, ⟨?_, ?_⟩, a1⟩
    · show 0 ≤ (uo pt : Int); omega
    · show (uo pt : Int) < pP; omega
  | succ i => exact ⟨mod_in _, mod_in _, mod_in _, mod_in _⟩
/-- a number of the ladder: X2 (0), Z2 (1), X3 (2), Z3 (3), U (4) -/
def lpart (sc pt : Nat → Int64) (st k : Nat) : Int := if k = 0 then (lad sc pt st).1 else if k = 1 then (lad sc pt st).2.1 else if k = 2 then (lad sc pt st).2.2.1 else if k = 3 then (lad sc pt st).2.2.2 else (uo pt : Int)
theorem lpart_in (sc pt : Nat → Int64) (st k : Nat) : 0 ≤ lpart sc pt st k ∧ lpart sc pt st k < pP := by
  obtain ⟨h1, h2, h3, h4⟩ := lad_in sc pt st
  have h5 := uo_lt pt
  have h6 := nP_pP
  unfold lpart
  repeat' split
  · exact h1
  · exact h2
  · exact h3
  · exact h4
  · omega
def cl (f : Nat → Int64) (j : Nat) : Int64 := if j = 0 then f 0 &&& (-8) else if j = 3 then (f 3 &&& 9223372036854775807) ||| 4611686018427387904 else f j
theorem uw_and (x y : Int64) : uw (x &&& y) = uw x &&& uw y := by
  show (x.toBitVec &&& y.toBitVec).toNat = _
  exact BitVec.toNat_and _ _
theorem uw_or (x y : Int64) : uw (x ||| y) = uw x ||| uw y := by
  show (x.toBitVec ||| y.toBitVec).toNat = _
  exact BitVec.toNat_or _ _
theorem b8 : ∀ k, k < 64 → (uw (-8)).testBit k = decide (3 ≤ k) := by decide +kernel
theorem b63 : ∀ k, k < 64 → (uw 9223372036854775807).testBit k = decide (k < 63) := by decide +kernel
theorem b62 : ∀ k, k < 64 → (uw 4611686018427387904).testBit k = decide (k = 62) := by decide +kernel
theorem cl_bit (f : Nat → Int64) {i : Nat} (hi : i ≤ 254) : (uw (cl f (i / 64))).testBit (i % 64) = pb f i := by
  unfold cl pb
  by_cases h0 : i / 64 = 0
  · rw [if_pos h0, uw_and, Nat.testBit_and, b8 _ (by omega), h0]
    by_cases h3 : i < 3
    · rw [if_pos h3, show decide (3 ≤ i % 64) = false from decide_eq_false (by omega), Bool.and_false]
    · rw [if_neg h3, if_neg (by omega), show decide (3 ≤ i % 64) = true from decide_eq_true (by omega), Bool.and_true]
  · rw [if_neg h0]
    by_cases h3 : i / 64 = 3
    · rw [if_pos h3, if_neg (show ¬ i < 3 by omega), uw_or, Nat.testBit_or, uw_and, Nat.testBit_and, b63 _ (by omega), b62 _ (by omega), h3]
      by_cases h4 : i = 254
      · subst h4; simp
      · rw [if_neg h4, show decide (i % 64 = 62) = false from decide_eq_false (by omega), Bool.or_false, show decide (i % 64 < 63) = true from decide_eq_true (by omega), Bool.and_true]
    · rw [if_neg h3, if_neg (show ¬ i < 3 by omega), if_neg (show ¬ i = 254 by omega)]
theorem bit_ne {x v w : Int64} {k : Nat} (hk : k < 64) (hv : v = (x.toUInt64 >>> ((nI k).toInt64.toUInt64 &&& Int64.toUInt64 63)).toInt64) (hw : w = v &&& 1) : (uw x).testBit k = true ↔ ¬ w = 0 := by
  have hx := uw_lt x
  rw [hw, hv, uw_eq x, wb_bit hx hk, uw_of hx, Nat.testBit_eq_decide_div_mod_eq, decide_eq_true_iff]
  have h2 : uw x / 2 ^ k % 2 < 2 := Nat.mod_lt _ (by decide)
  constructor
  · intro h
    rw [h]
    decide
  · intro h
    rcases (show uw x / 2 ^ k % 2 = 0 ∨ uw x / 2 ^ k % 2 = 1 by omega) with h1 | h1
    · rw [h1] at h; exact absurd rfl h
    · exact h1
theorem wv_m63 {f g : Nat → Int64} {y : Int64} (h : ∀ k, k < 3 → g k = f k) (h3 : g 3 = y) (hy : y = f 3 &&& 9223372036854775807) : wv g = wv f % 57896044618658097711785492504343953926634992332820282019728792003956564819968 ∧ uw (g 3) < 9223372036854775808 := by
  have e : uw y = uw (f 3) % 9223372036854775808 := by
    rw [hy]
    exact tl_maskN (f 3) 9223372036854775807 63 (by decide)
  have h0 := uw_lt (f 0)
  have h1 := uw_lt (f 1)
  have h2 := uw_lt (f 2)
  unfold wv
  rw [h 0 (by omega), h 1 (by omega), h 2 (by omega), h3, e]
  omega
/-- the desk's own rows -/
def DW (L : List Nat) (n t : Nat → Nat) (aSC aPT aRS aAN : Nat) : Prop := ((aSC ∈ L ∧ n aSC = 4) ∧ (aPT ∈ L ∧ n aPT = 4) ∧ (aRS ∈ L ∧ n aRS = 4) ∧ (aAN ∈ L ∧ n aAN = 4)) ∧ (t aSC = 15 ∧ t aPT = 16 ∧ t aRS = 17 ∧ t aAN = 18)
/-- what the rows hold -/
def DV (ph st : Nat) (sc pt : Nat → Int64) (q : Nat → Nat → Int64) (aU x2 z2 x3 z3 aSC aPT aRS : Nat) : Prop :=
  (∀ k, k < 4 → q aSC k = sc k) ∧ (∀ k, k < 4 → q aPT k = pt k) ∧ (ph ≠ 0 → holds (q aU) (uo pt) ∧ holds (q x2) (lad sc pt st).1 ∧ holds (q z2) (lad sc pt st).2.1 ∧ holds (q x3) (lad sc pt st).2.2.1 ∧ holds (q z3) (lad sc pt st).2.2.2) ∧ (ph = 2 → wv (q aRS) = res sc pt) ∧ ph ≤ 2 ∧ st ≤ 255 ∧ (ph = 2 → st = 255)
/-- answers -/
def isL (k : Int32) : Bool := decide (0 ≤ k.toInt ∧ k.toInt < 4)
def isP (k : Int32) : Bool := decide (0 ≤ k.toInt ∧ k.toInt < 5)
theorem isL_t {j : Nat} (h : j < 4) : isL (nI j) = true := decide_eq_true (by rw [nI_toInt (by omega)]; omega)
theorem isP_t {j : Nat} (h : j < 5) : isP (nI j) = true := decide_eq_true (by rw [nI_toInt (by omega)]; omega)
theorem in_of {x : Int32} {m : Nat} (h0 : 0 ≤ x.toInt) (h1 : x.toInt < m) (hm : m < 2147483648) : ∃ j : Nat, j < m ∧ x = nI j := by
  refine ⟨x.toInt.toNat, by omega, Int32.toInt_inj.mp ?_⟩
  rw [nI_toInt (by omega)]
  omega
theorem isL_f {k : Int32} (h : ¬ ∃ j : Nat, j < 4 ∧ k = nI j) : isL k = false := decide_eq_false fun ⟨h0, h1⟩ => h (in_of h0 h1 (by omega))
theorem isP_f {k : Int32} (h : ¬ ∃ j : Nat, j < 5 ∧ k = nI j) : isP k = false := decide_eq_false fun ⟨h0, h1⟩ => h (in_of h0 h1 (by omega))
def aTell (ph : Nat) (k : Int32) : Int32 := if ph = 0 ∧ isL k = true then 1 else 0
def sTell (ph : Nat) (k : Int32) (f : Nat → Int64) (v : Int64) : Nat → Int64 := if ph = 0 ∧ isL k = true then vp_updL f k.toNatClampNeg v else f
def aOut (ph : Nat) (sc pt : Nat → Int64) (k : Int32) : Int64 := if ph = 2 ∧ isL k = true then ow (res sc pt) k.toNatClampNeg else 0
def aPart (ph st : Nat) (sc pt : Nat → Int64) (w k : Int32) : Int64 := if ph ≠ 0 ∧ isP w = true ∧ isL k = true then ow (lpart sc pt st w.toNatClampNeg).toNat k.toNatClampNeg else 0
def aTold (sc pt : Nat → Int64) (w k : Int32) : Int64 := if isL k = true then (if w = 0 then sc k.toNatClampNeg else if w = 1 then pt k.toNatClampNeg else if w = 2 then cl sc k.toNatClampNeg else if w = 3 then ow (uo pt) k.toNatClampNeg else 0) else 0
def aCount (ph st : Nat) (rs w : Int32) : Int32 := if w = 0 then (if ph = 0 then 0 else nI st) else if w = 1 then rs else -1
def aCheck (ph : Nat) (sc pt : Nat → Int64) : Int32 := if ph = 2 then (if (lad sc pt 255).2.1 = 0 then (if res sc pt = 0 then 1 else 0) else (if ((res sc pt : Int) * (lad sc pt 255).2.1) % pP = (lad sc pt 255).1 then 1 else 0)) else 1
/-- the steps that a call makes -/
def sStep (ph st : Nat) (k : Int32) : Nat := if ph = 1 ∧ 1 ≤ k.toInt then min (st + k.toInt.toNat) 255 else st
def aStep (ph st : Nat) (k : Int32) : Int32 := if ph = 1 ∧ 1 ≤ k.toInt then nI (255 - sStep ph st k) else -1
