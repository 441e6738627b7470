/-! one step of the ladder, over the integers (rests by P are taken where a number is kept) -/
def nX2 (x z : Int) : Int := ((x + z) * (x + z)) * ((x - z) * (x - z))
def nE (x z : Int) : Int := (x + z) * (x + z) - (x - z) * (x - z)
def nZ2 (x z : Int) : Int := nE x z * ((x + z) * (x + z) + 121665 * nE x z)
def nDA (x2 z2 x3 z3 : Int) : Int := (x3 - z3) * (x2 + z2)
def nCB (x2 z2 x3 z3 : Int) : Int := (x3 + z3) * (x2 - z2)
def nX3 (x2 z2 x3 z3 : Int) : Int := (nDA x2 z2 x3 z3 + nCB x2 z2 x3 z3) * (nDA x2 z2 x3 z3 + nCB x2 z2 x3 z3)
def nZ3 (u x2 z2 x3 z3 : Int) : Int := u * ((nDA x2 z2 x3 z3 - nCB x2 z2 x3 z3) * (nDA x2 z2 x3 z3 - nCB x2 z2 x3 z3))
def wX2 (b : Bool) (x2 z2 x3 z3 : Int) : Int := if b then nX3 x3 z3 x2 z2 else nX2 x2 z2
def wZ2 (b : Bool) (u x2 z2 x3 z3 : Int) : Int := if b then nZ3 u x3 z3 x2 z2 else nZ2 x2 z2
def wX3 (b : Bool) (x2 z2 x3 z3 : Int) : Int := if b then nX2 x3 z3 else nX3 x2 z2 x3 z3
def wZ3 (b : Bool) (u x2 z2 x3 z3 : Int) : Int := if b then nZ2 x3 z3 else nZ3 u x2 z2 x3 z3
/-- a settled row that stands for v -/
def holds (f : Nat → Int64) (v : Int) : Prop := settled f ∧ cg (fv f) v
theorem holds_mod {f : Nat → Int64} {v : Int} (h : holds f v) : holds f (v % pP) := ⟨h.1, cg_trans h.2 (cg_symm (cg_mod v))⟩
/-- the rows of a ladder: where they lie, how long they are, and that they are apart (by a number t for each) -/
def LW (L : List Nat) (n t : Nat → Nat) (wd wh aU aA aB aC aD aE aAA aBB aDA aCB aSP aLE aRI x2 z2 x3 z3 : Nat) : Prop :=
  ((wd ∈ L ∧ n wd = 20) ∧ (wh ∈ L ∧ n wh = 10) ∧ (aU ∈ L ∧ n aU = 10) ∧ (aA ∈ L ∧ n aA = 10) ∧ (aB ∈ L ∧ n aB = 10) ∧ (aC ∈ L ∧ n aC = 10) ∧ (aD ∈ L ∧ n aD = 10) ∧ (aE ∈ L ∧ n aE = 10) ∧ (aAA ∈ L ∧ n aAA = 10) ∧ (aBB ∈ L ∧ n aBB = 10) ∧ (aDA ∈ L ∧ n aDA = 10) ∧ (aCB ∈ L ∧ n aCB = 10) ∧ (aSP ∈ L ∧ n aSP = 10) ∧ (aLE ∈ L ∧ n aLE = 4) ∧ (aRI ∈ L ∧ n aRI = 4) ∧ (x2 ∈ L ∧ n x2 = 10) ∧ (z2 ∈ L ∧ n z2 = 10) ∧ (x3 ∈ L ∧ n x3 = 10) ∧ (z3 ∈ L ∧ n z3 = 10)) ∧
  (t wd = 0 ∧ t wh = 1 ∧ t aU = 2 ∧ t aA = 3 ∧ t aB = 4 ∧ t aC = 5 ∧ t aD = 6 ∧ t aE = 7 ∧ t aAA = 8 ∧ t aBB = 9 ∧ t aDA = 10 ∧ t aCB = 11 ∧ t aSP = 12 ∧ t aLE = 13 ∧ t aRI = 14 ∧ 20 ≤ t x2 ∧ 20 ≤ t z2 ∧ 20 ≤ t x3 ∧ 20 ≤ t z3) ∧
  (t x2 ≠ t z2 ∧ t x2 ≠ t x3 ∧ t x2 ≠ t z3 ∧ t z2 ≠ t x3 ∧ t z2 ≠ t z3 ∧ t x3 ≠ t z3)
theorem LW_swap {L : List Nat} {n t : Nat → Nat} {wd wh aU aA aB aC aD aE aAA aBB aDA aCB aSP aLE aRI x2 z2 x3 z3 : Nat} (h : LW L n t wd wh aU aA aB aC aD aE aAA aBB aDA aCB aSP aLE aRI x2 z2 x3 z3) : LW L n t wd wh aU aA aB aC aD aE aAA aBB aDA aCB aSP aLE aRI x3 z3 x2 z2 := by
  obtain ⟨⟨h0, h1, h2, h3, h4, h5, h6, h7, h8, h9, h10, h11, h12, h13, h14, h15, h16, h17, h18⟩, ⟨t0, t1, t2, t3, t4, t5, t6, t7, t8, t9, t10, t11, t12, t13, t14, t15, t16, t17, t18⟩, d1, d2, d3, d4, d5, d6⟩ := h
  exact ⟨⟨h0, h1, h2, h3, h4, h5, h6, h7, h8, h9, h10, h11, h12, h13, h14, h17, h18, h15, h16⟩, ⟨t0, t1, t2, t3, t4, t5, t6, t7, t8, t9, t10, t11, t12, t13, t14, t17, t18, t15, t16⟩, d6, fun e => d2 e.symm, fun e => d4 e.symm, fun e => d3 e.symm, fun e => d5 e.symm, d1⟩
