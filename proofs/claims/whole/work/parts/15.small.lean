theorem small_holds {f : Nat → Int64} {v : Int} (h0 : (f 0).toInt = v) (hv : 0 ≤ v ∧ v < 100663296) (h : ∀ j, 1 ≤ j → j < 10 → f j = 0) : holds f v := by
  have hj : ∀ j, 1 ≤ j → j < 10 → fI f j = 0 := fun j h1 h2 => by rw [fI_at, h j h1 h2]; rfl
  refine ⟨⟨by rw [fI_at, h0]; exact hv, fun j h1 h2 => by rw [hj j h1 h2]; omega⟩, cg_of ?_⟩
  unfold fv
  rw [sv10, hj 1 (by omega) (by omega), hj 2 (by omega) (by omega), hj 3 (by omega) (by omega), hj 4 (by omega) (by omega), hj 5 (by omega) (by omega), hj 6 (by omega) (by omega), hj 7 (by omega) (by omega), hj 8 (by omega) (by omega), hj 9 (by omega) (by omega), fI_at, h0]
  omega
theorem or_0 {a b : Int64} : a ||| b = 0 ↔ a = 0 ∧ b = 0 := by
  constructor
  · intro h
    have h1 : a.toBitVec ||| b.toBitVec = 0#64 := by
      rw [← Int64.toBitVec_or, h]; rfl
    obtain ⟨h2, h3⟩ := BitVec.or_eq_zero_iff.mp h1
    exact ⟨wb_inj h2, wb_inj h3⟩
  · rintro ⟨rfl, rfl⟩
    decide
theorem uw_0 {x : Int64} : x = 0 ↔ uw x = 0 := ⟨fun h => by rw [h]; decide, fun h => uw_inj (by rw [h]; decide)⟩
theorem wv_0 {f : Nat → Int64} : (((f 0 ||| f 1) ||| f 2) ||| f 3) = 0 ↔ wv f = 0 := by
  rw [or_0, or_0, or_0, uw_0, uw_0, uw_0, uw_0]
  unfold wv
  omega
theorem wv_inj {f g : Nat → Int64} (h : wv f = wv g) : ∀ k, k < 4 → f k = g k := fun k hk => by rw [ow_wv f hk, ow_wv g hk, h]
/-- what an address of a ladder's number is -/
def rsel (k x2 z2 x3 z3 aU : Nat) : Nat := if k = 0 then x2 else if k = 1 then z2 else if k = 2 then x3 else if k = 3 then z3 else aU
