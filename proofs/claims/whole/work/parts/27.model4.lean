/-- the reference, whole, at the address om, in the state (ph, st, rs, sc, pt) -/
def MV (ph st : Nat) (sc pt scf ptf : Nat → Int64) (dg : Nat → Int32) : Prop := (∀ k, k < 4 → scf k = sc k) ∧ (∀ k, k < 4 → ptf k = pt k) ∧ (ph ≠ 0 → dh dg 4 (uo pt) ∧ dh dg 0 (lad sc pt st).1 ∧ dh dg 1 (lad sc pt st).2.1 ∧ dh dg 2 (lad sc pt st).2.2.1 ∧ dh dg 3 (lad sc pt st).2.2.2) ∧ (ph = 2 → dh dg 5 (res sc pt)) ∧ ph ≤ 2 ∧ st ≤ 255 ∧ (ph = 2 → st = 255)
def MI (cA cI : ClassId) (om ph st : Nat) (rs : Int32) (sc pt : Nat → Int64) (ws : va_W) : Prop := ∃ (aSc aPt aDg aSu : Nat) (scf ptf : Nat → Int64) (dg : Nat → Int32) (su : Nat → Int64), ws = [(om, .inr (3, [.int (nI ph), .int (nI st), .int rs, .ref aSc, .ref aPt, .ref aDg, .ref aSu])), (aSc, .inl (cA, 4, .inr (.inl scf))), (aPt, .inl (cA, 4, .inr (.inl ptf))), (aDg, .inl (cI, 208, .inl dg)), (aSu, .inl (cA, 32, .inr (.inl su)))] ∧ MV ph st sc pt scf ptf dg
theorem MV_0 {st : Nat} {sc pt scf ptf : Nat → Int64} {dg : Nat → Int32} (h1 : ∀ k, k < 4 → scf k = sc k) (h2 : ∀ k, k < 4 → ptf k = pt k) (h3 : st ≤ 255) : MV 0 st sc pt scf ptf dg := ⟨h1, h2, fun h => absurd rfl h, fun h => by omega, by omega, h3, fun h => by omega⟩
theorem dh_of {dg : Nat → Int32} {a : Nat} {x : Int} (h : dc dg a x) (h0 : 0 ≤ x) (h1 : x < pP) : dh dg a x := by
  unfold dc at h
  rwa [Int.emod_eq_of_lt h0 h1] at h
theorem c62 (x : Int64) : (x &&& 4611686018427387903) ||| 4611686018427387904 = (x &&& 9223372036854775807) ||| 4611686018427387904 := by
  apply uw_inj
  rw [uw_or, uw_or, uw_and, uw_and]
  apply Nat.eq_of_testBit_eq
  intro i
  rw [Nat.testBit_or, Nat.testBit_or, Nat.testBit_and, Nat.testBit_and]
  by_cases hi : i < 64
  · have b61 : ∀ k, k < 64 → (uw 4611686018427387903).testBit k = decide (k < 62) := by decide +kernel
    rw [b61 i hi, b63 i hi, b62 i hi]
    by_cases h : i < 62
    · rw [decide_eq_true h, decide_eq_true (show i < 63 by omega)]
    · by_cases h2 : i = 62
      · subst h2; simp
      · rw [decide_eq_false h, decide_eq_false (show ¬ i < 63 by omega)]
  · have hx : (uw x).testBit i = false := Nat.testBit_lt_two_pow (Nat.lt_of_lt_of_le (show uw x < 2 ^ 64 from uw_lt x) (Nat.pow_le_pow_right (n := 2) (by decide) (show 64 ≤ i by omega)))
    rw [hx]
    simp
set_option maxRecDepth 100000 in
set_option maxHeartbeats 4000000 in
theorem M_scalar (l : Launch) (D : va_G) (cA cI : ClassId) (tys : List (ClassId × FieldType)) (om ph st : Nat) (rs : Int32) (sc pt : Nat → Int64) (ws : va_W) (hMI : MI cA cI om ph st rs sc pt ws) (k : Int32) (v : Int64) : zCi l D ((cA, .long) :: (cI, .int) :: tys) yX3_scalar wsX3_scalar ({ frames := 1, cells := 0, slots := 0, locals := 20 }) [.ref om, .int k, .long v] (ws) (fun r u => r = aTell ph k ∧ MI cA cI om ph st rs (sTell ph k sc v) pt u) := by
  obtain ⟨aSc, aPt, aDg, aSu, scf, ptf, dg, su, rfl, hMV⟩ := hMI
  obtain ⟨v_sc, v_pt, v_lad, v_rs, v_ph, v_st, v_2⟩ := id hMV
  refine z_met (fun A => va_Qi (fun r u => r = aTell ph k ∧ MI cA cI om ph st rs (sTell ph k sc v) pt u) (zB D ((cA, .long) :: (cI, .int) :: tys) A) A) (by decide) rfl (Nat.le_of_ble_eq_true rfl) ?_
  intro p e s m below meth c hx hb hr hml hts hown hlocks hname A hA hP hK hD hS ls hl
  have hown : s.vm.findClass RX3 = some m.cls := hown
  have hl : lv_has ls 4 [(0, .ref om), (1, .int k), (2, .long v)] := hl
  refine lv_aload_n hx hb dX3_scalar_0 rfl (lv_at hl 0 rfl) ?_
  refine va_get (D := D) (ci := 3) (v := .int (nI ph)) (C := RX3) (T := TX3) (N := 7) hx hb hts (by decide +kernel) hown hK hP 0 rfl rfl 0 (by decide) (hts (.fieldLink RX3 53 "LadderDeskModel" "phase" "I") (by decide +kernel)) (fun _ h9 => h9) rfl dX3_scalar_1 ?_
  refine lv_if_ne (tgt := 14) hx hb dX3_scalar_4 (by decide) (fun c4 => ?_) (fun c4 => ?_)
  · have hc : ¬ ph = 0 := fun e => c4 (by rw [e]; rfl)
    refine lv_iconst (v := nI 0) hx hb dX3_scalar_14 (by decide) ?_
    have hn2 : ¬ (ph = 0 ∧ isL k = true) := fun h => hc h.1
    have e1 : sTell ph k sc v = sc := by unfold sTell; rw [if_neg hn2]
    have e2 : aTell ph k = 0 := by unfold aTell; rw [if_neg hn2]
    exact z_iret hx hb hr hlocks dX3_scalar_15 hK hP hD hS (⟨e2.symm, by rw [e1]; exact ⟨aSc, aPt, aDg, aSu, scf, ptf, dg, su, rfl, hMV⟩⟩)
  · have hc : ph = 0 := (nI_eq (by omega) (by omega)).mp c4
    refine lv_iload_n hx hb dX3_scalar_7 rfl (lv_at hl 1 rfl) ?_
    refine z_calli (va_runS (As := [.int k]) (rest := []) ⟨hx, hb, hml, hown, hts⟩ (c_isLongM l D ((cA, .long) :: (cI, .int) :: tys) _ k _) (va_cwS 1 hts gX3_scalar_X3_isLong rfl rfl rfl (by decide +kernel) ⟨Nat.le_of_ble_eq_true rfl, Nat.le_of_ble_eq_true rfl⟩) (z_preS _ hK hP hD) rfl rfl hl.1 rfl (lv_room (Nat.le_of_ble_eq_true rfl)) dX3_scalar_8 ⟨Nat.le_of_ble_eq_true rfl, Nat.le_of_ble_eq_true rfl⟩) hD hS hA (fun r8 u H locs hu hP hD hS => ?_)
    obtain ⟨rfl, hz⟩ := hu
    refine lv_if_ne (tgt := 16) hx hb dX3_scalar_11 (by decide) (fun c11 => ?_) (fun c11 => ?_)
    · obtain ⟨-, jk, hjk, rfl⟩ : r8 = 1 ∧ ∃ j : Nat, j < 4 ∧ k = nI j := by
        rcases hz with h | ⟨h, -⟩
        · exact h
        · exact absurd h c11
      refine lv_aload_n hx hb dX3_scalar_16 rfl (lv_at hl 0 rfl) ?_
      refine va_get (D := D) (ci := 3) (v := .ref aSc) (C := RX3) (T := TX3) (N := 7) hx hb hts (by decide +kernel) hown hK hP 0 rfl rfl 3 (by decide) (hts (.fieldLink RX3 7 "LadderDeskModel" "scalar" "[J") (by decide +kernel)) (fun _ h9 => h9) rfl dX3_scalar_17 ?_
      refine lv_iload_n hx hb dX3_scalar_20 rfl (lv_at hl 1 rfl) ?_
      refine lv_lload_n hx hb dX3_scalar_21 rfl (lv_at hl 2 rfl) ?_
      refine y_st hx hb hK hP hD hS 1 0 rfl rfl jk rfl (by omega) (by omega) dX3_scalar_22 (fun H locs hP hD hS => ?_)
      have hP : va_P D vwCl ([(om, .inr (3, [.int (nI ph), .int (nI st), .int rs, .ref aSc, .ref aPt, .ref aDg, .ref aSu])), (aSc, .inl (cA, 4, .inr (.inl (vp_updL scf jk v)))), (aPt, .inl (cA, 4, .inr (.inl ptf))), (aDg, .inl (cI, 208, .inl dg)), (aSu, .inl (cA, 32, .inr (.inl su)))]) H := hP
      have hD : va_D A ([(om, .inr (3, [.int (nI ph), .int (nI st), .int rs, .ref aSc, .ref aPt, .ref aDg, .ref aSu])), (aSc, .inl (cA, 4, .inr (.inl (vp_updL scf jk v)))), (aPt, .inl (cA, 4, .inr (.inl ptf))), (aDg, .inl (cI, 208, .inl dg)), (aSu, .inl (cA, 32, .inr (.inl su)))]) := hD
      refine lv_iconst (v := nI 1) hx hb dX3_scalar_23 (by decide) ?_
      have e1 : sTell ph (nI jk) sc v = vp_updL sc jk v := by unfold sTell; rw [if_pos ⟨hc, isL_t hjk⟩, nI_clamp (by omega)]
      have e2 : aTell ph (nI jk) = 1 := by unfold aTell; rw [if_pos ⟨hc, isL_t hjk⟩]
      subst hc
      exact z_iret hx hb hr hlocks dX3_scalar_24 hK hP hD hS (⟨e2.symm, by rw [e1]; exact ⟨aSc, aPt, aDg, aSu, (vp_updL scf jk v), ptf, dg, su, rfl, MV_0 (fun k hk => by unfold vp_updL; rw [v_sc k hk]) v_pt v_st⟩⟩)
    · have hck : ¬ ∃ j : Nat, j < 4 ∧ k = nI j := by
        rcases hz with ⟨h, -⟩ | ⟨-, h⟩
        · rw [h] at c11; exact absurd c11 (by decide)
        · exact h
      refine lv_iconst (v := nI 0) hx hb dX3_scalar_14 (by decide) ?_
      have hn2 : ¬ (ph = 0 ∧ isL k = true) := fun h => by rw [isL_f hck] at h; exact absurd h.2 (by decide)
      have e1 : sTell ph k sc v = sc := by unfold sTell; rw [if_neg hn2]
      have e2 : aTell ph k = 0 := by unfold aTell; rw [if_neg hn2]
      exact z_iret hx hb hr hlocks dX3_scalar_15 hK hP hD hS (⟨e2.symm, by rw [e1]; exact ⟨aSc, aPt, aDg, aSu, scf, ptf, dg, su, rfl, hMV⟩⟩)
set_option maxRecDepth 100000 in
set_option maxHeartbeats 4000000 in
theorem M_point (l : Launch) (D : va_G) (cA cI : ClassId) (tys : List (ClassId × FieldType)) (om ph st : Nat) (rs : Int32) (sc pt : Nat → Int64) (ws : va_W) (hMI : MI cA cI om ph st rs sc pt ws) (k : Int32) (v : Int64) : zCi l D ((cA, .long) :: (cI, .int) :: tys) yX3_point wsX3_point ({ frames := 1, cells := 0, slots := 0, locals := 20 }) [.ref om, .int k, .long v] (ws) (fun r u => r = aTell ph k ∧ MI cA cI om ph st rs sc (sTell ph k pt v) u) := by
  obtain ⟨aSc, aPt, aDg, aSu, scf, ptf, dg, su, rfl, hMV⟩ := hMI
  obtain ⟨v_sc, v_pt, v_lad, v_rs, v_ph, v_st, v_2⟩ := id hMV
  refine z_met (fun A => va_Qi (fun r u => r = aTell ph k ∧ MI cA cI om ph st rs sc (sTell ph k pt v) u) (zB D ((cA, .long) :: (cI, .int) :: tys) A) A) (by decide) rfl (Nat.le_of_ble_eq_true rfl) ?_
  intro p e s m below meth c hx hb hr hml hts hown hlocks hname A hA hP hK hD hS ls hl
  have hown : s.vm.findClass RX3 = some m.cls := hown
  have hl : lv_has ls 4 [(0, .ref om), (1, .int k), (2, .long v)] := hl
  refine lv_aload_n hx hb dX3_point_0 rfl (lv_at hl 0 rfl) ?_
  refine va_get (D := D) (ci := 3) (v := .int (nI ph)) (C := RX3) (T := TX3) (N := 7) hx hb hts (by decide +kernel) hown hK hP 0 rfl rfl 0 (by decide) (hts (.fieldLink RX3 53 "LadderDeskModel" "phase" "I") (by decide +kernel)) (fun _ h9 => h9) rfl dX3_point_1 ?_
  refine lv_if_ne (tgt := 14) hx hb dX3_point_4 (by decide) (fun c4 => ?_) (fun c4 => ?_)
  · have hc : ¬ ph = 0 := fun e => c4 (by rw [e]; rfl)
    refine lv_iconst (v := nI 0) hx hb dX3_point_14 (by decide) ?_
    have hn2 : ¬ (ph = 0 ∧ isL k = true) := fun h => hc h.1
    have e1 : sTell ph k pt v = pt := by unfold sTell; rw [if_neg hn2]
    have e2 : aTell ph k = 0 := by unfold aTell; rw [if_neg hn2]
    exact z_iret hx hb hr hlocks dX3_point_15 hK hP hD hS (⟨e2.symm, by rw [e1]; exact ⟨aSc, aPt, aDg, aSu, scf, ptf, dg, su, rfl, hMV⟩⟩)
  · have hc : ph = 0 := (nI_eq (by omega) (by omega)).mp c4
    refine lv_iload_n hx hb dX3_point_7 rfl (lv_at hl 1 rfl) ?_
    refine z_calli (va_runS (As := [.int k]) (rest := []) ⟨hx, hb, hml, hown, hts⟩ (c_isLongM l D ((cA, .long) :: (cI, .int) :: tys) _ k _) (va_cwS 1 hts gX3_point_X3_isLong rfl rfl rfl (by decide +kernel) ⟨Nat.le_of_ble_eq_true rfl, Nat.le_of_ble_eq_true rfl⟩) (z_preS _ hK hP hD) rfl rfl hl.1 rfl (lv_room (Nat.le_of_ble_eq_true rfl)) dX3_point_8 ⟨Nat.le_of_ble_eq_true rfl, Nat.le_of_ble_eq_true rfl⟩) hD hS hA (fun r8 u H locs hu hP hD hS => ?_)
    obtain ⟨rfl, hz⟩ := hu
    refine lv_if_ne (tgt := 16) hx hb dX3_point_11 (by decide) (fun c11 => ?_) (fun c11 => ?_)
    · obtain ⟨-, jk, hjk, rfl⟩ : r8 = 1 ∧ ∃ j : Nat, j < 4 ∧ k = nI j := by
        rcases hz with h | ⟨h, -⟩
        · exact h
        · exact absurd h c11
      refine lv_aload_n hx hb dX3_point_16 rfl (lv_at hl 0 rfl) ?_
      refine va_get (D := D) (ci := 3) (v := .ref aPt) (C := RX3) (T := TX3) (N := 7) hx hb hts (by decide +kernel) hown hK hP 0 rfl rfl 4 (by decide) (hts (.fieldLink RX3 13 "LadderDeskModel" "point" "[J") (by decide +kernel)) (fun _ h9 => h9) rfl dX3_point_17 ?_
      refine lv_iload_n hx hb dX3_point_20 rfl (lv_at hl 1 rfl) ?_
      refine lv_lload_n hx hb dX3_point_21 rfl (lv_at hl 2 rfl) ?_
      refine y_st hx hb hK hP hD hS 2 0 rfl rfl jk rfl (by omega) (by omega) dX3_point_22 (fun H locs hP hD hS => ?_)
      have hP : va_P D vwCl ([(om, .inr (3, [.int (nI ph), .int (nI st), .int rs, .ref aSc, .ref aPt, .ref aDg, .ref aSu])), (aSc, .inl (cA, 4, .inr (.inl scf))), (aPt, .inl (cA, 4, .inr (.inl (vp_updL ptf jk v)))), (aDg, .inl (cI, 208, .inl dg)), (aSu, .inl (cA, 32, .inr (.inl su)))]) H := hP
      have hD : va_D A ([(om, .inr (3, [.int (nI ph), .int (nI st), .int rs, .ref aSc, .ref aPt, .ref aDg, .ref aSu])), (aSc, .inl (cA, 4, .inr (.inl scf))), (aPt, .inl (cA, 4, .inr (.inl (vp_updL ptf jk v)))), (aDg, .inl (cI, 208, .inl dg)), (aSu, .inl (cA, 32, .inr (.inl su)))]) := hD
      refine lv_iconst (v := nI 1) hx hb dX3_point_23 (by decide) ?_
      have e1 : sTell ph (nI jk) pt v = vp_updL pt jk v := by unfold sTell; rw [if_pos ⟨hc, isL_t hjk⟩, nI_clamp (by omega)]
      have e2 : aTell ph (nI jk) = 1 := by unfold aTell; rw [if_pos ⟨hc, isL_t hjk⟩]
      subst hc
      exact z_iret hx hb hr hlocks dX3_point_24 hK hP hD hS (⟨e2.symm, by rw [e1]; exact ⟨aSc, aPt, aDg, aSu, scf, (vp_updL ptf jk v), dg, su, rfl, MV_0 v_sc (fun k hk => by unfold vp_updL; rw [v_pt k hk]) v_st⟩⟩)
    · have hck : ¬ ∃ j : Nat, j < 4 ∧ k = nI j := by
        rcases hz with ⟨h, -⟩ | ⟨-, h⟩
        · rw [h] at c11; exact absurd c11 (by decide)
        · exact h
      refine lv_iconst (v := nI 0) hx hb dX3_point_14 (by decide) ?_
      have hn2 : ¬ (ph = 0 ∧ isL k = true) := fun h => by rw [isL_f hck] at h; exact absurd h.2 (by decide)
      have e1 : sTell ph k pt v = pt := by unfold sTell; rw [if_neg hn2]
      have e2 : aTell ph k = 0 := by unfold aTell; rw [if_neg hn2]
      exact z_iret hx hb hr hlocks dX3_point_15 hK hP hD hS (⟨e2.symm, by rw [e1]; exact ⟨aSc, aPt, aDg, aSu, scf, ptf, dg, su, rfl, hMV⟩⟩)
set_option maxRecDepth 100000 in
set_option maxHeartbeats 4000000 in
theorem M_start (l : Launch) (D : va_G) (cA cI : ClassId) (tys : List (ClassId × FieldType)) (om ph st : Nat) (rs : Int32) (sc pt : Nat → Int64) (ws : va_W) (hMI : MI cA cI om ph st rs sc pt ws)  : zCi l D ((cA, .long) :: (cI, .int) :: tys) yX3_start wsX3_start ({ frames := 4, cells := 0, slots := 0, locals := 91 }) [.ref om] (ws) (fun r u => (ph = 0 ∧ r = 1 ∧ MI cA cI om 1 0 rs sc pt u) ∨ (ph ≠ 0 ∧ r = 0 ∧ MI cA cI om ph st rs sc pt u)) := by
  obtain ⟨aSc, aPt, aDg, aSu, scf, ptf, dg, su, rfl, hMV⟩ := hMI
  obtain ⟨v_sc, v_pt, v_lad, v_rs, v_ph, v_st, v_2⟩ := id hMV
  refine z_met (fun A => va_Qi (fun r u => (ph = 0 ∧ r = 1 ∧ MI cA cI om 1 0 rs sc pt u) ∨ (ph ≠ 0 ∧ r = 0 ∧ MI cA cI om ph st rs sc pt u)) (zB D ((cA, .long) :: (cI, .int) :: tys) A) A) (by decide) rfl (Nat.le_of_ble_eq_true rfl) ?_
  intro p e s m below meth c hx hb hr hml hts hown hlocks hname A hA hP hK hD hS ls hl
  have hown : s.vm.findClass RX3 = some m.cls := hown
  have hl : lv_has ls 1 [(0, .ref om)] := hl
  refine lv_aload_n hx hb dX3_start_0 rfl (lv_at hl 0 rfl) ?_
  refine va_get (D := D) (ci := 3) (v := .int (nI ph)) (C := RX3) (T := TX3) (N := 7) hx hb hts (by decide +kernel) hown hK hP 0 rfl rfl 0 (by decide) (hts (.fieldLink RX3 53 "LadderDeskModel" "phase" "I") (by decide +kernel)) (fun _ h9 => h9) rfl dX3_start_1 ?_
  refine lv_if_eq (tgt := 9) hx hb dX3_start_4 (by decide) (fun c4 => ?_) (fun c4 => ?_)
  · have hc : ph = 0 := (nI_eq (by omega) (by omega)).mp c4
    subst hc
    refine lv_aload_n hx hb dX3_start_9 rfl (lv_at hl 0 rfl) ?_
    refine lv_iconst (v := nI 1) hx hb dX3_start_10 (by decide) ?_
    refine va_put (D := D) (ci := 3) (v := .int (nI 1)) (ty := .int) (C := RX3) (T := TX3) (N := 7) hx hb hts (by decide +kernel) tyX3 tyX3_ok nmX3 hown hK hP hD hS 0 rfl rfl 0 (by decide) (hts (.fieldLink RX3 53 "LadderDeskModel" "phase" "I") (by decide +kernel)) (fun _ h9 => h9) rfl (by decide +kernel) rfl rfl (Nat.le_of_ble_eq_true rfl) dX3_start_11 (fun H locs hP hD hS => ?_)
    have hP : va_P D vwCl ([(om, .inr (3, [.int (nI 1), .int (nI st), .int rs, .ref aSc, .ref aPt, .ref aDg, .ref aSu])), (aSc, .inl (cA, 4, .inr (.inl scf))), (aPt, .inl (cA, 4, .inr (.inl ptf))), (aDg, .inl (cI, 208, .inl dg)), (aSu, .inl (cA, 32, .inr (.inl su)))]) H := hP
    have hD : va_D A ([(om, .inr (3, [.int (nI 1), .int (nI st), .int rs, .ref aSc, .ref aPt, .ref aDg, .ref aSu])), (aSc, .inl (cA, 4, .inr (.inl scf))), (aPt, .inl (cA, 4, .inr (.inl ptf))), (aDg, .inl (cI, 208, .inl dg)), (aSu, .inl (cA, 32, .inr (.inl su)))]) := hD
    refine lv_aload_n hx hb dX3_start_14 rfl (lv_at hl 0 rfl) ?_
    refine lv_iconst (v := nI 0) hx hb dX3_start_15 (by decide) ?_
    refine va_put (D := D) (ci := 3) (v := .int (nI 0)) (ty := .int) (C := RX3) (T := TX3) (N := 7) hx hb hts (by decide +kernel) tyX3 tyX3_ok nmX3 hown hK hP hD hS 0 rfl rfl 1 (by decide) (hts (.fieldLink RX3 61 "LadderDeskModel" "steps" "I") (by decide +kernel)) (fun _ h9 => h9) rfl (by decide +kernel) rfl rfl (Nat.le_of_ble_eq_true rfl) dX3_start_16 (fun H locs hP hD hS => ?_)
    have hP : va_P D vwCl ([(om, .inr (3, [.int (nI 1), .int (nI 0), .int rs, .ref aSc, .ref aPt, .ref aDg, .ref aSu])), (aSc, .inl (cA, 4, .inr (.inl scf))), (aPt, .inl (cA, 4, .inr (.inl ptf))), (aDg, .inl (cI, 208, .inl dg)), (aSu, .inl (cA, 32, .inr (.inl su)))]) H := hP
    have hD : va_D A ([(om, .inr (3, [.int (nI 1), .int (nI 0), .int rs, .ref aSc, .ref aPt, .ref aDg, .ref aSu])), (aSc, .inl (cA, 4, .inr (.inl scf))), (aPt, .inl (cA, 4, .inr (.inl ptf))), (aDg, .inl (cI, 208, .inl dg)), (aSu, .inl (cA, 32, .inr (.inl su)))]) := hD
    refine lv_aload_n hx hb dX3_start_19 rfl (lv_at hl 0 rfl) ?_
    refine z_callv (va_runV (As := []) (rest := []) ⟨hx, hb, hml, hown, hts⟩ (m_makeU l D cA cI tys om aSc aPt aDg aSu (nI 1) (nI 0) rs scf ptf dg su  _) (cwV 0 hts gX3_start_X3_makeU rfl rfl rfl (by decide +kernel) ⟨Nat.le_of_ble_eq_true rfl, Nat.le_of_ble_eq_true rfl⟩) (z_preV _ hK hP hD (ci := 3) (q0 := 0) rfl rfl) rfl rfl hl.1 rfl (lv_room (Nat.le_of_ble_eq_true rfl)) dX3_start_20 ⟨Nat.le_of_ble_eq_true rfl, Nat.le_of_ble_eq_true rfl⟩) hD hS hA (fun u H locs hu hP hD hS => ?_)
    obtain ⟨d1, s1, k1, w1, rfl⟩ := hu
    rw [uo_congr v_pt] at w1
    refine lv_aload_n hx hb dX3_start_23 rfl (lv_at hl 0 rfl) ?_
    refine lv_iconst (v := nI 0) hx hb dX3_start_24 (by decide) ?_
    refine lv_iconst (v := nI 1) hx hb dX3_start_25 (by decide) ?_
    refine z_callv (va_runV (As := [.int (nI 0), .int (nI 1)]) (rest := []) ⟨hx, hb, hml, hown, hts⟩ (m_setSmall l D cA cI tys om aSc aPt aDg aSu (nI 1) (nI 0) rs scf ptf d1 s1 0 (by omega) (nI 1) _) (cwV 2 hts gX3_start_X3_setSmall rfl rfl rfl (by decide +kernel) ⟨Nat.le_of_ble_eq_true rfl, Nat.le_of_ble_eq_true rfl⟩) (z_preV _ hK hP hD (ci := 3) (q0 := 0) rfl rfl) rfl rfl hl.1 rfl (lv_room (Nat.le_of_ble_eq_true rfl)) dX3_start_26 ⟨Nat.le_of_ble_eq_true rfl, Nat.le_of_ble_eq_true rfl⟩) hD hS hA (fun u H locs hu hP hD hS => ?_)
    obtain ⟨d2, k2, w2, rfl⟩ := hu
    have w2 := sm_dh w2 (by decide)
    refine lv_aload_n hx hb dX3_start_29 rfl (lv_at hl 0 rfl) ?_
    refine lv_iconst (v := nI 1) hx hb dX3_start_30 (by decide) ?_
    refine lv_iconst (v := nI 0) hx hb dX3_start_31 (by decide) ?_
    refine z_callv (va_runV (As := [.int (nI 1), .int (nI 0)]) (rest := []) ⟨hx, hb, hml, hown, hts⟩ (m_setSmall l D cA cI tys om aSc aPt aDg aSu (nI 1) (nI 0) rs scf ptf d2 s1 1 (by omega) (nI 0) _) (cwV 2 hts gX3_start_X3_setSmall rfl rfl rfl (by decide +kernel) ⟨Nat.le_of_ble_eq_true rfl, Nat.le_of_ble_eq_true rfl⟩) (z_preV _ hK hP hD (ci := 3) (q0 := 0) rfl rfl) rfl rfl hl.1 rfl (lv_room (Nat.le_of_ble_eq_true rfl)) dX3_start_32 ⟨Nat.le_of_ble_eq_true rfl, Nat.le_of_ble_eq_true rfl⟩) hD hS hA (fun u H locs hu hP hD hS => ?_)
    obtain ⟨d3, k3, w3, rfl⟩ := hu
    have w3 := sm_dh w3 (by decide)
    have u3 := dh_kp (dh_kp w1 (by omega) k2) (by omega) k3
    refine lv_aload_n hx hb dX3_start_35 rfl (lv_at hl 0 rfl) ?_
    refine lv_iconst (v := nI 2) hx hb dX3_start_36 (by decide) ?_
    refine lv_iconst (v := nI 4) hx hb dX3_start_37 (by decide) ?_
    refine z_callv (va_runV (As := [.int (nI 2), .int (nI 4)]) (rest := []) ⟨hx, hb, hml, hown, hts⟩ (m_copy l D cA cI tys om aSc aPt aDg aSu (nI 1) (nI 0) rs scf ptf d3 s1 2 4 (by omega) (by omega) (by omega) _) (cwV 2 hts gX3_start_X3_copy rfl rfl rfl (by decide +kernel) ⟨Nat.le_of_ble_eq_true rfl, Nat.le_of_ble_eq_true rfl⟩) (z_preV _ hK hP hD (ci := 3) (q0 := 0) rfl rfl) rfl rfl hl.1 rfl (lv_room (Nat.le_of_ble_eq_true rfl)) dX3_start_38 ⟨Nat.le_of_ble_eq_true rfl, Nat.le_of_ble_eq_true rfl⟩) hD hS hA (fun u H locs hu hP hD hS => ?_)
    obtain ⟨d4, k4, w4, rfl⟩ := hu
    have w4 := dh_cp u3 w4
    have u4 := dh_kp u3 (by omega) k4
    refine lv_aload_n hx hb dX3_start_41 rfl (lv_at hl 0 rfl) ?_
    refine lv_iconst (v := nI 3) hx hb dX3_start_42 (by decide) ?_
    refine lv_iconst (v := nI 1) hx hb dX3_start_43 (by decide) ?_
    refine z_callv (va_runV (As := [.int (nI 3), .int (nI 1)]) (rest := []) ⟨hx, hb, hml, hown, hts⟩ (m_setSmall l D cA cI tys om aSc aPt aDg aSu (nI 1) (nI 0) rs scf ptf d4 s1 3 (by omega) (nI 1) _) (cwV 2 hts gX3_start_X3_setSmall rfl rfl rfl (by decide +kernel) ⟨Nat.le_of_ble_eq_true rfl, Nat.le_of_ble_eq_true rfl⟩) (z_preV _ hK hP hD (ci := 3) (q0 := 0) rfl rfl) rfl rfl hl.1 rfl (lv_room (Nat.le_of_ble_eq_true rfl)) dX3_start_44 ⟨Nat.le_of_ble_eq_true rfl, Nat.le_of_ble_eq_true rfl⟩) hD hS hA (fun u H locs hu hP hD hS => ?_)
    obtain ⟨d5, k5, w5, rfl⟩ := hu
    have w5 := sm_dh w5 (by decide)
    have x2_ : dh d5 0 1 := dh_of (x := 1) (dc_kp (dc_kp (dc_kp w2 (by omega) k3) (by omega) k4) (by omega) k5) (by decide) (by decide)
    have z2_ : dh d5 1 0 := dh_of (x := 0) (dc_kp (dc_kp w3 (by omega) k4) (by omega) k5) (by decide) (by decide)
    have z3_ : dh d5 3 1 := dh_of (x := 1) w5 (by decide) (by decide)
    refine lv_iconst (v := nI 1) hx hb dX3_start_47 (by decide) ?_
    exact z_iret hx hb hr hlocks dX3_start_48 hK hP hD hS (Or.inl ⟨rfl, rfl, ⟨aSc, aPt, aDg, aSu, scf, ptf, d5, s1, rfl, ⟨v_sc, v_pt, fun _ => ⟨dh_kp u4 (by omega) k5, x2_, z2_, dh_kp w4 (by omega) k5, z3_⟩, fun h => by omega, by omega, by omega, fun h => by omega⟩⟩⟩)
  · have hc : ph ≠ 0 := fun e => c4 (by rw [e]; rfl)
    refine lv_iconst (v := nI 0) hx hb dX3_start_7 (by decide) ?_
    exact z_iret hx hb hr hlocks dX3_start_8 hK hP hD hS (Or.inr ⟨hc, rfl, ⟨aSc, aPt, aDg, aSu, scf, ptf, dg, su, rfl, hMV⟩⟩)
set_option maxRecDepth 100000 in
set_option maxHeartbeats 4000000 in
theorem M_step (l : Launch) (D : va_G) (cA cI : ClassId) (tys : List (ClassId × FieldType)) (om ph st : Nat) (rs : Int32) (sc pt : Nat → Int64) (ws : va_W) (hMI : MI cA cI om ph st rs sc pt ws) (k : Int32) : zCi l D ((cA, .long) :: (cI, .int) :: tys) yX3_step wsX3_step ({ frames := 5, cells := 0, slots := 0, locals := 119 }) [.ref om, .int k] (ws) (fun r u => r = aStep ph st k ∧ MI cA cI om ph (sStep ph st k) rs sc pt u) := by
  obtain ⟨aSc, aPt, aDg, aSu, scf, ptf, dg, su, rfl, hMV⟩ := hMI
  obtain ⟨v_sc, v_pt, v_lad, v_rs, v_ph, v_st, v_2⟩ := id hMV
  refine z_met (fun A => va_Qi (fun r u => r = aStep ph st k ∧ MI cA cI om ph (sStep ph st k) rs sc pt u) (zB D ((cA, .long) :: (cI, .int) :: tys) A) A) (by decide) rfl (Nat.le_of_ble_eq_true rfl) ?_
  intro p e s m below meth c hx hb hr hml hts hown hlocks hname A hA hP hK hD hS ls hl
  have hown : s.vm.findClass RX3 = some m.cls := hown
  have hl : lv_has ls 3 [(0, .ref om), (1, .int k)] := hl
  refine lv_aload_n hx hb dX3_step_0 rfl (lv_at hl 0 rfl) ?_
  refine va_get (D := D) (ci := 3) (v := .int (nI ph)) (C := RX3) (T := TX3) (N := 7) hx hb hts (by decide +kernel) hown hK hP 0 rfl rfl 0 (by decide) (hts (.fieldLink RX3 53 "LadderDeskModel" "phase" "I") (by decide +kernel)) (fun _ h9 => h9) rfl dX3_step_1 ?_
  refine lv_iconst (v := nI 1) hx hb dX3_step_4 (by decide) ?_
  refine lv_icmp_ne (tgt := 13) hx hb dX3_step_5 (by decide) (fun c5 => ?_) (fun c5 => ?_)
  · have hc : ¬ ph = 1 := fun e => c5 (by rw [e])
    refine lv_iconst (v := (-1)) hx hb dX3_step_13 (by decide) ?_
    have hn : ¬ (ph = 1 ∧ 1 ≤ k.toInt) := fun h => hc h.1
    exact z_iret hx hb hr hlocks dX3_step_14 hK hP hD hS (⟨by unfold aStep; rw [if_neg hn], by unfold sStep; rw [if_neg hn]; exact ⟨aSc, aPt, aDg, aSu, scf, ptf, dg, su, rfl, hMV⟩⟩)
  · have hc : ph = 1 := (nI_eq (by omega) (by omega)).mp c5
    subst hc
    refine lv_iload_n hx hb dX3_step_8 rfl (lv_at hl 1 rfl) ?_
    refine lv_iconst (v := nI 1) hx hb dX3_step_9 (by decide) ?_
    refine lv_icmp_ge (tgt := 15) hx hb dX3_step_10 (by decide) (fun c10 => ?_) (fun c10 => ?_)
    · have hk : 1 ≤ k.toInt := by
        have := Int32.le_iff_toInt_le.mp c10
        rwa [nI_toInt (by omega)] at this
      obtain ⟨kn, hkn, rfl⟩ := nI_of (x := k) (fun h => by have := Int32.lt_iff_toInt_lt.mp h; rw [show (0 : Int32).toInt = 0 from by decide] at this; omega)
      rw [nI_toInt hkn] at hk
      obtain ⟨mo, hmo⟩ : ∃ z, z = min kn (255 - st) := ⟨_, rfl⟩
      refine lv_iconst (v := nI 0) hx hb dX3_step_15 (by decide) ?_
      refine lv_istore_n (lv' := [(2, .int (nI 0)), (0, .ref om), (1, .int (nI kn))]) hx hb dX3_step_16 rfl hl (by decide) rfl (fun ls hl => ?_)
      refine z_loop (fun i H locs ls => ∃ (dg' : Nat → Int32) (su' : Nat → Int64), MV 1 (st + i) sc pt scf ptf dg' ∧ zH D A s.heap ([(om, .inr (3, [.int (nI 1), .int (nI (st + i)), .int rs, .ref aSc, .ref aPt, .ref aDg, .ref aSu])), (aSc, .inl (cA, 4, .inr (.inl scf))), (aPt, .inl (cA, 4, .inr (.inl ptf))), (aDg, .inl (cI, 208, .inl dg')), (aSu, .inl (cA, 32, .inr (.inl su')))]) H locs ∧ lv_has ls 3 [(2, .int (nI i)), (0, .ref om), (1, .int (nI kn))]) mo ?_ ?_ ?_
      · exact ⟨dg, su, hMV, ⟨hP, hD, hS⟩, hl⟩
      · rintro i H locs ls hi ⟨dg', su', hI, ⟨hP, hD, hS⟩, hl⟩ ih
        obtain ⟨i_sc, i_pt, i_lad, -, -, i_st, -⟩ := id hI
        obtain ⟨hU, hX2, hZ2, hX3, hZ3⟩ := i_lad (by decide)
        refine lv_iload_n hx hb dX3_step_17 rfl (lv_at hl 0 rfl) ?_
        refine lv_iload_n hx hb dX3_step_18 rfl (lv_at hl 2 rfl) ?_
        refine lv_icmp_ge (tgt := 42) hx hb dX3_step_19 (by decide) (fun c19 => absurd ((nI_leI (by omega) (by omega)).mp c19) (by omega)) (fun c19 => ?_)
        refine lv_aload_n hx hb dX3_step_22 rfl (lv_at hl 1 rfl) ?_
        refine va_get (D := D) (ci := 3) (v := .int (nI (st + i))) (C := RX3) (T := TX3) (N := 7) hx hb hts (by decide +kernel) hown hK hP 0 rfl rfl 1 (by decide) (hts (.fieldLink RX3 61 "LadderDeskModel" "steps" "I") (by decide +kernel)) (fun _ h9 => h9) rfl dX3_step_23 ?_
        refine lv_sipush (v := nI 255) hx hb dX3_step_26 (by decide) ?_
        refine lv_icmp_ge (tgt := 42) hx hb dX3_step_29 (by decide) (fun c29 => absurd ((nI_leI (by omega) (by omega)).mp c29) (by omega)) (fun c29 => ?_)
        refine lv_aload_n hx hb dX3_step_32 rfl (lv_at hl 1 rfl) ?_
        refine z_callv (va_runV (As := []) (rest := []) ⟨hx, hb, hml, hown, hts⟩ (m_stepOnce l D cA cI tys om aSc aPt aDg aSu (nI 1) (nI 0) rs scf ptf dg' su' (st + i) (by omega) _ _ _ _ _ (dc_of hU) (dc_of hX2) (dc_of hZ2) (dc_of hX3) (dc_of hZ3) _) (cwV 0 hts gX3_step_X3_stepOnce rfl rfl rfl (by decide +kernel) ⟨Nat.le_of_ble_eq_true rfl, Nat.le_of_ble_eq_true rfl⟩) (z_preV _ hK hP hD (ci := 3) (q0 := 0) rfl rfl) rfl rfl hl.1 rfl (lv_room (Nat.le_of_ble_eq_true rfl)) dX3_step_33 ⟨Nat.le_of_ble_eq_true rfl, Nat.le_of_ble_eq_true rfl⟩) hD hS hA (fun u H locs hu hP hD hS => ?_)
        obtain ⟨d1, s1, j4, j0, j1, j2, j3, rfl⟩ := hu
        rw [pb_congr i_sc (by omega)] at j0 j1 j2 j3
        refine lv_iinc (v := nI (i + 1)) (lv' := [(2, .int (nI (i + 1))), (0, .ref om), (1, .int (nI kn))]) hx hb dX3_step_36 hl (k := 0) rfl (by show nI _ + nI 1 = _; exact nI_add _ _) (by decide) rfl (fun ls hl => ?_)
        refine lv_goto (tgt := 17) hx hb dX3_step_39 (by decide) ?_
        exact ih _ _ _ ⟨d1, s1, ⟨i_sc, i_pt, fun _ => ⟨dh_of j4 (dh_in hU).1 (dh_in hU).2, j0, j1, j2, j3⟩, fun h => by omega, by omega, by omega, fun h => by omega⟩, ⟨hP, hD, hS⟩, hl⟩
      · rintro H locs ls ⟨dg', su', hI, ⟨hP, hD, hS⟩, hl⟩
        have e1 : sStep 1 st (nI kn) = st + mo := by unfold sStep; rw [nI_toInt hkn, if_pos ⟨rfl, hk⟩]; omega
        refine lv_iload_n hx hb dX3_step_17 rfl (lv_at hl 0 rfl) ?_
        refine lv_iload_n hx hb dX3_step_18 rfl (lv_at hl 2 rfl) ?_
        refine lv_icmp_ge (tgt := 42) hx hb dX3_step_19 (by decide) (fun c19 => ?_) (fun c19 => ?_)
        · have hm := c19
          refine lv_sipush (v := nI 255) hx hb dX3_step_42 (by decide) ?_
          refine lv_aload_n hx hb dX3_step_45 rfl (lv_at hl 1 rfl) ?_
          refine va_get (D := D) (ci := 3) (v := .int (nI (st + mo))) (C := RX3) (T := TX3) (N := 7) hx hb hts (by decide +kernel) hown hK hP 0 rfl rfl 1 (by decide) (hts (.fieldLink RX3 61 "LadderDeskModel" "steps" "I") (by decide +kernel)) (fun _ h9 => h9) rfl dX3_step_46 ?_
          refine lv_isub hx hb dX3_step_49 ?_
          refine zi (y := nI (255 - (st + mo))) (pk_sub (by omega)) ?_
          exact z_iret hx hb hr hlocks dX3_step_50 hK hP hD hS (⟨by unfold aStep; rw [e1, if_pos ⟨rfl, by rw [nI_toInt hkn]; exact hk⟩], by rw [e1]; exact ⟨aSc, aPt, aDg, aSu, scf, ptf, dg', su', rfl, hI⟩⟩)
        · have hm : mo < kn := Nat.lt_of_not_le fun h => c19 ((nI_leI hkn (by omega)).mpr h)
          refine lv_aload_n hx hb dX3_step_22 rfl (lv_at hl 1 rfl) ?_
          refine va_get (D := D) (ci := 3) (v := .int (nI (st + mo))) (C := RX3) (T := TX3) (N := 7) hx hb hts (by decide +kernel) hown hK hP 0 rfl rfl 1 (by decide) (hts (.fieldLink RX3 61 "LadderDeskModel" "steps" "I") (by decide +kernel)) (fun _ h9 => h9) rfl dX3_step_23 ?_
          refine lv_sipush (v := nI 255) hx hb dX3_step_26 (by decide) ?_
          refine lv_icmp_ge (tgt := 42) hx hb dX3_step_29 (by decide) (fun c29 => ?_) (fun c29 => absurd ((nI_leI (by omega) (by omega)).mpr (by omega)) c29)
          refine lv_sipush (v := nI 255) hx hb dX3_step_42 (by decide) ?_
          refine lv_aload_n hx hb dX3_step_45 rfl (lv_at hl 1 rfl) ?_
          refine va_get (D := D) (ci := 3) (v := .int (nI (st + mo))) (C := RX3) (T := TX3) (N := 7) hx hb hts (by decide +kernel) hown hK hP 0 rfl rfl 1 (by decide) (hts (.fieldLink RX3 61 "LadderDeskModel" "steps" "I") (by decide +kernel)) (fun _ h9 => h9) rfl dX3_step_46 ?_
          refine lv_isub hx hb dX3_step_49 ?_
          refine zi (y := nI (255 - (st + mo))) (pk_sub (by omega)) ?_
          exact z_iret hx hb hr hlocks dX3_step_50 hK hP hD hS (⟨by unfold aStep; rw [e1, if_pos ⟨rfl, by rw [nI_toInt hkn]; exact hk⟩], by rw [e1]; exact ⟨aSc, aPt, aDg, aSu, scf, ptf, dg', su', rfl, hI⟩⟩)
    · have hk : ¬ 1 ≤ k.toInt := fun h => c10 (Int32.le_iff_toInt_le.mpr (by rw [nI_toInt (by omega)]; exact h))
      refine lv_iconst (v := (-1)) hx hb dX3_step_13 (by decide) ?_
      have hn : ¬ (1 = 1 ∧ 1 ≤ k.toInt) := fun h => hk h.2
      exact z_iret hx hb hr hlocks dX3_step_14 hK hP hD hS (⟨by unfold aStep; rw [if_neg hn], by unfold sStep; rw [if_neg hn]; exact ⟨aSc, aPt, aDg, aSu, scf, ptf, dg, su, rfl, hMV⟩⟩)
theorem dn_254 : ∀ i, i < 255 → nI (254 - i) + Int32.ofInt (-1) = nI 254 - nI (i + 1) := by decide +kernel
set_option maxRecDepth 100000 in
set_option maxHeartbeats 4000000 in
theorem M_finish (l : Launch) (D : va_G) (cA cI : ClassId) (tys : List (ClassId × FieldType)) (om ph st : Nat) (rs : Int32) (sc pt : Nat → Int64) (ws : va_W) (hMI : MI cA cI om ph st rs sc pt ws)  : zCi l D ((cA, .long) :: (cI, .int) :: tys) yX3_finish wsX3_finish ({ frames := 4, cells := 0, slots := 0, locals := 95 }) [.ref om] (ws) (fun r u => (ph = 1 ∧ st = 255 ∧ r = 1 ∧ MI cA cI om 2 st (rs + 1) sc pt u) ∨ (¬ (ph = 1 ∧ st = 255) ∧ r = 0 ∧ MI cA cI om ph st rs sc pt u)) := by
  obtain ⟨aSc, aPt, aDg, aSu, scf, ptf, dg, su, rfl, hMV⟩ := hMI
  obtain ⟨v_sc, v_pt, v_lad, v_rs, v_ph, v_st, v_2⟩ := id hMV
  refine z_met (fun A => va_Qi (fun r u => (ph = 1 ∧ st = 255 ∧ r = 1 ∧ MI cA cI om 2 st (rs + 1) sc pt u) ∨ (¬ (ph = 1 ∧ st = 255) ∧ r = 0 ∧ MI cA cI om ph st rs sc pt u)) (zB D ((cA, .long) :: (cI, .int) :: tys) A) A) (by decide) rfl (Nat.le_of_ble_eq_true rfl) ?_
  intro p e s m below meth c hx hb hr hml hts hown hlocks hname A hA hP hK hD hS ls hl
  have hown : s.vm.findClass RX3 = some m.cls := hown
  have hl : lv_has ls 2 [(0, .ref om)] := hl
  refine lv_aload_n hx hb dX3_finish_0 rfl (lv_at hl 0 rfl) ?_
  refine va_get (D := D) (ci := 3) (v := .int (nI ph)) (C := RX3) (T := TX3) (N := 7) hx hb hts (by decide +kernel) hown hK hP 0 rfl rfl 0 (by decide) (hts (.fieldLink RX3 53 "LadderDeskModel" "phase" "I") (by decide +kernel)) (fun _ h9 => h9) rfl dX3_finish_1 ?_
  refine lv_iconst (v := nI 1) hx hb dX3_finish_4 (by decide) ?_
  refine lv_icmp_ne (tgt := 18) hx hb dX3_finish_5 (by decide) (fun c5 => ?_) (fun c5 => ?_)
  · have hc : ¬ ph = 1 := fun e => c5 (by rw [e])
    refine lv_iconst (v := nI 0) hx hb dX3_finish_18 (by decide) ?_
    exact z_iret hx hb hr hlocks dX3_finish_19 hK hP hD hS (Or.inr ⟨fun h => hc h.1, rfl, ⟨aSc, aPt, aDg, aSu, scf, ptf, dg, su, rfl, hMV⟩⟩)
  · have hc : ph = 1 := (nI_eq (by omega) (by omega)).mp c5
    subst hc
    refine lv_aload_n hx hb dX3_finish_8 rfl (lv_at hl 0 rfl) ?_
    refine va_get (D := D) (ci := 3) (v := .int (nI st)) (C := RX3) (T := TX3) (N := 7) hx hb hts (by decide +kernel) hown hK hP 0 rfl rfl 1 (by decide) (hts (.fieldLink RX3 61 "LadderDeskModel" "steps" "I") (by decide +kernel)) (fun _ h9 => h9) rfl dX3_finish_9 ?_
    refine lv_sipush (v := nI 255) hx hb dX3_finish_12 (by decide) ?_
    refine lv_icmp_ge (tgt := 20) hx hb dX3_finish_15 (by decide) (fun c15 => ?_) (fun c15 => ?_)
    · have hc2 : st = 255 := by have := (nI_leI (by omega) (by omega)).mp c15; omega
      subst hc2
      obtain ⟨hU, hX2, hZ2, hX3, hZ3⟩ := v_lad (by decide)
      refine lv_aload_n hx hb dX3_finish_20 rfl (lv_at hl 0 rfl) ?_
      refine lv_bipush (v := nI 6) hx hb dX3_finish_21 (by decide) ?_
      refine lv_iconst (v := nI 1) hx hb dX3_finish_23 (by decide) ?_
      refine z_callv (va_runV (As := [.int (nI 6), .int (nI 1)]) (rest := []) ⟨hx, hb, hml, hown, hts⟩ (m_setSmall l D cA cI tys om aSc aPt aDg aSu (nI 1) (nI 255) rs scf ptf dg su 6 (by omega) (nI 1) _) (cwV 2 hts gX3_finish_X3_setSmall rfl rfl rfl (by decide +kernel) ⟨Nat.le_of_ble_eq_true rfl, Nat.le_of_ble_eq_true rfl⟩) (z_preV _ hK hP hD (ci := 3) (q0 := 0) rfl rfl) rfl rfl hl.1 rfl (lv_room (Nat.le_of_ble_eq_true rfl)) dX3_finish_24 ⟨Nat.le_of_ble_eq_true rfl, Nat.le_of_ble_eq_true rfl⟩) hD hS hA (fun u H locs hu hP hD hS => ?_)
      obtain ⟨d1, k1, w1, rfl⟩ := hu
      have w1 := sm_dh w1 (by decide)
      refine lv_sipush (v := nI 254) hx hb dX3_finish_27 (by decide) ?_
      refine lv_istore_n (lv' := [(1, .int (nI 254)), (0, .ref om)]) hx hb dX3_finish_30 rfl hl (by decide) rfl (fun ls hl => ?_)
      refine z_loop (fun i H locs ls => ∃ (dg' : Nat → Int32) (su' : Nat → Int64), (∀ j, j / 16 ≠ 6 → dg' j = dg j) ∧ dc dg' 6 (pw (lad sc pt 255).2.1 i) ∧ zH D A s.heap ([(om, .inr (3, [.int (nI 1), .int (nI 255), .int rs, .ref aSc, .ref aPt, .ref aDg, .ref aSu])), (aSc, .inl (cA, 4, .inr (.inl scf))), (aPt, .inl (cA, 4, .inr (.inl ptf))), (aDg, .inl (cI, 208, .inl dg')), (aSu, .inl (cA, 32, .inr (.inl su')))]) H locs ∧ lv_has ls 2 [(1, .int (nI 254 - nI i)), (0, .ref om)]) 255 ?_ ?_ ?_
      · exact ⟨d1, su, k1, w1, ⟨hP, hD, hS⟩, lv_eq (by rw [show nI 254 - nI 0 = nI 254 from by decide]) hl⟩
      · rintro i H locs ls hi ⟨dg', su', h1, h2, ⟨hP, hD, hS⟩, hl⟩ ih
        have hl : lv_has ls 2 [(1, .int (nI (254 - i))), (0, .ref om)] := by rw [← pk_sub (show i ≤ 254 by omega)]; exact hl
        refine lv_iload_n hx hb dX3_finish_31 rfl (lv_at hl 0 rfl) ?_
        refine lv_if_lt (tgt := 75) hx hb dX3_finish_32 (by decide) (fun c32 => absurd c32 (nI_pos (by omega))) (fun c32 => ?_)
        refine lv_aload_n hx hb dX3_finish_35 rfl (lv_at hl 1 rfl) ?_
        refine lv_bipush (v := nI 6) hx hb dX3_finish_36 (by decide) ?_
        refine lv_bipush (v := nI 6) hx hb dX3_finish_38 (by decide) ?_
        refine lv_bipush (v := nI 6) hx hb dX3_finish_40 (by decide) ?_
        refine z_callv (va_runV (As := [.int (nI 6), .int (nI 6), .int (nI 6)]) (rest := []) ⟨hx, hb, hml, hown, hts⟩ (m_multiply l D cA cI tys om aSc aPt aDg aSu (nI 1) (nI 255) rs scf ptf dg' su' 6 6 6 (by omega) (by omega) (by omega) _ _ h2 h2 _) (cwV 3 hts gX3_finish_X3_multiply rfl rfl rfl (by decide +kernel) ⟨Nat.le_of_ble_eq_true rfl, Nat.le_of_ble_eq_true rfl⟩) (z_preV _ hK hP hD (ci := 3) (q0 := 0) rfl rfl) rfl rfl hl.1 rfl (lv_room (Nat.le_of_ble_eq_true rfl)) dX3_finish_42 ⟨Nat.le_of_ble_eq_true rfl, Nat.le_of_ble_eq_true rfl⟩) hD hS hA (fun u H locs hu hP hD hS => ?_)
        obtain ⟨d2, s2, k2, w2, rfl⟩ := hu
        have z2_ : dc d2 1 (lad sc pt 255).2.1 := dc_kp (dc_kp (dc_of hZ2) (by omega) h1) (by omega) k2
        refine lv_iload_n hx hb dX3_finish_45 rfl (lv_at hl 0 rfl) ?_
        refine lv_iconst (v := nI 5) hx hb dX3_finish_46 (by decide) ?_
        refine lv_icmp_ge (tgt := 60) hx hb dX3_finish_47 (by decide) (fun c47 => ?_) (fun c47 => ?_)
        · have q1 := (nI_leI (by omega) (by omega)).mp c47
          refine lv_aload_n hx hb dX3_finish_60 rfl (lv_at hl 1 rfl) ?_
          refine lv_bipush (v := nI 6) hx hb dX3_finish_61 (by decide) ?_
          refine lv_bipush (v := nI 6) hx hb dX3_finish_63 (by decide) ?_
          refine lv_iconst (v := nI 1) hx hb dX3_finish_65 (by decide) ?_
          refine z_callv (va_runV (As := [.int (nI 6), .int (nI 6), .int (nI 1)]) (rest := []) ⟨hx, hb, hml, hown, hts⟩ (m_multiply l D cA cI tys om aSc aPt aDg aSu (nI 1) (nI 255) rs scf ptf d2 s2 6 6 1 (by omega) (by omega) (by omega) _ _ w2 z2_ _) (cwV 3 hts gX3_finish_X3_multiply rfl rfl rfl (by decide +kernel) ⟨Nat.le_of_ble_eq_true rfl, Nat.le_of_ble_eq_true rfl⟩) (z_preV _ hK hP hD (ci := 3) (q0 := 0) rfl rfl) rfl rfl hl.1 rfl (lv_room (Nat.le_of_ble_eq_true rfl)) dX3_finish_66 ⟨Nat.le_of_ble_eq_true rfl, Nat.le_of_ble_eq_true rfl⟩) hD hS hA (fun u H locs hu hP hD hS => ?_)
          obtain ⟨d3, s3, k3, w3, rfl⟩ := hu
          refine lv_iinc (v := nI 254 - nI (i + 1)) (lv' := [(1, .int (nI 254 - nI (i + 1))), (0, .ref om)]) hx hb dX3_finish_69 hl (k := 0) rfl (dn_254 i hi) (by decide) rfl (fun ls hl => ?_)
          refine lv_goto (tgt := 31) hx hb dX3_finish_72 (by decide) ?_
          exact ih _ _ _ ⟨d3, s3, fun j hj => by rw [k3 j hj, k2 j hj, h1 j hj], by rw [pw_b (by omega)]; exact w3, ⟨hP, hD, hS⟩, hl⟩
        · have q1 : 254 - i < 5 := Nat.lt_of_not_le fun h => c47 ((nI_leI (by omega) (by omega)).mpr h)
          refine lv_iload_n hx hb dX3_finish_50 rfl (lv_at hl 0 rfl) ?_
          refine lv_iconst (v := nI 3) hx hb dX3_finish_51 (by decide) ?_
          refine lv_icmp_eq (tgt := 60) hx hb dX3_finish_52 (by decide) (fun c52 => ?_) (fun c52 => ?_)
          · have q2 := (nI_eq (by omega) (by omega)).mp c52
            refine lv_aload_n hx hb dX3_finish_60 rfl (lv_at hl 1 rfl) ?_
            refine lv_bipush (v := nI 6) hx hb dX3_finish_61 (by decide) ?_
            refine lv_bipush (v := nI 6) hx hb dX3_finish_63 (by decide) ?_
            refine lv_iconst (v := nI 1) hx hb dX3_finish_65 (by decide) ?_
            refine z_callv (va_runV (As := [.int (nI 6), .int (nI 6), .int (nI 1)]) (rest := []) ⟨hx, hb, hml, hown, hts⟩ (m_multiply l D cA cI tys om aSc aPt aDg aSu (nI 1) (nI 255) rs scf ptf d2 s2 6 6 1 (by omega) (by omega) (by omega) _ _ w2 z2_ _) (cwV 3 hts gX3_finish_X3_multiply rfl rfl rfl (by decide +kernel) ⟨Nat.le_of_ble_eq_true rfl, Nat.le_of_ble_eq_true rfl⟩) (z_preV _ hK hP hD (ci := 3) (q0 := 0) rfl rfl) rfl rfl hl.1 rfl (lv_room (Nat.le_of_ble_eq_true rfl)) dX3_finish_66 ⟨Nat.le_of_ble_eq_true rfl, Nat.le_of_ble_eq_true rfl⟩) hD hS hA (fun u H locs hu hP hD hS => ?_)
            obtain ⟨d3, s3, k3, w3, rfl⟩ := hu
            refine lv_iinc (v := nI 254 - nI (i + 1)) (lv' := [(1, .int (nI 254 - nI (i + 1))), (0, .ref om)]) hx hb dX3_finish_69 hl (k := 0) rfl (dn_254 i hi) (by decide) rfl (fun ls hl => ?_)
            refine lv_goto (tgt := 31) hx hb dX3_finish_72 (by decide) ?_
            exact ih _ _ _ ⟨d3, s3, fun j hj => by rw [k3 j hj, k2 j hj, h1 j hj], by rw [pw_b (by omega)]; exact w3, ⟨hP, hD, hS⟩, hl⟩
          · have q2 : ¬ 254 - i = 3 := fun h => c52 (by rw [h])
            refine lv_iload_n hx hb dX3_finish_55 rfl (lv_at hl 0 rfl) ?_
            refine lv_iconst (v := nI 2) hx hb dX3_finish_56 (by decide) ?_
            refine lv_icmp_ge (tgt := 69) hx hb dX3_finish_57 (by decide) (fun c57 => ?_) (fun c57 => ?_)
            · have q3 := (nI_leI (by omega) (by omega)).mp c57
              refine lv_iinc (v := nI 254 - nI (i + 1)) (lv' := [(1, .int (nI 254 - nI (i + 1))), (0, .ref om)]) hx hb dX3_finish_69 hl (k := 0) rfl (dn_254 i hi) (by decide) rfl (fun ls hl => ?_)
              refine lv_goto (tgt := 31) hx hb dX3_finish_72 (by decide) ?_
              exact ih _ _ _ ⟨d2, s2, fun j hj => by rw [k2 j hj, h1 j hj], by rw [pw_a (by omega)]; exact w2, ⟨hP, hD, hS⟩, hl⟩
            · have q3 : 254 - i < 2 := Nat.lt_of_not_le fun h => c57 ((nI_leI (by omega) (by omega)).mpr h)
              refine lv_aload_n hx hb dX3_finish_60 rfl (lv_at hl 1 rfl) ?_
              refine lv_bipush (v := nI 6) hx hb dX3_finish_61 (by decide) ?_
              refine lv_bipush (v := nI 6) hx hb dX3_finish_63 (by decide) ?_
              refine lv_iconst (v := nI 1) hx hb dX3_finish_65 (by decide) ?_
              refine z_callv (va_runV (As := [.int (nI 6), .int (nI 6), .int (nI 1)]) (rest := []) ⟨hx, hb, hml, hown, hts⟩ (m_multiply l D cA cI tys om aSc aPt aDg aSu (nI 1) (nI 255) rs scf ptf d2 s2 6 6 1 (by omega) (by omega) (by omega) _ _ w2 z2_ _) (cwV 3 hts gX3_finish_X3_multiply rfl rfl rfl (by decide +kernel) ⟨Nat.le_of_ble_eq_true rfl, Nat.le_of_ble_eq_true rfl⟩) (z_preV _ hK hP hD (ci := 3) (q0 := 0) rfl rfl) rfl rfl hl.1 rfl (lv_room (Nat.le_of_ble_eq_true rfl)) dX3_finish_66 ⟨Nat.le_of_ble_eq_true rfl, Nat.le_of_ble_eq_true rfl⟩) hD hS hA (fun u H locs hu hP hD hS => ?_)
              obtain ⟨d3, s3, k3, w3, rfl⟩ := hu
              refine lv_iinc (v := nI 254 - nI (i + 1)) (lv' := [(1, .int (nI 254 - nI (i + 1))), (0, .ref om)]) hx hb dX3_finish_69 hl (k := 0) rfl (dn_254 i hi) (by decide) rfl (fun ls hl => ?_)
              refine lv_goto (tgt := 31) hx hb dX3_finish_72 (by decide) ?_
              exact ih _ _ _ ⟨d3, s3, fun j hj => by rw [k3 j hj, k2 j hj, h1 j hj], by rw [pw_b (by omega)]; exact w3, ⟨hP, hD, hS⟩, hl⟩
      · rintro H locs ls ⟨dg', su', h1, h2, ⟨hP, hD, hS⟩, hl⟩
        refine lv_iload_n hx hb dX3_finish_31 rfl (lv_at hl 0 rfl) ?_
        refine lv_if_lt (tgt := 75) hx hb dX3_finish_32 (by decide) (fun c32 => ?_) (fun c32 => absurd (by decide) c32)
        refine lv_aload_n hx hb dX3_finish_75 rfl (lv_at hl 1 rfl) ?_
        refine lv_iconst (v := nI 5) hx hb dX3_finish_76 (by decide) ?_
        refine lv_iconst (v := nI 0) hx hb dX3_finish_77 (by decide) ?_
        refine lv_bipush (v := nI 6) hx hb dX3_finish_78 (by decide) ?_
        refine z_callv (va_runV (As := [.int (nI 5), .int (nI 0), .int (nI 6)]) (rest := []) ⟨hx, hb, hml, hown, hts⟩ (m_multiply l D cA cI tys om aSc aPt aDg aSu (nI 1) (nI 255) rs scf ptf dg' su' 5 0 6 (by omega) (by omega) (by omega) _ _ (dc_kp (dc_of hX2) (by omega) h1) h2 _) (cwV 3 hts gX3_finish_X3_multiply rfl rfl rfl (by decide +kernel) ⟨Nat.le_of_ble_eq_true rfl, Nat.le_of_ble_eq_true rfl⟩) (z_preV _ hK hP hD (ci := 3) (q0 := 0) rfl rfl) rfl rfl hl.1 rfl (lv_room (Nat.le_of_ble_eq_true rfl)) dX3_finish_80 ⟨Nat.le_of_ble_eq_true rfl, Nat.le_of_ble_eq_true rfl⟩) hD hS hA (fun u H locs hu hP hD hS => ?_)
        obtain ⟨d4, s4, k4, w4, rfl⟩ := hu
        unfold dc at w4
        rw [← res_int] at w4
        refine lv_aload_n hx hb dX3_finish_83 rfl (lv_at hl 1 rfl) ?_
        refine lv_iconst (v := nI 2) hx hb dX3_finish_84 (by decide) ?_
        refine va_put (D := D) (ci := 3) (v := .int (nI 2)) (ty := .int) (C := RX3) (T := TX3) (N := 7) hx hb hts (by decide +kernel) tyX3 tyX3_ok nmX3 hown hK hP hD hS 0 rfl rfl 0 (by decide) (hts (.fieldLink RX3 53 "LadderDeskModel" "phase" "I") (by decide +kernel)) (fun _ h9 => h9) rfl (by decide +kernel) rfl rfl (Nat.le_of_ble_eq_true rfl) dX3_finish_85 (fun H locs hP hD hS => ?_)
        have hP : va_P D vwCl ([(om, .inr (3, [.int (nI 2), .int (nI 255), .int rs, .ref aSc, .ref aPt, .ref aDg, .ref aSu])), (aSc, .inl (cA, 4, .inr (.inl scf))), (aPt, .inl (cA, 4, .inr (.inl ptf))), (aDg, .inl (cI, 208, .inl d4)), (aSu, .inl (cA, 32, .inr (.inl s4)))]) H := hP
        have hD : va_D A ([(om, .inr (3, [.int (nI 2), .int (nI 255), .int rs, .ref aSc, .ref aPt, .ref aDg, .ref aSu])), (aSc, .inl (cA, 4, .inr (.inl scf))), (aPt, .inl (cA, 4, .inr (.inl ptf))), (aDg, .inl (cI, 208, .inl d4)), (aSu, .inl (cA, 32, .inr (.inl s4)))]) := hD
        refine lv_aload_n hx hb dX3_finish_88 rfl (lv_at hl 1 rfl) ?_
        refine lv_dup hx hb dX3_finish_89 rfl ?_
        refine va_get (D := D) (ci := 3) (v := .int rs) (C := RX3) (T := TX3) (N := 7) hx hb hts (by decide +kernel) hown hK hP 0 rfl rfl 2 (by decide) (hts (.fieldLink RX3 97 "LadderDeskModel" "results" "I") (by decide +kernel)) (fun _ h9 => h9) rfl dX3_finish_90 ?_
        refine lv_iconst (v := nI 1) hx hb dX3_finish_93 (by decide) ?_
        refine lv_iadd hx hb dX3_finish_94 ?_
        refine zi (y := rs + 1) rfl ?_
        refine va_put (D := D) (ci := 3) (v := .int (rs + 1)) (ty := .int) (C := RX3) (T := TX3) (N := 7) hx hb hts (by decide +kernel) tyX3 tyX3_ok nmX3 hown hK hP hD hS 0 rfl rfl 2 (by decide) (hts (.fieldLink RX3 97 "LadderDeskModel" "results" "I") (by decide +kernel)) (fun _ h9 => h9) rfl (by decide +kernel) rfl rfl (Nat.le_of_ble_eq_true rfl) dX3_finish_95 (fun H locs hP hD hS => ?_)
        have hP : va_P D vwCl ([(om, .inr (3, [.int (nI 2), .int (nI 255), .int (rs + 1), .ref aSc, .ref aPt, .ref aDg, .ref aSu])), (aSc, .inl (cA, 4, .inr (.inl scf))), (aPt, .inl (cA, 4, .inr (.inl ptf))), (aDg, .inl (cI, 208, .inl d4)), (aSu, .inl (cA, 32, .inr (.inl s4)))]) H := hP
        have hD : va_D A ([(om, .inr (3, [.int (nI 2), .int (nI 255), .int (rs + 1), .ref aSc, .ref aPt, .ref aDg, .ref aSu])), (aSc, .inl (cA, 4, .inr (.inl scf))), (aPt, .inl (cA, 4, .inr (.inl ptf))), (aDg, .inl (cI, 208, .inl d4)), (aSu, .inl (cA, 32, .inr (.inl s4)))]) := hD
        refine lv_iconst (v := nI 1) hx hb dX3_finish_98 (by decide) ?_
        exact z_iret hx hb hr hlocks dX3_finish_99 hK hP hD hS (Or.inl ⟨rfl, rfl, rfl, ⟨aSc, aPt, aDg, aSu, scf, ptf, d4, s4, rfl, ⟨v_sc, v_pt, fun _ => ⟨dh_kp (dh_kp hU (by omega) h1) (by omega) k4, dh_kp (dh_kp hX2 (by omega) h1) (by omega) k4, dh_kp (dh_kp hZ2 (by omega) h1) (by omega) k4, dh_kp (dh_kp hX3 (by omega) h1) (by omega) k4, dh_kp (dh_kp hZ3 (by omega) h1) (by omega) k4⟩, fun _ => w4, by omega, by omega, fun _ => rfl⟩⟩⟩)
    · have hc2 : ¬ st = 255 := fun e => c15 (by rw [e]; exact Int32.le_refl _)
      refine lv_iconst (v := nI 0) hx hb dX3_finish_18 (by decide) ?_
      exact z_iret hx hb hr hlocks dX3_finish_19 hK hP hD hS (Or.inr ⟨fun h => hc2 h.2, rfl, ⟨aSc, aPt, aDg, aSu, scf, ptf, dg, su, rfl, hMV⟩⟩)
set_option maxRecDepth 100000 in
set_option maxHeartbeats 4000000 in
theorem M_again (l : Launch) (D : va_G) (cA cI : ClassId) (tys : List (ClassId × FieldType)) (om ph st : Nat) (rs : Int32) (sc pt : Nat → Int64) (ws : va_W) (hMI : MI cA cI om ph st rs sc pt ws)  : zCi l D ((cA, .long) :: (cI, .int) :: tys) yX3_again wsX3_again ({ frames := 1, cells := 0, slots := 0, locals := 25 }) [.ref om] (ws) (fun r u => (ph = 2 ∧ r = 1 ∧ MI cA cI om 0 st rs sc (ow (res sc pt)) u) ∨ (ph ≠ 2 ∧ r = 0 ∧ MI cA cI om ph st rs sc pt u)) := by
  obtain ⟨aSc, aPt, aDg, aSu, scf, ptf, dg, su, rfl, hMV⟩ := hMI
  obtain ⟨v_sc, v_pt, v_lad, v_rs, v_ph, v_st, v_2⟩ := id hMV
  refine z_met (fun A => va_Qi (fun r u => (ph = 2 ∧ r = 1 ∧ MI cA cI om 0 st rs sc (ow (res sc pt)) u) ∨ (ph ≠ 2 ∧ r = 0 ∧ MI cA cI om ph st rs sc pt u)) (zB D ((cA, .long) :: (cI, .int) :: tys) A) A) (by decide) rfl (Nat.le_of_ble_eq_true rfl) ?_
  intro p e s m below meth c hx hb hr hml hts hown hlocks hname A hA hP hK hD hS ls hl
  have hown : s.vm.findClass RX3 = some m.cls := hown
  have hl : lv_has ls 2 [(0, .ref om)] := hl
  refine lv_aload_n hx hb dX3_again_0 rfl (lv_at hl 0 rfl) ?_
  refine va_get (D := D) (ci := 3) (v := .int (nI ph)) (C := RX3) (T := TX3) (N := 7) hx hb hts (by decide +kernel) hown hK hP 0 rfl rfl 0 (by decide) (hts (.fieldLink RX3 53 "LadderDeskModel" "phase" "I") (by decide +kernel)) (fun _ h9 => h9) rfl dX3_again_1 ?_
  refine lv_iconst (v := nI 2) hx hb dX3_again_4 (by decide) ?_
  refine lv_icmp_eq (tgt := 10) hx hb dX3_again_5 (by decide) (fun c5 => ?_) (fun c5 => ?_)
  · have hc : ph = 2 := (nI_eq (by omega) (by omega)).mp c5
    subst hc
    have hR := v_rs rfl
    refine lv_iconst (v := nI 0) hx hb dX3_again_10 (by decide) ?_
    refine lv_istore_n (lv' := [(1, .int (nI 0)), (0, .ref om)]) hx hb dX3_again_11 rfl hl (by decide) rfl (fun ls hl => ?_)
    refine z_loop (fun i H locs ls => ∃ f : Nat → Int64, (∀ j, j < i → f j = ow (res sc pt) j) ∧ zH D A s.heap ([(om, .inr (3, [.int (nI 2), .int (nI st), .int rs, .ref aSc, .ref aPt, .ref aDg, .ref aSu])), (aSc, .inl (cA, 4, .inr (.inl scf))), (aPt, .inl (cA, 4, .inr (.inl f))), (aDg, .inl (cI, 208, .inl dg)), (aSu, .inl (cA, 32, .inr (.inl su)))]) H locs ∧ lv_has ls 2 [(1, .int (nI i)), (0, .ref om)]) 4 ?_ ?_ ?_
    · exact ⟨ptf, fun j h => by omega, ⟨hP, hD, hS⟩, hl⟩
    · rintro i H locs ls hi ⟨f, h1, ⟨hP, hD, hS⟩, hl⟩ ih
      refine lv_iload_n hx hb dX3_again_12 rfl (lv_at hl 0 rfl) ?_
      refine lv_iconst (v := nI 4) hx hb dX3_again_13 (by decide) ?_
      refine lv_icmp_ge (tgt := 35) hx hb dX3_again_14 (by decide) (fun c14 => absurd ((nI_leI (by omega) (by omega)).mp c14) (by omega)) (fun c14 => ?_)
      refine lv_aload_n hx hb dX3_again_17 rfl (lv_at hl 1 rfl) ?_
      refine va_get (D := D) (ci := 3) (v := .ref aPt) (C := RX3) (T := TX3) (N := 7) hx hb hts (by decide +kernel) hown hK hP 0 rfl rfl 4 (by decide) (hts (.fieldLink RX3 13 "LadderDeskModel" "point" "[J") (by decide +kernel)) (fun _ h9 => h9) rfl dX3_again_18 ?_
      refine lv_iload_n hx hb dX3_again_21 rfl (lv_at hl 0 rfl) ?_
      refine lv_aload_n hx hb dX3_again_22 rfl (lv_at hl 1 rfl) ?_
      refine lv_iconst (v := nI 5) hx hb dX3_again_23 (by decide) ?_
      refine lv_iload_n hx hb dX3_again_24 rfl (lv_at hl 0 rfl) ?_
      refine z_calll (va_runV (As := [.int (nI 5), .int (nI i)]) (rest := [.int (nI i), .ref aPt]) ⟨hx, hb, hml, hown, hts⟩ (m_longOf l D cA cI tys om aSc aPt aDg aSu (nI 2) (nI st) rs scf f dg su 5 i (by omega) hi _ hR _) (cwV 2 hts gX3_again_X3_longOf rfl rfl rfl (by decide +kernel) ⟨Nat.le_of_ble_eq_true rfl, Nat.le_of_ble_eq_true rfl⟩) (z_preV _ hK hP hD (ci := 3) (q0 := 0) rfl rfl) rfl rfl hl.1 rfl (lv_room (Nat.le_of_ble_eq_true rfl)) dX3_again_25 ⟨Nat.le_of_ble_eq_true rfl, Nat.le_of_ble_eq_true rfl⟩) hD hS hA (fun r25 u H locs hu hP hD hS => ?_)
      obtain ⟨hr25, rfl⟩ := hu
      refine y_st hx hb hK hP hD hS 2 0 rfl rfl i rfl (by omega) (by omega) dX3_again_28 (fun H locs hP hD hS => ?_)
      have hP : va_P D vwCl ([(om, .inr (3, [.int (nI 2), .int (nI st), .int rs, .ref aSc, .ref aPt, .ref aDg, .ref aSu])), (aSc, .inl (cA, 4, .inr (.inl scf))), (aPt, .inl (cA, 4, .inr (.inl (vp_updL f i r25)))), (aDg, .inl (cI, 208, .inl dg)), (aSu, .inl (cA, 32, .inr (.inl su)))]) H := hP
      have hD : va_D A ([(om, .inr (3, [.int (nI 2), .int (nI st), .int rs, .ref aSc, .ref aPt, .ref aDg, .ref aSu])), (aSc, .inl (cA, 4, .inr (.inl scf))), (aPt, .inl (cA, 4, .inr (.inl (vp_updL f i r25)))), (aDg, .inl (cI, 208, .inl dg)), (aSu, .inl (cA, 32, .inr (.inl su)))]) := hD
      refine lv_iinc (v := nI (i + 1)) (lv' := [(1, .int (nI (i + 1))), (0, .ref om)]) hx hb dX3_again_29 hl (k := 0) rfl (by show nI _ + nI 1 = _; exact nI_add _ _) (by decide) rfl (fun ls hl => ?_)
      refine lv_goto (tgt := 12) hx hb dX3_again_32 (by decide) ?_
      exact ih _ _ _ ⟨_, fun j hj => by
        unfold vp_updL
        by_cases e : j = i
        · subst e; rw [if_pos rfl, hr25]; rfl
        · rw [if_neg e]; exact h1 j (by omega), ⟨hP, hD, hS⟩, hl⟩
    · rintro H locs ls ⟨f, h1, ⟨hP, hD, hS⟩, hl⟩
      refine lv_iload_n hx hb dX3_again_12 rfl (lv_at hl 0 rfl) ?_
      refine lv_iconst (v := nI 4) hx hb dX3_again_13 (by decide) ?_
      refine lv_icmp_ge (tgt := 35) hx hb dX3_again_14 (by decide) (fun c14 => ?_) (fun c14 => absurd ((nI_leI (by omega) (by omega)).mpr (by omega)) c14)
      refine lv_aload_n hx hb dX3_again_35 rfl (lv_at hl 1 rfl) ?_
      refine lv_iconst (v := nI 0) hx hb dX3_again_36 (by decide) ?_
      refine va_put (D := D) (ci := 3) (v := .int (nI 0)) (ty := .int) (C := RX3) (T := TX3) (N := 7) hx hb hts (by decide +kernel) tyX3 tyX3_ok nmX3 hown hK hP hD hS 0 rfl rfl 0 (by decide) (hts (.fieldLink RX3 53 "LadderDeskModel" "phase" "I") (by decide +kernel)) (fun _ h9 => h9) rfl (by decide +kernel) rfl rfl (Nat.le_of_ble_eq_true rfl) dX3_again_37 (fun H locs hP hD hS => ?_)
      have hP : va_P D vwCl ([(om, .inr (3, [.int (nI 0), .int (nI st), .int rs, .ref aSc, .ref aPt, .ref aDg, .ref aSu])), (aSc, .inl (cA, 4, .inr (.inl scf))), (aPt, .inl (cA, 4, .inr (.inl f))), (aDg, .inl (cI, 208, .inl dg)), (aSu, .inl (cA, 32, .inr (.inl su)))]) H := hP
      have hD : va_D A ([(om, .inr (3, [.int (nI 0), .int (nI st), .int rs, .ref aSc, .ref aPt, .ref aDg, .ref aSu])), (aSc, .inl (cA, 4, .inr (.inl scf))), (aPt, .inl (cA, 4, .inr (.inl f))), (aDg, .inl (cI, 208, .inl dg)), (aSu, .inl (cA, 32, .inr (.inl su)))]) := hD
      refine lv_iconst (v := nI 1) hx hb dX3_again_40 (by decide) ?_
      exact z_iret hx hb hr hlocks dX3_again_41 hK hP hD hS (Or.inl ⟨rfl, rfl, ⟨aSc, aPt, aDg, aSu, scf, f, dg, su, rfl, MV_0 v_sc h1 v_st⟩⟩)
  · have hc : ph ≠ 2 := fun e => c5 (by rw [e])
    refine lv_iconst (v := nI 0) hx hb dX3_again_8 (by decide) ?_
    exact z_iret hx hb hr hlocks dX3_again_9 hK hP hD hS (Or.inr ⟨hc, rfl, ⟨aSc, aPt, aDg, aSu, scf, ptf, dg, su, rfl, hMV⟩⟩)
set_option maxRecDepth 100000 in
set_option maxHeartbeats 4000000 in
theorem M_reset (l : Launch) (D : va_G) (cA cI : ClassId) (tys : List (ClassId × FieldType)) (om ph st : Nat) (rs : Int32) (sc pt : Nat → Int64) (ws : va_W) (hMI : MI cA cI om ph st rs sc pt ws)  : zCi l D ((cA, .long) :: (cI, .int) :: tys) yX3_reset wsX3_reset ({ frames := 0, cells := 0, slots := 0, locals := 0 }) [.ref om] (ws) (fun r u => r = nI ph ∧ MI cA cI om 0 st rs sc pt u) := by
  obtain ⟨aSc, aPt, aDg, aSu, scf, ptf, dg, su, rfl, hMV⟩ := hMI
  obtain ⟨v_sc, v_pt, v_lad, v_rs, v_ph, v_st, v_2⟩ := id hMV
  refine z_met (fun A => va_Qi (fun r u => r = nI ph ∧ MI cA cI om 0 st rs sc pt u) (zB D ((cA, .long) :: (cI, .int) :: tys) A) A) (by decide) rfl (Nat.le_of_ble_eq_true rfl) ?_
  intro p e s m below meth c hx hb hr hml hts hown hlocks hname A hA hP hK hD hS ls hl
  have hown : s.vm.findClass RX3 = some m.cls := hown
  have hl : lv_has ls 2 [(0, .ref om)] := hl
  refine lv_aload_n hx hb dX3_reset_0 rfl (lv_at hl 0 rfl) ?_
  refine va_get (D := D) (ci := 3) (v := .int (nI ph)) (C := RX3) (T := TX3) (N := 7) hx hb hts (by decide +kernel) hown hK hP 0 rfl rfl 0 (by decide) (hts (.fieldLink RX3 53 "LadderDeskModel" "phase" "I") (by decide +kernel)) (fun _ h9 => h9) rfl dX3_reset_1 ?_
  refine lv_istore_n (lv' := [(1, .int (nI ph)), (0, .ref om)]) hx hb dX3_reset_4 rfl hl (by decide) rfl (fun ls hl => ?_)
  refine lv_aload_n hx hb dX3_reset_5 rfl (lv_at hl 1 rfl) ?_
  refine lv_iconst (v := nI 0) hx hb dX3_reset_6 (by decide) ?_
  refine va_put (D := D) (ci := 3) (v := .int (nI 0)) (ty := .int) (C := RX3) (T := TX3) (N := 7) hx hb hts (by decide +kernel) tyX3 tyX3_ok nmX3 hown hK hP hD hS 0 rfl rfl 0 (by decide) (hts (.fieldLink RX3 53 "LadderDeskModel" "phase" "I") (by decide +kernel)) (fun _ h9 => h9) rfl (by decide +kernel) rfl rfl (Nat.le_of_ble_eq_true rfl) dX3_reset_7 (fun H locs hP hD hS => ?_)
  have hP : va_P D vwCl ([(om, .inr (3, [.int (nI 0), .int (nI st), .int rs, .ref aSc, .ref aPt, .ref aDg, .ref aSu])), (aSc, .inl (cA, 4, .inr (.inl scf))), (aPt, .inl (cA, 4, .inr (.inl ptf))), (aDg, .inl (cI, 208, .inl dg)), (aSu, .inl (cA, 32, .inr (.inl su)))]) H := hP
  have hD : va_D A ([(om, .inr (3, [.int (nI 0), .int (nI st), .int rs, .ref aSc, .ref aPt, .ref aDg, .ref aSu])), (aSc, .inl (cA, 4, .inr (.inl scf))), (aPt, .inl (cA, 4, .inr (.inl ptf))), (aDg, .inl (cI, 208, .inl dg)), (aSu, .inl (cA, 32, .inr (.inl su)))]) := hD
  refine lv_iload_n hx hb dX3_reset_10 rfl (lv_at hl 0 rfl) ?_
  exact z_iret hx hb hr hlocks dX3_reset_11 hK hP hD hS (⟨rfl, ⟨aSc, aPt, aDg, aSu, scf, ptf, dg, su, rfl, MV_0 v_sc v_pt v_st⟩⟩)
set_option maxRecDepth 100000 in
set_option maxHeartbeats 4000000 in
theorem M_phase (l : Launch) (D : va_G) (cA cI : ClassId) (tys : List (ClassId × FieldType)) (om ph st : Nat) (rs : Int32) (sc pt : Nat → Int64) (ws : va_W) (hMI : MI cA cI om ph st rs sc pt ws)  : zCi l D ((cA, .long) :: (cI, .int) :: tys) yX3_phase wsX3_phase ({ frames := 0, cells := 0, slots := 0, locals := 0 }) [.ref om] (ws) (fun r u => r = nI ph ∧ MI cA cI om ph st rs sc pt u) := by
  obtain ⟨aSc, aPt, aDg, aSu, scf, ptf, dg, su, rfl, hMV⟩ := hMI
  obtain ⟨v_sc, v_pt, v_lad, v_rs, v_ph, v_st, v_2⟩ := id hMV
  refine z_met (fun A => va_Qi (fun r u => r = nI ph ∧ MI cA cI om ph st rs sc pt u) (zB D ((cA, .long) :: (cI, .int) :: tys) A) A) (by decide) rfl (Nat.le_of_ble_eq_true rfl) ?_
  intro p e s m below meth c hx hb hr hml hts hown hlocks hname A hA hP hK hD hS ls hl
  have hown : s.vm.findClass RX3 = some m.cls := hown
  have hl : lv_has ls 1 [(0, .ref om)] := hl
  refine lv_aload_n hx hb dX3_phase_0 rfl (lv_at hl 0 rfl) ?_
  refine va_get (D := D) (ci := 3) (v := .int (nI ph)) (C := RX3) (T := TX3) (N := 7) hx hb hts (by decide +kernel) hown hK hP 0 rfl rfl 0 (by decide) (hts (.fieldLink RX3 53 "LadderDeskModel" "phase" "I") (by decide +kernel)) (fun _ h9 => h9) rfl dX3_phase_1 ?_
  exact z_iret hx hb hr hlocks dX3_phase_4 hK hP hD hS (⟨rfl, ⟨aSc, aPt, aDg, aSu, scf, ptf, dg, su, rfl, hMV⟩⟩)
