set_option maxRecDepth 100000 in
set_option maxHeartbeats 4000000 in
theorem m_change (l : Launch) (D : va_G) (cA cI : ClassId) (tys : List (ClassId × FieldType)) (om aSc aPt aDg aSu : Nat) (fp fs fr : Int32) (scf ptf : Nat → Int64) (dg : Nat → Int32) (su : Nat → Int64) (bv : Int32) (bt : Bool) (hbt : bt = true ↔ ¬ bv = 0) (y0 y1 y2 y3 : Int) (h0 : dc dg 0 y0) (h1 : dc dg 1 y1) (h2 : dc dg 2 y2) (h3 : dc dg 3 y3) : zCv l D ((cA, .long) :: (cI, .int) :: tys) yX3_change wsX3_change ({ frames := 2, cells := 0, slots := 0, locals := 45 }) [.ref om, .int bv] ([(om, .inr (3, [.int fp, .int fs, .int fr, .ref aSc, .ref aPt, .ref aDg, .ref aSu])), (aSc, .inl (cA, 4, .inr (.inl scf))), (aPt, .inl (cA, 4, .inr (.inl ptf))), (aDg, .inl (cI, 208, .inl dg)), (aSu, .inl (cA, 32, .inr (.inl su)))]) (fun (u : va_W) => ∃ dg' : Nat → Int32, (∀ i, 4 ≤ i / 16 → i / 16 ≠ 12 → dg' i = dg i) ∧ dc dg' 0 (if bt then y2 else y0) ∧ dc dg' 1 (if bt then y3 else y1) ∧ dc dg' 2 (if bt then y0 else y2) ∧ dc dg' 3 (if bt then y1 else y3) ∧ u = [(om, .inr (3, [.int fp, .int fs, .int fr, .ref aSc, .ref aPt, .ref aDg, .ref aSu])), (aSc, .inl (cA, 4, .inr (.inl scf))), (aPt, .inl (cA, 4, .inr (.inl ptf))), (aDg, .inl (cI, 208, .inl dg')), (aSu, .inl (cA, 32, .inr (.inl su)))]) := by
  refine z_met (fun A => va_Qv (fun (u : va_W) => ∃ dg' : Nat → Int32, (∀ i, 4 ≤ i / 16 → i / 16 ≠ 12 → dg' i = dg i) ∧ dc dg' 0 (if bt then y2 else y0) ∧ dc dg' 1 (if bt then y3 else y1) ∧ dc dg' 2 (if bt then y0 else y2) ∧ dc dg' 3 (if bt then y1 else y3) ∧ u = [(om, .inr (3, [.int fp, .int fs, .int fr, .ref aSc, .ref aPt, .ref aDg, .ref aSu])), (aSc, .inl (cA, 4, .inr (.inl scf))), (aPt, .inl (cA, 4, .inr (.inl ptf))), (aDg, .inl (cI, 208, .inl dg')), (aSu, .inl (cA, 32, .inr (.inl su)))]) (zB D ((cA, .long) :: (cI, .int) :: tys) A) A) (by decide) rfl (Nat.le_of_ble_eq_true rfl) ?_
  intro p e s m below meth c hx hb hr hml hts hown hlocks hname A hA hP hK hD hS ls hl
  have hown : s.vm.findClass RX3 = some m.cls := hown
  have hl : lv_has ls 2 [(0, .ref om), (1, .int bv)] := hl
  refine lv_iload_n hx hb dX3_change_0 rfl (lv_at hl 1 rfl) ?_
  refine lv_if_eq (tgt := 16) hx hb dX3_change_1 (by decide) (fun c1 => ?_) (fun c1 => ?_)
  · have hb0 : bt = false := by cases bt with | false => rfl | true => exact absurd c1 (hbt.mp rfl)
    subst hb0
    exact z_vret hx hb hr hlocks dX3_change_16 hK hP hD hS (⟨dg, fun _ _ _ => rfl, h0, h1, h2, h3, rfl⟩)
  · have hb0 : bt = true := hbt.mpr c1
    subst hb0
    refine lv_aload_n hx hb dX3_change_4 rfl (lv_at hl 0 rfl) ?_
    refine lv_iconst (v := nI 0) hx hb dX3_change_5 (by decide) ?_
    refine lv_iconst (v := nI 2) hx hb dX3_change_6 (by decide) ?_
    refine z_callv (va_runV (As := [.int (nI 0), .int (nI 2)]) (rest := []) ⟨hx, hb, hml, hown, hts⟩ (m_swap l D cA cI tys om aSc aPt aDg aSu fp fs fr scf ptf dg su 0 2 (by omega) (by omega) (by omega) _ _ h0 h2 _) (cwV 2 hts gX3_change_X3_swap rfl rfl rfl (by decide +kernel) ⟨Nat.le_of_ble_eq_true rfl, Nat.le_of_ble_eq_true rfl⟩) (z_preV _ hK hP hD (ci := 3) (q0 := 0) rfl rfl) rfl rfl hl.1 rfl (lv_room (Nat.le_of_ble_eq_true rfl)) dX3_change_7 ⟨Nat.le_of_ble_eq_true rfl, Nat.le_of_ble_eq_true rfl⟩) hD hS hA (fun u H locs hu hP hD hS => ?_)
    obtain ⟨d1, k1, a1, a2, rfl⟩ := hu
    have b1 : dh d1 1 (y1 % pP) := by
      refine ⟨fun k hk => ?_, ?_, h1.2.2⟩
      · unfold dd; rw [k1 _ (by omega) (by omega) (by omega)]; exact h1.1 k hk
      · rw [sv_congr (g := dd dg 1) (fun k hk => by unfold dd; rw [k1 _ (by omega) (by omega) (by omega)])]; exact h1.2.1
    have b3 : dh d1 3 (y3 % pP) := by
      refine ⟨fun k hk => ?_, ?_, h3.2.2⟩
      · unfold dd; rw [k1 _ (by omega) (by omega) (by omega)]; exact h3.1 k hk
      · rw [sv_congr (g := dd dg 3) (fun k hk => by unfold dd; rw [k1 _ (by omega) (by omega) (by omega)])]; exact h3.2.1
    refine lv_aload_n hx hb dX3_change_10 rfl (lv_at hl 0 rfl) ?_
    refine lv_iconst (v := nI 1) hx hb dX3_change_11 (by decide) ?_
    refine lv_iconst (v := nI 3) hx hb dX3_change_12 (by decide) ?_
    refine z_callv (va_runV (As := [.int (nI 1), .int (nI 3)]) (rest := []) ⟨hx, hb, hml, hown, hts⟩ (m_swap l D cA cI tys om aSc aPt aDg aSu fp fs fr scf ptf d1 su 1 3 (by omega) (by omega) (by omega) _ _ b1 b3 _) (cwV 2 hts gX3_change_X3_swap rfl rfl rfl (by decide +kernel) ⟨Nat.le_of_ble_eq_true rfl, Nat.le_of_ble_eq_true rfl⟩) (z_preV _ hK hP hD (ci := 3) (q0 := 0) rfl rfl) rfl rfl hl.1 rfl (lv_room (Nat.le_of_ble_eq_true rfl)) dX3_change_13 ⟨Nat.le_of_ble_eq_true rfl, Nat.le_of_ble_eq_true rfl⟩) hD hS hA (fun u H locs hu hP hD hS => ?_)
    obtain ⟨d2, k2, a3, a4, rfl⟩ := hu
    have b0 : dh d2 0 (y2 % pP) := by
      refine ⟨fun k hk => ?_, ?_, a1.2.2⟩
      · unfold dd; rw [k2 _ (by omega) (by omega) (by omega)]; exact a1.1 k hk
      · rw [sv_congr (g := dd d1 0) (fun k hk => by unfold dd; rw [k2 _ (by omega) (by omega) (by omega)])]; exact a1.2.1
    have b2 : dh d2 2 (y0 % pP) := by
      refine ⟨fun k hk => ?_, ?_, a2.2.2⟩
      · unfold dd; rw [k2 _ (by omega) (by omega) (by omega)]; exact a2.1 k hk
      · rw [sv_congr (g := dd d1 2) (fun k hk => by unfold dd; rw [k2 _ (by omega) (by omega) (by omega)])]; exact a2.2.1
    exact z_vret hx hb hr hlocks dX3_change_16 hK hP hD hS (⟨d2, fun i h5 h6 => by rw [k2 i (by omega) (by omega) h6, k1 i (by omega) (by omega) h6], b0, a3, b2, a4, rfl⟩)
theorem dc_cn {dg dg' : Nat → Int32} {a : Nat} {x : Int} (h : dc dg a x) (h4 : 4 ≤ a) (h12 : a ≠ 12) (hk : ∀ i, 4 ≤ i / 16 → i / 16 ≠ 12 → dg' i = dg i) : dc dg' a x := by
  refine ⟨fun k hk2 => ?_, ?_, h.2.2⟩
  · unfold dd; rw [hk _ (by omega) (by omega)]; exact h.1 k hk2
  · rw [sv_congr (g := dd dg a) (fun k hk2 => by unfold dd; rw [hk _ (by omega) (by omega)])]; exact h.2.1
set_option maxRecDepth 100000 in
set_option maxHeartbeats 4000000 in
theorem m_stepOnce (l : Launch) (D : va_G) (cA cI : ClassId) (tys : List (ClassId × FieldType)) (om aSc aPt aDg aSu : Nat) (fp fs fr : Int32) (scf ptf : Nat → Int64) (dg : Nat → Int32) (su : Nat → Int64) (st : Nat) (hst : st ≤ 254) (vu x2 z2 x3 z3 : Int) (hU : dc dg 4 vu) (hX2 : dc dg 0 x2) (hZ2 : dc dg 1 z2) (hX3 : dc dg 2 x3) (hZ3 : dc dg 3 z3) : zCv l D ((cA, .long) :: (cI, .int) :: tys) yX3_stepOnce wsX3_stepOnce ({ frames := 4, cells := 0, slots := 0, locals := 98 }) [.ref om] ([(om, .inr (3, [.int fp, .int (nI st), .int fr, .ref aSc, .ref aPt, .ref aDg, .ref aSu])), (aSc, .inl (cA, 4, .inr (.inl scf))), (aPt, .inl (cA, 4, .inr (.inl ptf))), (aDg, .inl (cI, 208, .inl dg)), (aSu, .inl (cA, 32, .inr (.inl su)))]) (fun (u : va_W) => ∃ (dg' : Nat → Int32) (su' : Nat → Int64), dc dg' 4 vu ∧ dc dg' 0 (wX2 (pb scf (254 - st)) x2 z2 x3 z3) ∧ dc dg' 1 (wZ2 (pb scf (254 - st)) vu x2 z2 x3 z3) ∧ dc dg' 2 (wX3 (pb scf (254 - st)) x2 z2 x3 z3) ∧ dc dg' 3 (wZ3 (pb scf (254 - st)) vu x2 z2 x3 z3) ∧ u = [(om, .inr (3, [.int fp, .int (nI (st + 1)), .int fr, .ref aSc, .ref aPt, .ref aDg, .ref aSu])), (aSc, .inl (cA, 4, .inr (.inl scf))), (aPt, .inl (cA, 4, .inr (.inl ptf))), (aDg, .inl (cI, 208, .inl dg')), (aSu, .inl (cA, 32, .inr (.inl su')))]) := by
  refine z_met (fun A => va_Qv (fun (u : va_W) => ∃ (dg' : Nat → Int32) (su' : Nat → Int64), dc dg' 4 vu ∧ dc dg' 0 (wX2 (pb scf (254 - st)) x2 z2 x3 z3) ∧ dc dg' 1 (wZ2 (pb scf (254 - st)) vu x2 z2 x3 z3) ∧ dc dg' 2 (wX3 (pb scf (254 - st)) x2 z2 x3 z3) ∧ dc dg' 3 (wZ3 (pb scf (254 - st)) vu x2 z2 x3 z3) ∧ u = [(om, .inr (3, [.int fp, .int (nI (st + 1)), .int fr, .ref aSc, .ref aPt, .ref aDg, .ref aSu])), (aSc, .inl (cA, 4, .inr (.inl scf))), (aPt, .inl (cA, 4, .inr (.inl ptf))), (aDg, .inl (cI, 208, .inl dg')), (aSu, .inl (cA, 32, .inr (.inl su')))]) (zB D ((cA, .long) :: (cI, .int) :: tys) A) A) (by decide) rfl (Nat.le_of_ble_eq_true rfl) ?_
  intro p e s m below meth c hx hb hr hml hts hown hlocks hname A hA hP hK hD hS ls hl
  have hown : s.vm.findClass RX3 = some m.cls := hown
  have hl : lv_has ls 2 [(0, .ref om)] := hl
  refine lv_aload_n hx hb dX3_stepOnce_0 rfl (lv_at hl 0 rfl) ?_
  refine lv_sipush (v := nI 254) hx hb dX3_stepOnce_1 (by decide) ?_
  refine lv_aload_n hx hb dX3_stepOnce_4 rfl (lv_at hl 0 rfl) ?_
  refine va_get (D := D) (ci := 3) (v := .int (nI st)) (C := RX3) (T := TX3) (N := 7) hx hb hts (by decide +kernel) hown hK hP 0 rfl rfl 1 (by decide) (hts (.fieldLink RX3 61 "LadderDeskModel" "steps" "I") (by decide +kernel)) (fun _ h9 => h9) rfl dX3_stepOnce_5 ?_
  refine lv_isub hx hb dX3_stepOnce_8 ?_
  refine zi (y := nI (254 - st)) (pk_sub (by omega)) ?_
  refine z_calli (va_runV (As := [.int (nI (254 - st))]) (rest := []) ⟨hx, hb, hml, hown, hts⟩ (m_bit l D cA cI tys om aSc aPt aDg aSu fp (nI st) fr scf ptf dg su (254 - st) (by omega) _) (cwV 1 hts gX3_stepOnce_X3_bit rfl rfl rfl (by decide +kernel) ⟨Nat.le_of_ble_eq_true rfl, Nat.le_of_ble_eq_true rfl⟩) (z_preV _ hK hP hD (ci := 3) (q0 := 0) rfl rfl) rfl rfl hl.1 rfl (lv_room (Nat.le_of_ble_eq_true rfl)) dX3_stepOnce_9 ⟨Nat.le_of_ble_eq_true rfl, Nat.le_of_ble_eq_true rfl⟩) hD hS hA (fun r9 u H locs hu hP hD hS => ?_)
  obtain ⟨h01, hbt, rfl⟩ := hu
  generalize pb scf (254 - st) = bt at hbt ⊢
  refine lv_istore_n (lv' := [(1, .int r9), (0, .ref om)]) hx hb dX3_stepOnce_12 rfl hl (by decide) rfl (fun ls hl => ?_)
  refine lv_aload_n hx hb dX3_stepOnce_13 rfl (lv_at hl 1 rfl) ?_
  refine lv_iload_n hx hb dX3_stepOnce_14 rfl (lv_at hl 0 rfl) ?_
  refine z_callv (va_runV (As := [.int r9]) (rest := []) ⟨hx, hb, hml, hown, hts⟩ (m_change l D cA cI tys om aSc aPt aDg aSu fp (nI st) fr scf ptf dg su r9 bt hbt _ _ _ _ hX2 hZ2 hX3 hZ3 _) (cwV 1 hts gX3_stepOnce_X3_change rfl rfl rfl (by decide +kernel) ⟨Nat.le_of_ble_eq_true rfl, Nat.le_of_ble_eq_true rfl⟩) (z_preV _ hK hP hD (ci := 3) (q0 := 0) rfl rfl) rfl rfl hl.1 rfl (lv_room (Nat.le_of_ble_eq_true rfl)) dX3_stepOnce_15 ⟨Nat.le_of_ble_eq_true rfl, Nat.le_of_ble_eq_true rfl⟩) hD hS hA (fun u H locs hu hP hD hS => ?_)
  obtain ⟨dg0, k0, f0, f1, f2, f3, rfl⟩ := hu
  have f4 := dc_cn hU (by omega) (by omega) k0
  obtain ⟨p2, hp2⟩ : ∃ z, z = (if bt then x3 else x2) := ⟨_, rfl⟩
  obtain ⟨q2, hq2⟩ : ∃ z, z = (if bt then z3 else z2) := ⟨_, rfl⟩
  obtain ⟨p3, hp3⟩ : ∃ z, z = (if bt then x2 else x3) := ⟨_, rfl⟩
  obtain ⟨q3, hq3⟩ : ∃ z, z = (if bt then z2 else z3) := ⟨_, rfl⟩
  rw [← hp2] at f0
  rw [← hq2] at f1
  rw [← hp3] at f2
  rw [← hq3] at f3
  refine lv_aload_n hx hb dX3_stepOnce_18 rfl (lv_at hl 1 rfl) ?_
  refine lv_bipush (v := nI 6) hx hb dX3_stepOnce_19 (by decide) ?_
  refine lv_iconst (v := nI 0) hx hb dX3_stepOnce_21 (by decide) ?_
  refine lv_iconst (v := nI 1) hx hb dX3_stepOnce_22 (by decide) ?_
  refine z_callv (va_runV (As := [.int (nI 6), .int (nI 0), .int (nI 1)]) (rest := []) ⟨hx, hb, hml, hown, hts⟩ (m_add l D cA cI tys om aSc aPt aDg aSu fp (nI st) fr scf ptf dg0 su 6 0 1 (by omega) (by omega) (by omega) _ _ f0 f1 _) (cwV 3 hts gX3_stepOnce_X3_add rfl rfl rfl (by decide +kernel) ⟨Nat.le_of_ble_eq_true rfl, Nat.le_of_ble_eq_true rfl⟩) (z_preV _ hK hP hD (ci := 3) (q0 := 0) rfl rfl) rfl rfl hl.1 rfl (lv_room (Nat.le_of_ble_eq_true rfl)) dX3_stepOnce_23 ⟨Nat.le_of_ble_eq_true rfl, Nat.le_of_ble_eq_true rfl⟩) hD hS hA (fun u H locs hu hP hD hS => ?_)
  obtain ⟨dg1, su1, k1, r1_, rfl⟩ := hu
  have g1_0 := dc_kp f0 (by omega) k1
  have g1_1 := dc_kp f1 (by omega) k1
  have g1_2 := dc_kp f2 (by omega) k1
  have g1_3 := dc_kp f3 (by omega) k1
  have g1_4 := dc_kp f4 (by omega) k1
  refine lv_aload_n hx hb dX3_stepOnce_26 rfl (lv_at hl 1 rfl) ?_
  refine lv_bipush (v := nI 7) hx hb dX3_stepOnce_27 (by decide) ?_
  refine lv_iconst (v := nI 0) hx hb dX3_stepOnce_29 (by decide) ?_
  refine lv_iconst (v := nI 1) hx hb dX3_stepOnce_30 (by decide) ?_
  refine z_callv (va_runV (As := [.int (nI 7), .int (nI 0), .int (nI 1)]) (rest := []) ⟨hx, hb, hml, hown, hts⟩ (m_subtract l D cA cI tys om aSc aPt aDg aSu fp (nI st) fr scf ptf dg1 su1 7 0 1 (by omega) (by omega) (by omega) _ _ g1_0 g1_1 _) (cwV 3 hts gX3_stepOnce_X3_subtract rfl rfl rfl (by decide +kernel) ⟨Nat.le_of_ble_eq_true rfl, Nat.le_of_ble_eq_true rfl⟩) (z_preV _ hK hP hD (ci := 3) (q0 := 0) rfl rfl) rfl rfl hl.1 rfl (lv_room (Nat.le_of_ble_eq_true rfl)) dX3_stepOnce_31 ⟨Nat.le_of_ble_eq_true rfl, Nat.le_of_ble_eq_true rfl⟩) hD hS hA (fun u H locs hu hP hD hS => ?_)
  obtain ⟨dg2, su2, k2, r2_, rfl⟩ := hu
  have g2_0 := dc_kp g1_0 (by omega) k2
  have g2_1 := dc_kp g1_1 (by omega) k2
  have g2_2 := dc_kp g1_2 (by omega) k2
  have g2_3 := dc_kp g1_3 (by omega) k2
  have g2_4 := dc_kp g1_4 (by omega) k2
  have g2_6 := dc_kp r1_ (by omega) k2
  refine lv_aload_n hx hb dX3_stepOnce_34 rfl (lv_at hl 1 rfl) ?_
  refine lv_bipush (v := nI 8) hx hb dX3_stepOnce_35 (by decide) ?_
  refine lv_iconst (v := nI 2) hx hb dX3_stepOnce_37 (by decide) ?_
  refine lv_iconst (v := nI 3) hx hb dX3_stepOnce_38 (by decide) ?_
  refine z_callv (va_runV (As := [.int (nI 8), .int (nI 2), .int (nI 3)]) (rest := []) ⟨hx, hb, hml, hown, hts⟩ (m_add l D cA cI tys om aSc aPt aDg aSu fp (nI st) fr scf ptf dg2 su2 8 2 3 (by omega) (by omega) (by omega) _ _ g2_2 g2_3 _) (cwV 3 hts gX3_stepOnce_X3_add rfl rfl rfl (by decide +kernel) ⟨Nat.le_of_ble_eq_true rfl, Nat.le_of_ble_eq_true rfl⟩) (z_preV _ hK hP hD (ci := 3) (q0 := 0) rfl rfl) rfl rfl hl.1 rfl (lv_room (Nat.le_of_ble_eq_true rfl)) dX3_stepOnce_39 ⟨Nat.le_of_ble_eq_true rfl, Nat.le_of_ble_eq_true rfl⟩) hD hS hA (fun u H locs hu hP hD hS => ?_)
  obtain ⟨dg3, su3, k3, r3_, rfl⟩ := hu
  have g3_0 := dc_kp g2_0 (by omega) k3
  have g3_1 := dc_kp g2_1 (by omega) k3
  have g3_2 := dc_kp g2_2 (by omega) k3
  have g3_3 := dc_kp g2_3 (by omega) k3
  have g3_4 := dc_kp g2_4 (by omega) k3
  have g3_6 := dc_kp g2_6 (by omega) k3
  have g3_7 := dc_kp r2_ (by omega) k3
  refine lv_aload_n hx hb dX3_stepOnce_42 rfl (lv_at hl 1 rfl) ?_
  refine lv_bipush (v := nI 9) hx hb dX3_stepOnce_43 (by decide) ?_
  refine lv_iconst (v := nI 2) hx hb dX3_stepOnce_45 (by decide) ?_
  refine lv_iconst (v := nI 3) hx hb dX3_stepOnce_46 (by decide) ?_
  refine z_callv (va_runV (As := [.int (nI 9), .int (nI 2), .int (nI 3)]) (rest := []) ⟨hx, hb, hml, hown, hts⟩ (m_subtract l D cA cI tys om aSc aPt aDg aSu fp (nI st) fr scf ptf dg3 su3 9 2 3 (by omega) (by omega) (by omega) _ _ g3_2 g3_3 _) (cwV 3 hts gX3_stepOnce_X3_subtract rfl rfl rfl (by decide +kernel) ⟨Nat.le_of_ble_eq_true rfl, Nat.le_of_ble_eq_true rfl⟩) (z_preV _ hK hP hD (ci := 3) (q0 := 0) rfl rfl) rfl rfl hl.1 rfl (lv_room (Nat.le_of_ble_eq_true rfl)) dX3_stepOnce_47 ⟨Nat.le_of_ble_eq_true rfl, Nat.le_of_ble_eq_true rfl⟩) hD hS hA (fun u H locs hu hP hD hS => ?_)
  obtain ⟨dg4, su4, k4, r4_, rfl⟩ := hu
  have g4_0 := dc_kp g3_0 (by omega) k4
  have g4_1 := dc_kp g3_1 (by omega) k4
  have g4_2 := dc_kp g3_2 (by omega) k4
  have g4_3 := dc_kp g3_3 (by omega) k4
  have g4_4 := dc_kp g3_4 (by omega) k4
  have g4_6 := dc_kp g3_6 (by omega) k4
  have g4_7 := dc_kp g3_7 (by omega) k4
  have g4_8 := dc_kp r3_ (by omega) k4
  refine lv_aload_n hx hb dX3_stepOnce_50 rfl (lv_at hl 1 rfl) ?_
  refine lv_bipush (v := nI 9) hx hb dX3_stepOnce_51 (by decide) ?_
  refine lv_bipush (v := nI 9) hx hb dX3_stepOnce_53 (by decide) ?_
  refine lv_bipush (v := nI 6) hx hb dX3_stepOnce_55 (by decide) ?_
  refine z_callv (va_runV (As := [.int (nI 9), .int (nI 9), .int (nI 6)]) (rest := []) ⟨hx, hb, hml, hown, hts⟩ (m_multiply l D cA cI tys om aSc aPt aDg aSu fp (nI st) fr scf ptf dg4 su4 9 9 6 (by omega) (by omega) (by omega) _ _ r4_ g4_6 _) (cwV 3 hts gX3_stepOnce_X3_multiply rfl rfl rfl (by decide +kernel) ⟨Nat.le_of_ble_eq_true rfl, Nat.le_of_ble_eq_true rfl⟩) (z_preV _ hK hP hD (ci := 3) (q0 := 0) rfl rfl) rfl rfl hl.1 rfl (lv_room (Nat.le_of_ble_eq_true rfl)) dX3_stepOnce_57 ⟨Nat.le_of_ble_eq_true rfl, Nat.le_of_ble_eq_true rfl⟩) hD hS hA (fun u H locs hu hP hD hS => ?_)
  obtain ⟨dg5, su5, k5, r5_, rfl⟩ := hu
  have r5_ : dc dg5 9 (nDA p2 q2 p3 q3) := r5_
  have g5_0 := dc_kp g4_0 (by omega) k5
  have g5_1 := dc_kp g4_1 (by omega) k5
  have g5_2 := dc_kp g4_2 (by omega) k5
  have g5_3 := dc_kp g4_3 (by omega) k5
  have g5_4 := dc_kp g4_4 (by omega) k5
  have g5_6 := dc_kp g4_6 (by omega) k5
  have g5_7 := dc_kp g4_7 (by omega) k5
  have g5_8 := dc_kp g4_8 (by omega) k5
  refine lv_aload_n hx hb dX3_stepOnce_60 rfl (lv_at hl 1 rfl) ?_
  refine lv_bipush (v := nI 8) hx hb dX3_stepOnce_61 (by decide) ?_
  refine lv_bipush (v := nI 8) hx hb dX3_stepOnce_63 (by decide) ?_
  refine lv_bipush (v := nI 7) hx hb dX3_stepOnce_65 (by decide) ?_
  refine z_callv (va_runV (As := [.int (nI 8), .int (nI 8), .int (nI 7)]) (rest := []) ⟨hx, hb, hml, hown, hts⟩ (m_multiply l D cA cI tys om aSc aPt aDg aSu fp (nI st) fr scf ptf dg5 su5 8 8 7 (by omega) (by omega) (by omega) _ _ g5_8 g5_7 _) (cwV 3 hts gX3_stepOnce_X3_multiply rfl rfl rfl (by decide +kernel) ⟨Nat.le_of_ble_eq_true rfl, Nat.le_of_ble_eq_true rfl⟩) (z_preV _ hK hP hD (ci := 3) (q0 := 0) rfl rfl) rfl rfl hl.1 rfl (lv_room (Nat.le_of_ble_eq_true rfl)) dX3_stepOnce_67 ⟨Nat.le_of_ble_eq_true rfl, Nat.le_of_ble_eq_true rfl⟩) hD hS hA (fun u H locs hu hP hD hS => ?_)
  obtain ⟨dg6, su6, k6, r6_, rfl⟩ := hu
  have r6_ : dc dg6 8 (nCB p2 q2 p3 q3) := r6_
  have g6_0 := dc_kp g5_0 (by omega) k6
  have g6_1 := dc_kp g5_1 (by omega) k6
  have g6_2 := dc_kp g5_2 (by omega) k6
  have g6_3 := dc_kp g5_3 (by omega) k6
  have g6_4 := dc_kp g5_4 (by omega) k6
  have g6_6 := dc_kp g5_6 (by omega) k6
  have g6_7 := dc_kp g5_7 (by omega) k6
  have g6_9 := dc_kp r5_ (by omega) k6
  refine lv_aload_n hx hb dX3_stepOnce_70 rfl (lv_at hl 1 rfl) ?_
  refine lv_bipush (v := nI 6) hx hb dX3_stepOnce_71 (by decide) ?_
  refine lv_bipush (v := nI 6) hx hb dX3_stepOnce_73 (by decide) ?_
  refine lv_bipush (v := nI 6) hx hb dX3_stepOnce_75 (by decide) ?_
  refine z_callv (va_runV (As := [.int (nI 6), .int (nI 6), .int (nI 6)]) (rest := []) ⟨hx, hb, hml, hown, hts⟩ (m_multiply l D cA cI tys om aSc aPt aDg aSu fp (nI st) fr scf ptf dg6 su6 6 6 6 (by omega) (by omega) (by omega) _ _ g6_6 g6_6 _) (cwV 3 hts gX3_stepOnce_X3_multiply rfl rfl rfl (by decide +kernel) ⟨Nat.le_of_ble_eq_true rfl, Nat.le_of_ble_eq_true rfl⟩) (z_preV _ hK hP hD (ci := 3) (q0 := 0) rfl rfl) rfl rfl hl.1 rfl (lv_room (Nat.le_of_ble_eq_true rfl)) dX3_stepOnce_77 ⟨Nat.le_of_ble_eq_true rfl, Nat.le_of_ble_eq_true rfl⟩) hD hS hA (fun u H locs hu hP hD hS => ?_)
  obtain ⟨dg7, su7, k7, r7_, rfl⟩ := hu
  have g7_0 := dc_kp g6_0 (by omega) k7
  have g7_1 := dc_kp g6_1 (by omega) k7
  have g7_2 := dc_kp g6_2 (by omega) k7
  have g7_3 := dc_kp g6_3 (by omega) k7
  have g7_4 := dc_kp g6_4 (by omega) k7
  have g7_7 := dc_kp g6_7 (by omega) k7
  have g7_8 := dc_kp r6_ (by omega) k7
  have g7_9 := dc_kp g6_9 (by omega) k7
  refine lv_aload_n hx hb dX3_stepOnce_80 rfl (lv_at hl 1 rfl) ?_
  refine lv_bipush (v := nI 7) hx hb dX3_stepOnce_81 (by decide) ?_
  refine lv_bipush (v := nI 7) hx hb dX3_stepOnce_83 (by decide) ?_
  refine lv_bipush (v := nI 7) hx hb dX3_stepOnce_85 (by decide) ?_
  refine z_callv (va_runV (As := [.int (nI 7), .int (nI 7), .int (nI 7)]) (rest := []) ⟨hx, hb, hml, hown, hts⟩ (m_multiply l D cA cI tys om aSc aPt aDg aSu fp (nI st) fr scf ptf dg7 su7 7 7 7 (by omega) (by omega) (by omega) _ _ g7_7 g7_7 _) (cwV 3 hts gX3_stepOnce_X3_multiply rfl rfl rfl (by decide +kernel) ⟨Nat.le_of_ble_eq_true rfl, Nat.le_of_ble_eq_true rfl⟩) (z_preV _ hK hP hD (ci := 3) (q0 := 0) rfl rfl) rfl rfl hl.1 rfl (lv_room (Nat.le_of_ble_eq_true rfl)) dX3_stepOnce_87 ⟨Nat.le_of_ble_eq_true rfl, Nat.le_of_ble_eq_true rfl⟩) hD hS hA (fun u H locs hu hP hD hS => ?_)
  obtain ⟨dg8, su8, k8, r8_, rfl⟩ := hu
  have g8_0 := dc_kp g7_0 (by omega) k8
  have g8_1 := dc_kp g7_1 (by omega) k8
  have g8_2 := dc_kp g7_2 (by omega) k8
  have g8_3 := dc_kp g7_3 (by omega) k8
  have g8_4 := dc_kp g7_4 (by omega) k8
  have g8_6 := dc_kp r7_ (by omega) k8
  have g8_8 := dc_kp g7_8 (by omega) k8
  have g8_9 := dc_kp g7_9 (by omega) k8
  refine lv_aload_n hx hb dX3_stepOnce_90 rfl (lv_at hl 1 rfl) ?_
  refine lv_bipush (v := nI 10) hx hb dX3_stepOnce_91 (by decide) ?_
  refine lv_bipush (v := nI 6) hx hb dX3_stepOnce_93 (by decide) ?_
  refine lv_bipush (v := nI 7) hx hb dX3_stepOnce_95 (by decide) ?_
  refine z_callv (va_runV (As := [.int (nI 10), .int (nI 6), .int (nI 7)]) (rest := []) ⟨hx, hb, hml, hown, hts⟩ (m_subtract l D cA cI tys om aSc aPt aDg aSu fp (nI st) fr scf ptf dg8 su8 10 6 7 (by omega) (by omega) (by omega) _ _ g8_6 r8_ _) (cwV 3 hts gX3_stepOnce_X3_subtract rfl rfl rfl (by decide +kernel) ⟨Nat.le_of_ble_eq_true rfl, Nat.le_of_ble_eq_true rfl⟩) (z_preV _ hK hP hD (ci := 3) (q0 := 0) rfl rfl) rfl rfl hl.1 rfl (lv_room (Nat.le_of_ble_eq_true rfl)) dX3_stepOnce_97 ⟨Nat.le_of_ble_eq_true rfl, Nat.le_of_ble_eq_true rfl⟩) hD hS hA (fun u H locs hu hP hD hS => ?_)
  obtain ⟨dg9, su9, k9, r9_, rfl⟩ := hu
  have r9_ : dc dg9 10 (nE p2 q2) := r9_
  have g9_0 := dc_kp g8_0 (by omega) k9
  have g9_1 := dc_kp g8_1 (by omega) k9
  have g9_2 := dc_kp g8_2 (by omega) k9
  have g9_3 := dc_kp g8_3 (by omega) k9
  have g9_4 := dc_kp g8_4 (by omega) k9
  have g9_6 := dc_kp g8_6 (by omega) k9
  have g9_7 := dc_kp r8_ (by omega) k9
  have g9_8 := dc_kp g8_8 (by omega) k9
  have g9_9 := dc_kp g8_9 (by omega) k9
  refine lv_aload_n hx hb dX3_stepOnce_100 rfl (lv_at hl 1 rfl) ?_
  refine lv_iconst (v := nI 0) hx hb dX3_stepOnce_101 (by decide) ?_
  refine lv_bipush (v := nI 6) hx hb dX3_stepOnce_102 (by decide) ?_
  refine lv_bipush (v := nI 7) hx hb dX3_stepOnce_104 (by decide) ?_
  refine z_callv (va_runV (As := [.int (nI 0), .int (nI 6), .int (nI 7)]) (rest := []) ⟨hx, hb, hml, hown, hts⟩ (m_multiply l D cA cI tys om aSc aPt aDg aSu fp (nI st) fr scf ptf dg9 su9 0 6 7 (by omega) (by omega) (by omega) _ _ g9_6 g9_7 _) (cwV 3 hts gX3_stepOnce_X3_multiply rfl rfl rfl (by decide +kernel) ⟨Nat.le_of_ble_eq_true rfl, Nat.le_of_ble_eq_true rfl⟩) (z_preV _ hK hP hD (ci := 3) (q0 := 0) rfl rfl) rfl rfl hl.1 rfl (lv_room (Nat.le_of_ble_eq_true rfl)) dX3_stepOnce_106 ⟨Nat.le_of_ble_eq_true rfl, Nat.le_of_ble_eq_true rfl⟩) hD hS hA (fun u H locs hu hP hD hS => ?_)
  obtain ⟨dg10, su10, k10, r10_, rfl⟩ := hu
  have r10_ : dc dg10 0 (nX2 p2 q2) := r10_
  have g10_1 := dc_kp g9_1 (by omega) k10
  have g10_2 := dc_kp g9_2 (by omega) k10
  have g10_3 := dc_kp g9_3 (by omega) k10
  have g10_4 := dc_kp g9_4 (by omega) k10
  have g10_6 := dc_kp g9_6 (by omega) k10
  have g10_7 := dc_kp g9_7 (by omega) k10
  have g10_8 := dc_kp g9_8 (by omega) k10
  have g10_9 := dc_kp g9_9 (by omega) k10
  have g10_10 := dc_kp r9_ (by omega) k10
  refine lv_aload_n hx hb dX3_stepOnce_109 rfl (lv_at hl 1 rfl) ?_
  refine lv_bipush (v := nI 11) hx hb dX3_stepOnce_110 (by decide) ?_
  refine lv_bipush (v := nI 10) hx hb dX3_stepOnce_112 (by decide) ?_
  refine lv_ldc (v := 121665) hx hb hown (hts (.constant RX3 90 (121665)) (by decide +kernel)) dX3_stepOnce_114 ?_
  refine z_callv (va_runV (As := [.int (nI 11), .int (nI 10), .int 121665]) (rest := []) ⟨hx, hb, hml, hown, hts⟩ (m_multiplySmall l D cA cI tys om aSc aPt aDg aSu fp (nI st) fr scf ptf dg10 su10 11 10 (by omega) (by omega) _ g10_10 _) (cwV 3 hts gX3_stepOnce_X3_multiplySmall rfl rfl rfl (by decide +kernel) ⟨Nat.le_of_ble_eq_true rfl, Nat.le_of_ble_eq_true rfl⟩) (z_preV _ hK hP hD (ci := 3) (q0 := 0) rfl rfl) rfl rfl hl.1 rfl (lv_room (Nat.le_of_ble_eq_true rfl)) dX3_stepOnce_116 ⟨Nat.le_of_ble_eq_true rfl, Nat.le_of_ble_eq_true rfl⟩) hD hS hA (fun u H locs hu hP hD hS => ?_)
  obtain ⟨dg11, su11, k11, r11_, rfl⟩ := hu
  have g11_0 := dc_kp r10_ (by omega) k11
  have g11_1 := dc_kp g10_1 (by omega) k11
  have g11_2 := dc_kp g10_2 (by omega) k11
  have g11_3 := dc_kp g10_3 (by omega) k11
  have g11_4 := dc_kp g10_4 (by omega) k11
  have g11_6 := dc_kp g10_6 (by omega) k11
  have g11_7 := dc_kp g10_7 (by omega) k11
  have g11_8 := dc_kp g10_8 (by omega) k11
  have g11_9 := dc_kp g10_9 (by omega) k11
  have g11_10 := dc_kp g10_10 (by omega) k11
  refine lv_aload_n hx hb dX3_stepOnce_119 rfl (lv_at hl 1 rfl) ?_
  refine lv_bipush (v := nI 11) hx hb dX3_stepOnce_120 (by decide) ?_
  refine lv_bipush (v := nI 11) hx hb dX3_stepOnce_122 (by decide) ?_
  refine lv_bipush (v := nI 6) hx hb dX3_stepOnce_124 (by decide) ?_
  refine z_callv (va_runV (As := [.int (nI 11), .int (nI 11), .int (nI 6)]) (rest := []) ⟨hx, hb, hml, hown, hts⟩ (m_add l D cA cI tys om aSc aPt aDg aSu fp (nI st) fr scf ptf dg11 su11 11 11 6 (by omega) (by omega) (by omega) _ _ r11_ g11_6 _) (cwV 3 hts gX3_stepOnce_X3_add rfl rfl rfl (by decide +kernel) ⟨Nat.le_of_ble_eq_true rfl, Nat.le_of_ble_eq_true rfl⟩) (z_preV _ hK hP hD (ci := 3) (q0 := 0) rfl rfl) rfl rfl hl.1 rfl (lv_room (Nat.le_of_ble_eq_true rfl)) dX3_stepOnce_126 ⟨Nat.le_of_ble_eq_true rfl, Nat.le_of_ble_eq_true rfl⟩) hD hS hA (fun u H locs hu hP hD hS => ?_)
  obtain ⟨dg12, su12, k12, r12_, rfl⟩ := hu
  have g12_0 := dc_kp g11_0 (by omega) k12
  have g12_1 := dc_kp g11_1 (by omega) k12
  have g12_2 := dc_kp g11_2 (by omega) k12
  have g12_3 := dc_kp g11_3 (by omega) k12
  have g12_4 := dc_kp g11_4 (by omega) k12
  have g12_6 := dc_kp g11_6 (by omega) k12
  have g12_7 := dc_kp g11_7 (by omega) k12
  have g12_8 := dc_kp g11_8 (by omega) k12
  have g12_9 := dc_kp g11_9 (by omega) k12
  have g12_10 := dc_kp g11_10 (by omega) k12
  refine lv_aload_n hx hb dX3_stepOnce_129 rfl (lv_at hl 1 rfl) ?_
  refine lv_iconst (v := nI 1) hx hb dX3_stepOnce_130 (by decide) ?_
  refine lv_bipush (v := nI 10) hx hb dX3_stepOnce_131 (by decide) ?_
  refine lv_bipush (v := nI 11) hx hb dX3_stepOnce_133 (by decide) ?_
  refine z_callv (va_runV (As := [.int (nI 1), .int (nI 10), .int (nI 11)]) (rest := []) ⟨hx, hb, hml, hown, hts⟩ (m_multiply l D cA cI tys om aSc aPt aDg aSu fp (nI st) fr scf ptf dg12 su12 1 10 11 (by omega) (by omega) (by omega) _ _ g12_10 r12_ _) (cwV 3 hts gX3_stepOnce_X3_multiply rfl rfl rfl (by decide +kernel) ⟨Nat.le_of_ble_eq_true rfl, Nat.le_of_ble_eq_true rfl⟩) (z_preV _ hK hP hD (ci := 3) (q0 := 0) rfl rfl) rfl rfl hl.1 rfl (lv_room (Nat.le_of_ble_eq_true rfl)) dX3_stepOnce_135 ⟨Nat.le_of_ble_eq_true rfl, Nat.le_of_ble_eq_true rfl⟩) hD hS hA (fun u H locs hu hP hD hS => ?_)
  obtain ⟨dg13, su13, k13, r13_, rfl⟩ := hu
  have r13_ : dc dg13 1 (nZ2 p2 q2) := by unfold nZ2; rw [Int.add_comm]; exact r13_
  have g13_0 := dc_kp g12_0 (by omega) k13
  have g13_2 := dc_kp g12_2 (by omega) k13
  have g13_3 := dc_kp g12_3 (by omega) k13
  have g13_4 := dc_kp g12_4 (by omega) k13
  have g13_6 := dc_kp g12_6 (by omega) k13
  have g13_7 := dc_kp g12_7 (by omega) k13
  have g13_8 := dc_kp g12_8 (by omega) k13
  have g13_9 := dc_kp g12_9 (by omega) k13
  have g13_10 := dc_kp g12_10 (by omega) k13
  have g13_11 := dc_kp r12_ (by omega) k13
  refine lv_aload_n hx hb dX3_stepOnce_138 rfl (lv_at hl 1 rfl) ?_
  refine lv_bipush (v := nI 11) hx hb dX3_stepOnce_139 (by decide) ?_
  refine lv_bipush (v := nI 9) hx hb dX3_stepOnce_141 (by decide) ?_
  refine lv_bipush (v := nI 8) hx hb dX3_stepOnce_143 (by decide) ?_
  refine z_callv (va_runV (As := [.int (nI 11), .int (nI 9), .int (nI 8)]) (rest := []) ⟨hx, hb, hml, hown, hts⟩ (m_add l D cA cI tys om aSc aPt aDg aSu fp (nI st) fr scf ptf dg13 su13 11 9 8 (by omega) (by omega) (by omega) _ _ g13_9 g13_8 _) (cwV 3 hts gX3_stepOnce_X3_add rfl rfl rfl (by decide +kernel) ⟨Nat.le_of_ble_eq_true rfl, Nat.le_of_ble_eq_true rfl⟩) (z_preV _ hK hP hD (ci := 3) (q0 := 0) rfl rfl) rfl rfl hl.1 rfl (lv_room (Nat.le_of_ble_eq_true rfl)) dX3_stepOnce_145 ⟨Nat.le_of_ble_eq_true rfl, Nat.le_of_ble_eq_true rfl⟩) hD hS hA (fun u H locs hu hP hD hS => ?_)
  obtain ⟨dg14, su14, k14, r14_, rfl⟩ := hu
  have g14_0 := dc_kp g13_0 (by omega) k14
  have g14_1 := dc_kp r13_ (by omega) k14
  have g14_2 := dc_kp g13_2 (by omega) k14
  have g14_3 := dc_kp g13_3 (by omega) k14
  have g14_4 := dc_kp g13_4 (by omega) k14
  have g14_6 := dc_kp g13_6 (by omega) k14
  have g14_7 := dc_kp g13_7 (by omega) k14
  have g14_8 := dc_kp g13_8 (by omega) k14
  have g14_9 := dc_kp g13_9 (by omega) k14
  have g14_10 := dc_kp g13_10 (by omega) k14
  refine lv_aload_n hx hb dX3_stepOnce_148 rfl (lv_at hl 1 rfl) ?_
  refine lv_iconst (v := nI 2) hx hb dX3_stepOnce_149 (by decide) ?_
  refine lv_bipush (v := nI 11) hx hb dX3_stepOnce_150 (by decide) ?_
  refine lv_bipush (v := nI 11) hx hb dX3_stepOnce_152 (by decide) ?_
  refine z_callv (va_runV (As := [.int (nI 2), .int (nI 11), .int (nI 11)]) (rest := []) ⟨hx, hb, hml, hown, hts⟩ (m_multiply l D cA cI tys om aSc aPt aDg aSu fp (nI st) fr scf ptf dg14 su14 2 11 11 (by omega) (by omega) (by omega) _ _ r14_ r14_ _) (cwV 3 hts gX3_stepOnce_X3_multiply rfl rfl rfl (by decide +kernel) ⟨Nat.le_of_ble_eq_true rfl, Nat.le_of_ble_eq_true rfl⟩) (z_preV _ hK hP hD (ci := 3) (q0 := 0) rfl rfl) rfl rfl hl.1 rfl (lv_room (Nat.le_of_ble_eq_true rfl)) dX3_stepOnce_154 ⟨Nat.le_of_ble_eq_true rfl, Nat.le_of_ble_eq_true rfl⟩) hD hS hA (fun u H locs hu hP hD hS => ?_)
  obtain ⟨dg15, su15, k15, r15_, rfl⟩ := hu
  have r15_ : dc dg15 2 (nX3 p2 q2 p3 q3) := r15_
  have g15_0 := dc_kp g14_0 (by omega) k15
  have g15_1 := dc_kp g14_1 (by omega) k15
  have g15_3 := dc_kp g14_3 (by omega) k15
  have g15_4 := dc_kp g14_4 (by omega) k15
  have g15_6 := dc_kp g14_6 (by omega) k15
  have g15_7 := dc_kp g14_7 (by omega) k15
  have g15_8 := dc_kp g14_8 (by omega) k15
  have g15_9 := dc_kp g14_9 (by omega) k15
  have g15_10 := dc_kp g14_10 (by omega) k15
  have g15_11 := dc_kp r14_ (by omega) k15
  refine lv_aload_n hx hb dX3_stepOnce_157 rfl (lv_at hl 1 rfl) ?_
  refine lv_bipush (v := nI 11) hx hb dX3_stepOnce_158 (by decide) ?_
  refine lv_bipush (v := nI 9) hx hb dX3_stepOnce_160 (by decide) ?_
  refine lv_bipush (v := nI 8) hx hb dX3_stepOnce_162 (by decide) ?_
  refine z_callv (va_runV (As := [.int (nI 11), .int (nI 9), .int (nI 8)]) (rest := []) ⟨hx, hb, hml, hown, hts⟩ (m_subtract l D cA cI tys om aSc aPt aDg aSu fp (nI st) fr scf ptf dg15 su15 11 9 8 (by omega) (by omega) (by omega) _ _ g15_9 g15_8 _) (cwV 3 hts gX3_stepOnce_X3_subtract rfl rfl rfl (by decide +kernel) ⟨Nat.le_of_ble_eq_true rfl, Nat.le_of_ble_eq_true rfl⟩) (z_preV _ hK hP hD (ci := 3) (q0 := 0) rfl rfl) rfl rfl hl.1 rfl (lv_room (Nat.le_of_ble_eq_true rfl)) dX3_stepOnce_164 ⟨Nat.le_of_ble_eq_true rfl, Nat.le_of_ble_eq_true rfl⟩) hD hS hA (fun u H locs hu hP hD hS => ?_)
  obtain ⟨dg16, su16, k16, r16_, rfl⟩ := hu
  have g16_0 := dc_kp g15_0 (by omega) k16
  have g16_1 := dc_kp g15_1 (by omega) k16
  have g16_2 := dc_kp r15_ (by omega) k16
  have g16_3 := dc_kp g15_3 (by omega) k16
  have g16_4 := dc_kp g15_4 (by omega) k16
  have g16_6 := dc_kp g15_6 (by omega) k16
  have g16_7 := dc_kp g15_7 (by omega) k16
  have g16_8 := dc_kp g15_8 (by omega) k16
  have g16_9 := dc_kp g15_9 (by omega) k16
  have g16_10 := dc_kp g15_10 (by omega) k16
  refine lv_aload_n hx hb dX3_stepOnce_167 rfl (lv_at hl 1 rfl) ?_
  refine lv_bipush (v := nI 11) hx hb dX3_stepOnce_168 (by decide) ?_
  refine lv_bipush (v := nI 11) hx hb dX3_stepOnce_170 (by decide) ?_
  refine lv_bipush (v := nI 11) hx hb dX3_stepOnce_172 (by decide) ?_
  refine z_callv (va_runV (As := [.int (nI 11), .int (nI 11), .int (nI 11)]) (rest := []) ⟨hx, hb, hml, hown, hts⟩ (m_multiply l D cA cI tys om aSc aPt aDg aSu fp (nI st) fr scf ptf dg16 su16 11 11 11 (by omega) (by omega) (by omega) _ _ r16_ r16_ _) (cwV 3 hts gX3_stepOnce_X3_multiply rfl rfl rfl (by decide +kernel) ⟨Nat.le_of_ble_eq_true rfl, Nat.le_of_ble_eq_true rfl⟩) (z_preV _ hK hP hD (ci := 3) (q0 := 0) rfl rfl) rfl rfl hl.1 rfl (lv_room (Nat.le_of_ble_eq_true rfl)) dX3_stepOnce_174 ⟨Nat.le_of_ble_eq_true rfl, Nat.le_of_ble_eq_true rfl⟩) hD hS hA (fun u H locs hu hP hD hS => ?_)
  obtain ⟨dg17, su17, k17, r17_, rfl⟩ := hu
  have g17_0 := dc_kp g16_0 (by omega) k17
  have g17_1 := dc_kp g16_1 (by omega) k17
  have g17_2 := dc_kp g16_2 (by omega) k17
  have g17_3 := dc_kp g16_3 (by omega) k17
  have g17_4 := dc_kp g16_4 (by omega) k17
  have g17_6 := dc_kp g16_6 (by omega) k17
  have g17_7 := dc_kp g16_7 (by omega) k17
  have g17_8 := dc_kp g16_8 (by omega) k17
  have g17_9 := dc_kp g16_9 (by omega) k17
  have g17_10 := dc_kp g16_10 (by omega) k17
  refine lv_aload_n hx hb dX3_stepOnce_177 rfl (lv_at hl 1 rfl) ?_
  refine lv_iconst (v := nI 3) hx hb dX3_stepOnce_178 (by decide) ?_
  refine lv_iconst (v := nI 4) hx hb dX3_stepOnce_179 (by decide) ?_
  refine lv_bipush (v := nI 11) hx hb dX3_stepOnce_180 (by decide) ?_
  refine z_callv (va_runV (As := [.int (nI 3), .int (nI 4), .int (nI 11)]) (rest := []) ⟨hx, hb, hml, hown, hts⟩ (m_multiply l D cA cI tys om aSc aPt aDg aSu fp (nI st) fr scf ptf dg17 su17 3 4 11 (by omega) (by omega) (by omega) _ _ g17_4 r17_ _) (cwV 3 hts gX3_stepOnce_X3_multiply rfl rfl rfl (by decide +kernel) ⟨Nat.le_of_ble_eq_true rfl, Nat.le_of_ble_eq_true rfl⟩) (z_preV _ hK hP hD (ci := 3) (q0 := 0) rfl rfl) rfl rfl hl.1 rfl (lv_room (Nat.le_of_ble_eq_true rfl)) dX3_stepOnce_182 ⟨Nat.le_of_ble_eq_true rfl, Nat.le_of_ble_eq_true rfl⟩) hD hS hA (fun u H locs hu hP hD hS => ?_)
  obtain ⟨dg18, su18, k18, r18_, rfl⟩ := hu
  have r18_ : dc dg18 3 (nZ3 vu p2 q2 p3 q3) := r18_
  have g18_0 := dc_kp g17_0 (by omega) k18
  have g18_1 := dc_kp g17_1 (by omega) k18
  have g18_2 := dc_kp g17_2 (by omega) k18
  have g18_4 := dc_kp g17_4 (by omega) k18
  have g18_6 := dc_kp g17_6 (by omega) k18
  have g18_7 := dc_kp g17_7 (by omega) k18
  have g18_8 := dc_kp g17_8 (by omega) k18
  have g18_9 := dc_kp g17_9 (by omega) k18
  have g18_10 := dc_kp g17_10 (by omega) k18
  have g18_11 := dc_kp r17_ (by omega) k18
  refine lv_aload_n hx hb dX3_stepOnce_185 rfl (lv_at hl 1 rfl) ?_
  refine lv_iload_n hx hb dX3_stepOnce_186 rfl (lv_at hl 0 rfl) ?_
  refine z_callv (va_runV (As := [.int r9]) (rest := []) ⟨hx, hb, hml, hown, hts⟩ (m_change l D cA cI tys om aSc aPt aDg aSu fp (nI st) fr scf ptf dg18 su18 r9 bt hbt _ _ _ _ g18_0 g18_1 g18_2 r18_ _) (cwV 1 hts gX3_stepOnce_X3_change rfl rfl rfl (by decide +kernel) ⟨Nat.le_of_ble_eq_true rfl, Nat.le_of_ble_eq_true rfl⟩) (z_preV _ hK hP hD (ci := 3) (q0 := 0) rfl rfl) rfl rfl hl.1 rfl (lv_room (Nat.le_of_ble_eq_true rfl)) dX3_stepOnce_187 ⟨Nat.le_of_ble_eq_true rfl, Nat.le_of_ble_eq_true rfl⟩) hD hS hA (fun u H locs hu hP hD hS => ?_)
  obtain ⟨dgL, kL, e0, e1, e2, e3, rfl⟩ := hu
  have e4 := dc_cn g18_4 (by omega) (by omega) kL
  refine lv_aload_n hx hb dX3_stepOnce_190 rfl (lv_at hl 1 rfl) ?_
  refine lv_dup hx hb dX3_stepOnce_191 rfl ?_
  refine va_get (D := D) (ci := 3) (v := .int (nI st)) (C := RX3) (T := TX3) (N := 7) hx hb hts (by decide +kernel) hown hK hP 0 rfl rfl 1 (by decide) (hts (.fieldLink RX3 61 "LadderDeskModel" "steps" "I") (by decide +kernel)) (fun _ h9 => h9) rfl dX3_stepOnce_192 ?_
  refine lv_iconst (v := nI 1) hx hb dX3_stepOnce_195 (by decide) ?_
  refine lv_iadd hx hb dX3_stepOnce_196 ?_
  refine zi (y := nI (st + 1)) (nI_add _ _) ?_
  refine va_put (D := D) (ci := 3) (v := .int (nI (st + 1))) (ty := .int) (C := RX3) (T := TX3) (N := 7) hx hb hts (by decide +kernel) tyX3 tyX3_ok nmX3 hown hK hP hD hS 0 rfl rfl 1 (by decide) (hts (.fieldLink RX3 61 "LadderDeskModel" "steps" "I") (by decide +kernel)) (fun _ h9 => h9) rfl (by decide +kernel) rfl rfl (Nat.le_of_ble_eq_true rfl) dX3_stepOnce_197 (fun H locs hP hD hS => ?_)
  have hP : va_P D vwCl ([(om, .inr (3, [.int fp, .int (nI (st + 1)), .int fr, .ref aSc, .ref aPt, .ref aDg, .ref aSu])), (aSc, .inl (cA, 4, .inr (.inl scf))), (aPt, .inl (cA, 4, .inr (.inl ptf))), (aDg, .inl (cI, 208, .inl dgL)), (aSu, .inl (cA, 32, .inr (.inl su18)))]) H := hP
  have hD : va_D A ([(om, .inr (3, [.int fp, .int (nI (st + 1)), .int fr, .ref aSc, .ref aPt, .ref aDg, .ref aSu])), (aSc, .inl (cA, 4, .inr (.inl scf))), (aPt, .inl (cA, 4, .inr (.inl ptf))), (aDg, .inl (cI, 208, .inl dgL)), (aSu, .inl (cA, 32, .inr (.inl su18)))]) := hD
  subst hp2 hq2 hp3 hq3
  exact z_vret hx hb hr hlocks dX3_stepOnce_200 hK hP hD hS (⟨dgL, su18, e4, by cases bt <;> exact e0, by cases bt <;> exact e1, by cases bt <;> exact e2, by cases bt <;> exact e3, rfl⟩)
