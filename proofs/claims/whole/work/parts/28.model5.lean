set_option maxRecDepth 100000 in
set_option maxHeartbeats 4000000 in
theorem M_out (l : Launch) (D : va_G) (cA cI : ClassId) (tys : List (ClassId × FieldType)) (om ph st : Nat) (rs : Int32) (sc pt : Nat → Int64) (ws : va_W) (hMI : MI cA cI om ph st rs sc pt ws) (k : Int32) : zCl l D ((cA, .long) :: (cI, .int) :: tys) yX3_out wsX3_out ({ frames := 1, cells := 0, slots := 0, locals := 25 }) [.ref om, .int k] (ws) (fun r u => r = aOut ph sc pt k ∧ MI cA cI om ph st rs sc pt u) := by
  obtain ⟨aSc, aPt, aDg, aSu, scf, ptf, dg, su, rfl, hMV⟩ := hMI
  obtain ⟨v_sc, v_pt, v_lad, v_rs, v_ph, v_st, v_2⟩ := id hMV
  refine z_met (fun A => va_Ql (fun r u => r = aOut ph sc pt k ∧ MI cA cI om ph st rs sc pt u) (zB D ((cA, .long) :: (cI, .int) :: tys) A) A) (by decide) rfl (Nat.le_of_ble_eq_true rfl) ?_
  intro p e s m below meth c hx hb hr hml hts hown hlocks hname A hA hP hK hD hS ls hl
  have hown : s.vm.findClass RX3 = some m.cls := hown
  have hl : lv_has ls 2 [(0, .ref om), (1, .int k)] := hl
  refine lv_aload_n hx hb dX3_out_0 rfl (lv_at hl 0 rfl) ?_
  refine va_get (D := D) (ci := 3) (v := .int (nI ph)) (C := RX3) (T := TX3) (N := 7) hx hb hts (by decide +kernel) hown hK hP 0 rfl rfl 0 (by decide) (hts (.fieldLink RX3 53 "LadderDeskModel" "phase" "I") (by decide +kernel)) (fun _ h9 => h9) rfl dX3_out_1 ?_
  refine lv_iconst (v := nI 2) hx hb dX3_out_4 (by decide) ?_
  refine lv_icmp_ne (tgt := 24) hx hb dX3_out_5 (by decide) (fun c5 => ?_) (fun c5 => ?_)
  · have hc : ¬ ph = 2 := fun e => c5 (by rw [e])
    refine lv_lconst (v := 0) hx hb dX3_out_24 (by decide) ?_
    exact z_lret hx hb hr hlocks dX3_out_25 hK hP hD hS (⟨by unfold aOut; rw [if_neg (fun h => hc h.1)], ⟨aSc, aPt, aDg, aSu, scf, ptf, dg, su, rfl, hMV⟩⟩)
  · have hc : ph = 2 := (nI_eq (by omega) (by omega)).mp c5
    refine lv_iload_n hx hb dX3_out_8 rfl (lv_at hl 1 rfl) ?_
    refine z_calli (va_runS (As := [.int k]) (rest := []) ⟨hx, hb, hml, hown, hts⟩ (c_isLongM l D ((cA, .long) :: (cI, .int) :: tys) _ k _) (va_cwS 1 hts gX3_out_X3_isLong rfl rfl rfl (by decide +kernel) ⟨Nat.le_of_ble_eq_true rfl, Nat.le_of_ble_eq_true rfl⟩) (z_preS _ hK hP hD) rfl rfl hl.1 rfl (lv_room (Nat.le_of_ble_eq_true rfl)) dX3_out_9 ⟨Nat.le_of_ble_eq_true rfl, Nat.le_of_ble_eq_true rfl⟩) hD hS hA (fun r9 u H locs hu hP hD hS => ?_)
    obtain ⟨rfl, hz⟩ := hu
    refine lv_if_eq (tgt := 24) hx hb dX3_out_12 (by decide) (fun c12 => ?_) (fun c12 => ?_)
    · have hck : ¬ ∃ j : Nat, j < 4 ∧ k = nI j := by
        rcases hz with ⟨h, -⟩ | ⟨-, h⟩
        · rw [h] at c12; exact absurd c12 (by decide)
        · exact h
      refine lv_lconst (v := 0) hx hb dX3_out_24 (by decide) ?_
      exact z_lret hx hb hr hlocks dX3_out_25 hK hP hD hS (⟨by unfold aOut; rw [if_neg (fun h => by rw [isL_f hck] at h; exact absurd h.2 (by decide))], ⟨aSc, aPt, aDg, aSu, scf, ptf, dg, su, rfl, hMV⟩⟩)
    · obtain ⟨-, jk, hjk, rfl⟩ : r9 = 1 ∧ ∃ j : Nat, j < 4 ∧ k = nI j := by
        rcases hz with h | ⟨h, -⟩
        · exact h
        · exact absurd h c12
      refine lv_aload_n hx hb dX3_out_15 rfl (lv_at hl 0 rfl) ?_
      refine lv_iconst (v := nI 5) hx hb dX3_out_16 (by decide) ?_
      refine lv_iload_n hx hb dX3_out_17 rfl (lv_at hl 1 rfl) ?_
      refine z_calll (va_runV (As := [.int (nI 5), .int (nI jk)]) (rest := []) ⟨hx, hb, hml, hown, hts⟩ (m_longOf l D cA cI tys om aSc aPt aDg aSu (nI ph) (nI st) rs scf ptf dg su 5 jk (by omega) hjk _ (v_rs hc) _) (cwV 2 hts gX3_out_X3_longOf rfl rfl rfl (by decide +kernel) ⟨Nat.le_of_ble_eq_true rfl, Nat.le_of_ble_eq_true rfl⟩) (z_preV _ hK hP hD (ci := 3) (q0 := 0) rfl rfl) rfl rfl hl.1 rfl (lv_room (Nat.le_of_ble_eq_true rfl)) dX3_out_18 ⟨Nat.le_of_ble_eq_true rfl, Nat.le_of_ble_eq_true rfl⟩) hD hS hA (fun r18 u H locs hu hP hD hS => ?_)
      obtain ⟨hr18, rfl⟩ := hu
      refine lv_goto (tgt := 25) hx hb dX3_out_21 (by decide) ?_
      exact z_lret hx hb hr hlocks dX3_out_25 hK hP hD hS (⟨by rw [hr18]; unfold aOut; rw [if_pos ⟨hc, isL_t hjk⟩, nI_clamp (by omega), Int.toNat_natCast], ⟨aSc, aPt, aDg, aSu, scf, ptf, dg, su, rfl, hMV⟩⟩)
set_option maxRecDepth 100000 in
set_option maxHeartbeats 4000000 in
theorem M_part (l : Launch) (D : va_G) (cA cI : ClassId) (tys : List (ClassId × FieldType)) (om ph st : Nat) (rs : Int32) (sc pt : Nat → Int64) (ws : va_W) (hMI : MI cA cI om ph st rs sc pt ws) (w k : Int32) : zCl l D ((cA, .long) :: (cI, .int) :: tys) yX3_part wsX3_part ({ frames := 1, cells := 0, slots := 0, locals := 25 }) [.ref om, .int w, .int k] (ws) (fun r u => r = aPart ph st sc pt w k ∧ MI cA cI om ph st rs sc pt u) := by
  obtain ⟨aSc, aPt, aDg, aSu, scf, ptf, dg, su, rfl, hMV⟩ := hMI
  obtain ⟨v_sc, v_pt, v_lad, v_rs, v_ph, v_st, v_2⟩ := id hMV
  refine z_met (fun A => va_Ql (fun r u => r = aPart ph st sc pt w k ∧ MI cA cI om ph st rs sc pt u) (zB D ((cA, .long) :: (cI, .int) :: tys) A) A) (by decide) rfl (Nat.le_of_ble_eq_true rfl) ?_
  intro p e s m below meth c hx hb hr hml hts hown hlocks hname A hA hP hK hD hS ls hl
  have hown : s.vm.findClass RX3 = some m.cls := hown
  have hl : lv_has ls 3 [(0, .ref om), (1, .int w), (2, .int k)] := hl
  refine lv_aload_n hx hb dX3_part_0 rfl (lv_at hl 0 rfl) ?_
  refine va_get (D := D) (ci := 3) (v := .int (nI ph)) (C := RX3) (T := TX3) (N := 7) hx hb hts (by decide +kernel) hown hK hP 0 rfl rfl 0 (by decide) (hts (.fieldLink RX3 53 "LadderDeskModel" "phase" "I") (by decide +kernel)) (fun _ h9 => h9) rfl dX3_part_1 ?_
  refine lv_if_le (tgt := 32) hx hb dX3_part_4 (by decide) (fun c4 => ?_) (fun c4 => ?_)
  · have hc : ph = 0 := by
      have := Int32.le_iff_toInt_le.mp c4
      rw [nI_toInt (by omega), show (0 : Int32).toInt = 0 from by decide] at this
      omega
    refine lv_lconst (v := 0) hx hb dX3_part_32 (by decide) ?_
    exact z_lret hx hb hr hlocks dX3_part_33 hK hP hD hS (⟨by unfold aPart; rw [if_neg (fun h => h.1 hc)], ⟨aSc, aPt, aDg, aSu, scf, ptf, dg, su, rfl, hMV⟩⟩)
  · have hc : ph ≠ 0 := fun e => c4 (by rw [e]; exact Int32.le_refl _)
    refine lv_iload_n hx hb dX3_part_7 rfl (lv_at hl 1 rfl) ?_
    refine lv_if_lt (tgt := 32) hx hb dX3_part_8 (by decide) (fun c8 => ?_) (fun c8 => ?_)
    · have hcw : ¬ ∃ j : Nat, j < 5 ∧ w = nI j := fun ⟨j, h1, h2⟩ => by rw [h2] at c8; exact nI_pos (by omega) c8
      refine lv_lconst (v := 0) hx hb dX3_part_32 (by decide) ?_
      exact z_lret hx hb hr hlocks dX3_part_33 hK hP hD hS (⟨by unfold aPart; rw [if_neg (fun h => by rw [isP_f hcw] at h; exact absurd h.2.1 (by decide))], ⟨aSc, aPt, aDg, aSu, scf, ptf, dg, su, rfl, hMV⟩⟩)
    · obtain ⟨jw, hjw, rfl⟩ := nI_of c8
      refine lv_iload_n hx hb dX3_part_11 rfl (lv_at hl 1 rfl) ?_
      refine lv_iconst (v := nI 4) hx hb dX3_part_12 (by decide) ?_
      refine lv_icmp_gt (tgt := 32) hx hb dX3_part_13 (by decide) (fun c13 => ?_) (fun c13 => ?_)
      · have hcw : ¬ ∃ i : Nat, i < 5 ∧ nI jw = nI i := fun ⟨i, h1, h2⟩ => by have := (nI_eq hjw (by omega)).mp h2; have := (nI_ltI (by omega) hjw).mp c13; omega
        refine lv_lconst (v := 0) hx hb dX3_part_32 (by decide) ?_
        exact z_lret hx hb hr hlocks dX3_part_33 hK hP hD hS (⟨by unfold aPart; rw [if_neg (fun h => by rw [isP_f hcw] at h; exact absurd h.2.1 (by decide))], ⟨aSc, aPt, aDg, aSu, scf, ptf, dg, su, rfl, hMV⟩⟩)
      · have hw5 : jw < 5 := by
          apply Nat.lt_of_not_le
          intro h
          exact c13 ((nI_ltI (by omega) hjw).mpr (by omega))
        refine lv_iload_n hx hb dX3_part_16 rfl (lv_at hl 2 rfl) ?_
        refine z_calli (va_runS (As := [.int k]) (rest := []) ⟨hx, hb, hml, hown, hts⟩ (c_isLongM l D ((cA, .long) :: (cI, .int) :: tys) _ k _) (va_cwS 1 hts gX3_part_X3_isLong rfl rfl rfl (by decide +kernel) ⟨Nat.le_of_ble_eq_true rfl, Nat.le_of_ble_eq_true rfl⟩) (z_preS _ hK hP hD) rfl rfl hl.1 rfl (lv_room (Nat.le_of_ble_eq_true rfl)) dX3_part_17 ⟨Nat.le_of_ble_eq_true rfl, Nat.le_of_ble_eq_true rfl⟩) hD hS hA (fun r17 u H locs hu hP hD hS => ?_)
        obtain ⟨rfl, hz⟩ := hu
        refine lv_if_eq (tgt := 32) hx hb dX3_part_20 (by decide) (fun c20 => ?_) (fun c20 => ?_)
        · have hck : ¬ ∃ j : Nat, j < 4 ∧ k = nI j := by
            rcases hz with ⟨h, -⟩ | ⟨-, h⟩
            · rw [h] at c20; exact absurd c20 (by decide)
            · exact h
          refine lv_lconst (v := 0) hx hb dX3_part_32 (by decide) ?_
          exact z_lret hx hb hr hlocks dX3_part_33 hK hP hD hS (⟨by unfold aPart; rw [if_neg (fun h => by rw [isL_f hck] at h; exact absurd h.2.2 (by decide))], ⟨aSc, aPt, aDg, aSu, scf, ptf, dg, su, rfl, hMV⟩⟩)
        · obtain ⟨-, jk, hjk, rfl⟩ : r17 = 1 ∧ ∃ j : Nat, j < 4 ∧ k = nI j := by
            rcases hz with h | ⟨h, -⟩
            · exact h
            · exact absurd h c20
          obtain ⟨hU, hX2, hZ2, hX3, hZ3⟩ := v_lad hc
          have hv : dh dg jw (lpart sc pt st jw) := by
            unfold lpart
            rcases (show jw = 0 ∨ jw = 1 ∨ jw = 2 ∨ jw = 3 ∨ jw = 4 by omega) with rfl | rfl | rfl | rfl | rfl
            · exact hX2
            · exact hZ2
            · exact hX3
            · exact hZ3
            · exact hU
          refine lv_aload_n hx hb dX3_part_23 rfl (lv_at hl 0 rfl) ?_
          refine lv_iload_n hx hb dX3_part_24 rfl (lv_at hl 1 rfl) ?_
          refine lv_iload_n hx hb dX3_part_25 rfl (lv_at hl 2 rfl) ?_
          refine z_calll (va_runV (As := [.int (nI jw), .int (nI jk)]) (rest := []) ⟨hx, hb, hml, hown, hts⟩ (m_longOf l D cA cI tys om aSc aPt aDg aSu (nI ph) (nI st) rs scf ptf dg su jw jk (by omega) hjk _ hv _) (cwV 2 hts gX3_part_X3_longOf rfl rfl rfl (by decide +kernel) ⟨Nat.le_of_ble_eq_true rfl, Nat.le_of_ble_eq_true rfl⟩) (z_preV _ hK hP hD (ci := 3) (q0 := 0) rfl rfl) rfl rfl hl.1 rfl (lv_room (Nat.le_of_ble_eq_true rfl)) dX3_part_26 ⟨Nat.le_of_ble_eq_true rfl, Nat.le_of_ble_eq_true rfl⟩) hD hS hA (fun r26 u H locs hu hP hD hS => ?_)
          obtain ⟨hr26, rfl⟩ := hu
          refine lv_goto (tgt := 33) hx hb dX3_part_29 (by decide) ?_
          exact z_lret hx hb hr hlocks dX3_part_33 hK hP hD hS (⟨by rw [hr26]; unfold aPart; rw [if_pos ⟨hc, isP_t hw5, isL_t hjk⟩, nI_clamp (by omega), nI_clamp (by omega)], ⟨aSc, aPt, aDg, aSu, scf, ptf, dg, su, rfl, hMV⟩⟩)
set_option maxRecDepth 100000 in
set_option maxHeartbeats 4000000 in
theorem M_told (l : Launch) (D : va_G) (cA cI : ClassId) (tys : List (ClassId × FieldType)) (om ph st : Nat) (rs : Int32) (sc pt : Nat → Int64) (ws : va_W) (hMI : MI cA cI om ph st rs sc pt ws) (w k : Int32) : zCl l D ((cA, .long) :: (cI, .int) :: tys) yX3_told wsX3_told ({ frames := 4, cells := 0, slots := 0, locals := 91 }) [.ref om, .int w, .int k] (ws) (fun r u => r = aTold sc pt w k ∧ MI cA cI om ph st rs sc pt u) := by
  obtain ⟨aSc, aPt, aDg, aSu, scf, ptf, dg, su, rfl, hMV⟩ := hMI
  obtain ⟨v_sc, v_pt, v_lad, v_rs, v_ph, v_st, v_2⟩ := id hMV
  refine z_met (fun A => va_Ql (fun r u => r = aTold sc pt w k ∧ MI cA cI om ph st rs sc pt u) (zB D ((cA, .long) :: (cI, .int) :: tys) A) A) (by decide) rfl (Nat.le_of_ble_eq_true rfl) ?_
  intro p e s m below meth c hx hb hr hml hts hown hlocks hname A hA hP hK hD hS ls hl
  have hown : s.vm.findClass RX3 = some m.cls := hown
  have hl : lv_has ls 5 [(0, .ref om), (1, .int w), (2, .int k)] := hl
  refine lv_iload_n hx hb dX3_told_0 rfl (lv_at hl 2 rfl) ?_
  refine z_calli (va_runS (As := [.int k]) (rest := []) ⟨hx, hb, hml, hown, hts⟩ (c_isLongM l D ((cA, .long) :: (cI, .int) :: tys) _ k _) (va_cwS 1 hts gX3_told_X3_isLong rfl rfl rfl (by decide +kernel) ⟨Nat.le_of_ble_eq_true rfl, Nat.le_of_ble_eq_true rfl⟩) (z_preS _ hK hP hD) rfl rfl hl.1 rfl (lv_room (Nat.le_of_ble_eq_true rfl)) dX3_told_1 ⟨Nat.le_of_ble_eq_true rfl, Nat.le_of_ble_eq_true rfl⟩) hD hS hA (fun r1 u H locs hu hP hD hS => ?_)
  obtain ⟨rfl, hz⟩ := hu
  refine lv_if_ne (tgt := 9) hx hb dX3_told_4 (by decide) (fun c4 => ?_) (fun c4 => ?_)
  · obtain ⟨-, jk, hjk, rfl⟩ : r1 = 1 ∧ ∃ j : Nat, j < 4 ∧ k = nI j := by
      rcases hz with h | ⟨h, -⟩
      · exact h
      · exact absurd h c4
    have hT : aTold sc pt w (nI jk) = if w = 0 then sc jk else if w = 1 then pt jk else if w = 2 then cl sc jk else if w = 3 then ow (uo pt) jk else 0 := by unfold aTold; rw [if_pos (isL_t hjk), nI_clamp (by omega)]
    refine lv_iload_n hx hb dX3_told_9 rfl (lv_at hl 1 rfl) ?_
    refine lv_if_ne (tgt := 20) hx hb dX3_told_10 (by decide) (fun c10 => ?_) (fun c10 => ?_)
    · have h0 : ¬ w = 0 := c10
      refine lv_iload_n hx hb dX3_told_20 rfl (lv_at hl 1 rfl) ?_
      refine lv_iconst (v := nI 1) hx hb dX3_told_21 (by decide) ?_
      refine lv_icmp_ne (tgt := 32) hx hb dX3_told_22 (by decide) (fun c22 => ?_) (fun c22 => ?_)
      · have h1 : ¬ w = 1 := c22
        refine lv_iload_n hx hb dX3_told_32 rfl (lv_at hl 1 rfl) ?_
        refine lv_iconst (v := nI 2) hx hb dX3_told_33 (by decide) ?_
        refine lv_icmp_ne (tgt := 80) hx hb dX3_told_34 (by decide) (fun c34 => ?_) (fun c34 => ?_)
        · have h2 : ¬ w = 2 := c34
          refine lv_iload_n hx hb dX3_told_80 rfl (lv_at hl 1 rfl) ?_
          refine lv_iconst (v := nI 3) hx hb dX3_told_81 (by decide) ?_
          refine lv_icmp_eq (tgt := 87) hx hb dX3_told_82 (by decide) (fun c82 => ?_) (fun c82 => ?_)
          · have h3 : w = 3 := c82
            refine lv_aload_n hx hb dX3_told_87 rfl (lv_at hl 0 rfl) ?_
            refine va_get (D := D) (ci := 3) (v := .int (nI ph)) (C := RX3) (T := TX3) (N := 7) hx hb hts (by decide +kernel) hown hK hP 0 rfl rfl 0 (by decide) (hts (.fieldLink RX3 53 "LadderDeskModel" "phase" "I") (by decide +kernel)) (fun _ h9 => h9) rfl dX3_told_88 ?_
            refine lv_if_ne (tgt := 98) hx hb dX3_told_91 (by decide) (fun c91 => ?_) (fun c91 => ?_)
            · have hc : ph ≠ 0 := fun e => c91 (by rw [e]; rfl)
              obtain ⟨hU, hX2, hZ2, hX3, hZ3⟩ := v_lad hc
              refine lv_aload_n hx hb dX3_told_98 rfl (lv_at hl 0 rfl) ?_
              refine lv_iconst (v := nI 4) hx hb dX3_told_99 (by decide) ?_
              refine lv_iload_n hx hb dX3_told_100 rfl (lv_at hl 2 rfl) ?_
              refine z_calll (va_runV (As := [.int (nI 4), .int (nI jk)]) (rest := []) ⟨hx, hb, hml, hown, hts⟩ (m_longOf l D cA cI tys om aSc aPt aDg aSu (nI ph) (nI st) rs scf ptf dg su 4 jk (by omega) hjk _ hU _) (cwV 2 hts gX3_told_X3_longOf rfl rfl rfl (by decide +kernel) ⟨Nat.le_of_ble_eq_true rfl, Nat.le_of_ble_eq_true rfl⟩) (z_preV _ hK hP hD (ci := 3) (q0 := 0) rfl rfl) rfl rfl hl.1 rfl (lv_room (Nat.le_of_ble_eq_true rfl)) dX3_told_101 ⟨Nat.le_of_ble_eq_true rfl, Nat.le_of_ble_eq_true rfl⟩) hD hS hA (fun r101 u H locs hu hP hD hS => ?_)
              obtain ⟨hr101, rfl⟩ := hu
              exact z_lret hx hb hr hlocks dX3_told_104 hK hP hD hS (⟨by rw [hr101, Int.toNat_natCast, hT, if_neg h0, if_neg h1, if_neg h2, if_pos h3], ⟨aSc, aPt, aDg, aSu, scf, ptf, dg, su, rfl, hMV⟩⟩)
            · have hc : ph = 0 := (nI_eq (by omega) (by omega)).mp c91
              subst hc
              refine lv_aload_n hx hb dX3_told_94 rfl (lv_at hl 0 rfl) ?_
              refine z_callv (va_runV (As := []) (rest := []) ⟨hx, hb, hml, hown, hts⟩ (m_makeU l D cA cI tys om aSc aPt aDg aSu (nI 0) (nI st) rs scf ptf dg su  _) (cwV 0 hts gX3_told_X3_makeU rfl rfl rfl (by decide +kernel) ⟨Nat.le_of_ble_eq_true rfl, Nat.le_of_ble_eq_true rfl⟩) (z_preV _ hK hP hD (ci := 3) (q0 := 0) rfl rfl) rfl rfl hl.1 rfl (lv_room (Nat.le_of_ble_eq_true rfl)) dX3_told_95 ⟨Nat.le_of_ble_eq_true rfl, Nat.le_of_ble_eq_true rfl⟩) hD hS hA (fun u H locs hu hP hD hS => ?_)
              obtain ⟨d1, s1, k1, w1, rfl⟩ := hu
              rw [uo_congr v_pt] at w1
              refine lv_aload_n hx hb dX3_told_98 rfl (lv_at hl 0 rfl) ?_
              refine lv_iconst (v := nI 4) hx hb dX3_told_99 (by decide) ?_
              refine lv_iload_n hx hb dX3_told_100 rfl (lv_at hl 2 rfl) ?_
              refine z_calll (va_runV (As := [.int (nI 4), .int (nI jk)]) (rest := []) ⟨hx, hb, hml, hown, hts⟩ (m_longOf l D cA cI tys om aSc aPt aDg aSu (nI 0) (nI st) rs scf ptf d1 s1 4 jk (by omega) hjk _ w1 _) (cwV 2 hts gX3_told_X3_longOf rfl rfl rfl (by decide +kernel) ⟨Nat.le_of_ble_eq_true rfl, Nat.le_of_ble_eq_true rfl⟩) (z_preV _ hK hP hD (ci := 3) (q0 := 0) rfl rfl) rfl rfl hl.1 rfl (lv_room (Nat.le_of_ble_eq_true rfl)) dX3_told_101 ⟨Nat.le_of_ble_eq_true rfl, Nat.le_of_ble_eq_true rfl⟩) hD hS hA (fun r101 u H locs hu hP hD hS => ?_)
              obtain ⟨hr101, rfl⟩ := hu
              exact z_lret hx hb hr hlocks dX3_told_104 hK hP hD hS (⟨by rw [hr101, Int.toNat_natCast, hT, if_neg h0, if_neg h1, if_neg h2, if_pos h3], ⟨aSc, aPt, aDg, aSu, scf, ptf, d1, s1, rfl, MV_0 v_sc v_pt v_st⟩⟩)
          · have h3 : ¬ w = 3 := c82
            refine lv_lconst (v := 0) hx hb dX3_told_85 (by decide) ?_
            exact z_lret hx hb hr hlocks dX3_told_86 hK hP hD hS (⟨by rw [hT, if_neg h0, if_neg h1, if_neg h2, if_neg h3], ⟨aSc, aPt, aDg, aSu, scf, ptf, dg, su, rfl, hMV⟩⟩)
        · have h2 : w = 2 := c34
          refine lv_iload_n hx hb dX3_told_37 rfl (lv_at hl 2 rfl) ?_
          refine lv_if_ne (tgt := 54) hx hb dX3_told_38 (by decide) (fun c38 => ?_) (fun c38 => ?_)
          · have hj0 : ¬ jk = 0 := fun e => c38 (by rw [e]; rfl)
            refine lv_aload_n hx hb dX3_told_54 rfl (lv_at hl 0 rfl) ?_
            refine va_get (D := D) (ci := 3) (v := .ref aSc) (C := RX3) (T := TX3) (N := 7) hx hb hts (by decide +kernel) hown hK hP 0 rfl rfl 3 (by decide) (hts (.fieldLink RX3 7 "LadderDeskModel" "scalar" "[J") (by decide +kernel)) (fun _ h9 => h9) rfl dX3_told_55 ?_
            refine lv_iload_n hx hb dX3_told_58 rfl (lv_at hl 2 rfl) ?_
            refine y_ld hx hb hK hP 1 0 rfl rfl jk rfl (by omega) (by omega) dX3_told_59 ?_
            refine lv_topl (fun v59 e59 => ?_)
            refine lv_lstore_n (lv' := [(3, .long v59), (0, .ref om), (1, .int w), (2, .int (nI jk))]) hx hb dX3_told_60 rfl hl (by decide) rfl (fun ls hl => ?_)
            refine lv_iload_n hx hb dX3_told_61 rfl (lv_at hl 3 rfl) ?_
            refine lv_iconst (v := nI 3) hx hb dX3_told_62 (by decide) ?_
            refine lv_icmp_ne (tgt := 78) hx hb dX3_told_63 (by decide) (fun c63 => ?_) (fun c63 => ?_)
            · have hj3 : ¬ jk = 3 := fun e => c63 (by rw [e])
              refine lv_lload_n hx hb dX3_told_78 rfl (lv_at hl 0 rfl) ?_
              exact z_lret hx hb hr hlocks dX3_told_79 hK hP hD hS (⟨by rw [e59, hT, if_neg h0, if_neg h1, if_pos h2]; unfold cl; rw [if_neg hj0, if_neg hj3]; exact v_sc jk hjk, ⟨aSc, aPt, aDg, aSu, scf, ptf, dg, su, rfl, hMV⟩⟩)
            · have hj3 : jk = 3 := (nI_eq (by omega) (by omega)).mp c63
              refine lv_lload_n hx hb dX3_told_66 rfl (lv_at hl 0 rfl) ?_
              refine lv_ldc2 (v := 4611686018427387903) hx hb hown (hts (.constantLong RX3 106 (4611686018427387903)) (by decide +kernel)) dX3_told_67 ?_
              refine lv_land hx hb dX3_told_70 ?_
              refine lv_topl (fun v70 e70 => ?_)
              refine lv_ldc2 (v := 4611686018427387904) hx hb hown (hts (.constantLong RX3 108 (4611686018427387904)) (by decide +kernel)) dX3_told_71 ?_
              refine lv_lor hx hb dX3_told_74 ?_
              refine lv_topl (fun v74 e74 => ?_)
              refine lv_goto (tgt := 79) hx hb dX3_told_75 (by decide) ?_
              exact z_lret hx hb hr hlocks dX3_told_79 hK hP hD hS (⟨by rw [e74, e70, e59, hT, if_neg h0, if_neg h1, if_pos h2, c62]; unfold cl; rw [if_neg hj0, if_pos hj3, hj3, v_sc 3 (by omega)], ⟨aSc, aPt, aDg, aSu, scf, ptf, dg, su, rfl, hMV⟩⟩)
          · have hj0 : jk = 0 := (nI_eq (by omega) (by omega)).mp c38
            refine lv_aload_n hx hb dX3_told_41 rfl (lv_at hl 0 rfl) ?_
            refine va_get (D := D) (ci := 3) (v := .ref aSc) (C := RX3) (T := TX3) (N := 7) hx hb hts (by decide +kernel) hown hK hP 0 rfl rfl 3 (by decide) (hts (.fieldLink RX3 7 "LadderDeskModel" "scalar" "[J") (by decide +kernel)) (fun _ h9 => h9) rfl dX3_told_42 ?_
            refine lv_iconst (v := nI 0) hx hb dX3_told_45 (by decide) ?_
            refine y_ld hx hb hK hP 1 0 rfl rfl 0 rfl (by omega) (by omega) dX3_told_46 ?_
            refine lv_topl (fun v46 e46 => ?_)
            refine lv_ldc2 (v := (-8)) hx hb hown (hts (.constantLong RX3 104 (-8)) (by decide +kernel)) dX3_told_47 ?_
            refine lv_land hx hb dX3_told_50 ?_
            refine lv_topl (fun v50 e50 => ?_)
            refine lv_goto (tgt := 60) hx hb dX3_told_51 (by decide) ?_
            refine lv_lstore_n (lv' := [(3, .long v50), (0, .ref om), (1, .int w), (2, .int (nI jk))]) hx hb dX3_told_60 rfl hl (by decide) rfl (fun ls hl => ?_)
            refine lv_iload_n hx hb dX3_told_61 rfl (lv_at hl 3 rfl) ?_
            refine lv_iconst (v := nI 3) hx hb dX3_told_62 (by decide) ?_
            refine lv_icmp_ne (tgt := 78) hx hb dX3_told_63 (by decide) (fun c63 => ?_) (fun c63 => absurd ((nI_eq (by omega) (by omega)).mp c63) (by omega))
            refine lv_lload_n hx hb dX3_told_78 rfl (lv_at hl 0 rfl) ?_
            exact z_lret hx hb hr hlocks dX3_told_79 hK hP hD hS (⟨by rw [e50, e46, hT, if_neg h0, if_neg h1, if_pos h2]; unfold cl; rw [if_pos hj0, v_sc 0 (by omega)], ⟨aSc, aPt, aDg, aSu, scf, ptf, dg, su, rfl, hMV⟩⟩)
      · have h1 : w = 1 := c22
        refine lv_aload_n hx hb dX3_told_25 rfl (lv_at hl 0 rfl) ?_
        refine va_get (D := D) (ci := 3) (v := .ref aPt) (C := RX3) (T := TX3) (N := 7) hx hb hts (by decide +kernel) hown hK hP 0 rfl rfl 4 (by decide) (hts (.fieldLink RX3 13 "LadderDeskModel" "point" "[J") (by decide +kernel)) (fun _ h9 => h9) rfl dX3_told_26 ?_
        refine lv_iload_n hx hb dX3_told_29 rfl (lv_at hl 2 rfl) ?_
        refine y_ld hx hb hK hP 2 0 rfl rfl jk rfl (by omega) (by omega) dX3_told_30 ?_
        refine lv_topl (fun v30 e30 => ?_)
        exact z_lret hx hb hr hlocks dX3_told_31 hK hP hD hS (⟨by rw [e30, hT, if_neg h0, if_pos h1]; exact v_pt jk hjk, ⟨aSc, aPt, aDg, aSu, scf, ptf, dg, su, rfl, hMV⟩⟩)
    · have h0 : w = 0 := c10
      refine lv_aload_n hx hb dX3_told_13 rfl (lv_at hl 0 rfl) ?_
      refine va_get (D := D) (ci := 3) (v := .ref aSc) (C := RX3) (T := TX3) (N := 7) hx hb hts (by decide +kernel) hown hK hP 0 rfl rfl 3 (by decide) (hts (.fieldLink RX3 7 "LadderDeskModel" "scalar" "[J") (by decide +kernel)) (fun _ h9 => h9) rfl dX3_told_14 ?_
      refine lv_iload_n hx hb dX3_told_17 rfl (lv_at hl 2 rfl) ?_
      refine y_ld hx hb hK hP 1 0 rfl rfl jk rfl (by omega) (by omega) dX3_told_18 ?_
      refine lv_topl (fun v18 e18 => ?_)
      exact z_lret hx hb hr hlocks dX3_told_19 hK hP hD hS (⟨by rw [e18, hT, if_pos h0]; exact v_sc jk hjk, ⟨aSc, aPt, aDg, aSu, scf, ptf, dg, su, rfl, hMV⟩⟩)
  · have hck : ¬ ∃ j : Nat, j < 4 ∧ k = nI j := by
      rcases hz with ⟨h, -⟩ | ⟨-, h⟩
      · rw [h] at c4; exact absurd c4 (by decide)
      · exact h
    refine lv_lconst (v := 0) hx hb dX3_told_7 (by decide) ?_
    exact z_lret hx hb hr hlocks dX3_told_8 hK hP hD hS (⟨by unfold aTold; rw [if_neg (fun h => by rw [isL_f hck] at h; exact absurd h (by decide))], ⟨aSc, aPt, aDg, aSu, scf, ptf, dg, su, rfl, hMV⟩⟩)
set_option maxRecDepth 100000 in
set_option maxHeartbeats 4000000 in
theorem M_count (l : Launch) (D : va_G) (cA cI : ClassId) (tys : List (ClassId × FieldType)) (om ph st : Nat) (rs : Int32) (sc pt : Nat → Int64) (ws : va_W) (hMI : MI cA cI om ph st rs sc pt ws) (w : Int32) : zCi l D ((cA, .long) :: (cI, .int) :: tys) yX3_count wsX3_count ({ frames := 0, cells := 0, slots := 0, locals := 0 }) [.ref om, .int w] (ws) (fun r u => r = aCount ph st rs w ∧ MI cA cI om ph st rs sc pt u) := by
  obtain ⟨aSc, aPt, aDg, aSu, scf, ptf, dg, su, rfl, hMV⟩ := hMI
  obtain ⟨v_sc, v_pt, v_lad, v_rs, v_ph, v_st, v_2⟩ := id hMV
  refine z_met (fun A => va_Qi (fun r u => r = aCount ph st rs w ∧ MI cA cI om ph st rs sc pt u) (zB D ((cA, .long) :: (cI, .int) :: tys) A) A) (by decide) rfl (Nat.le_of_ble_eq_true rfl) ?_
  intro p e s m below meth c hx hb hr hml hts hown hlocks hname A hA hP hK hD hS ls hl
  have hown : s.vm.findClass RX3 = some m.cls := hown
  have hl : lv_has ls 2 [(0, .ref om), (1, .int w)] := hl
  refine lv_iload_n hx hb dX3_count_0 rfl (lv_at hl 1 rfl) ?_
  refine lv_if_ne (tgt := 22) hx hb dX3_count_1 (by decide) (fun c1 => ?_) (fun c1 => ?_)
  · have h0 : ¬ w = 0 := c1
    refine lv_iload_n hx hb dX3_count_22 rfl (lv_at hl 1 rfl) ?_
    refine lv_iconst (v := nI 1) hx hb dX3_count_23 (by decide) ?_
    refine lv_icmp_ne (tgt := 34) hx hb dX3_count_24 (by decide) (fun c24 => ?_) (fun c24 => ?_)
    · have h1 : ¬ w = 1 := c24
      refine lv_iconst (v := (-1)) hx hb dX3_count_34 (by decide) ?_
      exact z_iret hx hb hr hlocks dX3_count_35 hK hP hD hS (⟨by unfold aCount; rw [if_neg h0, if_neg h1], ⟨aSc, aPt, aDg, aSu, scf, ptf, dg, su, rfl, hMV⟩⟩)
    · have h1 : w = 1 := c24
      refine lv_aload_n hx hb dX3_count_27 rfl (lv_at hl 0 rfl) ?_
      refine va_get (D := D) (ci := 3) (v := .int rs) (C := RX3) (T := TX3) (N := 7) hx hb hts (by decide +kernel) hown hK hP 0 rfl rfl 2 (by decide) (hts (.fieldLink RX3 97 "LadderDeskModel" "results" "I") (by decide +kernel)) (fun _ h9 => h9) rfl dX3_count_28 ?_
      refine lv_goto (tgt := 35) hx hb dX3_count_31 (by decide) ?_
      exact z_iret hx hb hr hlocks dX3_count_35 hK hP hD hS (⟨by unfold aCount; rw [if_neg h0, if_pos h1], ⟨aSc, aPt, aDg, aSu, scf, ptf, dg, su, rfl, hMV⟩⟩)
  · have h0 : w = 0 := c1
    refine lv_aload_n hx hb dX3_count_4 rfl (lv_at hl 0 rfl) ?_
    refine va_get (D := D) (ci := 3) (v := .int (nI ph)) (C := RX3) (T := TX3) (N := 7) hx hb hts (by decide +kernel) hown hK hP 0 rfl rfl 0 (by decide) (hts (.fieldLink RX3 53 "LadderDeskModel" "phase" "I") (by decide +kernel)) (fun _ h9 => h9) rfl dX3_count_5 ?_
    refine lv_if_ne (tgt := 15) hx hb dX3_count_8 (by decide) (fun c8 => ?_) (fun c8 => ?_)
    · have hc : ¬ ph = 0 := fun e => c8 (by rw [e]; rfl)
      refine lv_aload_n hx hb dX3_count_15 rfl (lv_at hl 0 rfl) ?_
      refine va_get (D := D) (ci := 3) (v := .int (nI st)) (C := RX3) (T := TX3) (N := 7) hx hb hts (by decide +kernel) hown hK hP 0 rfl rfl 1 (by decide) (hts (.fieldLink RX3 61 "LadderDeskModel" "steps" "I") (by decide +kernel)) (fun _ h9 => h9) rfl dX3_count_16 ?_
      refine lv_goto (tgt := 35) hx hb dX3_count_19 (by decide) ?_
      exact z_iret hx hb hr hlocks dX3_count_35 hK hP hD hS (⟨by unfold aCount; rw [if_pos h0, if_neg hc], ⟨aSc, aPt, aDg, aSu, scf, ptf, dg, su, rfl, hMV⟩⟩)
    · have hc : ph = 0 := (nI_eq (by omega) (by omega)).mp c8
      refine lv_iconst (v := nI 0) hx hb dX3_count_11 (by decide) ?_
      refine lv_goto (tgt := 35) hx hb dX3_count_12 (by decide) ?_
      exact z_iret hx hb hr hlocks dX3_count_35 hK hP hD hS (⟨by unfold aCount; rw [if_pos h0, if_pos hc]; rfl, ⟨aSc, aPt, aDg, aSu, scf, ptf, dg, su, rfl, hMV⟩⟩)
set_option maxRecDepth 100000 in
set_option maxHeartbeats 4000000 in
theorem M_check (l : Launch) (D : va_G) (cA cI : ClassId) (tys : List (ClassId × FieldType)) (om ph st : Nat) (rs : Int32) (sc pt : Nat → Int64) (ws : va_W) (hMI : MI cA cI om ph st rs sc pt ws)  : zCi l D ((cA, .long) :: (cI, .int) :: tys) yX3_check wsX3_check ({ frames := 4, cells := 0, slots := 0, locals := 95 }) [.ref om] (ws) (fun r u => r = aCheck ph sc pt ∧ MI cA cI om ph st rs sc pt u) := by
  obtain ⟨aSc, aPt, aDg, aSu, scf, ptf, dg, su, rfl, hMV⟩ := hMI
  obtain ⟨v_sc, v_pt, v_lad, v_rs, v_ph, v_st, v_2⟩ := id hMV
  refine z_met (fun A => va_Qi (fun r u => r = aCheck ph sc pt ∧ MI cA cI om ph st rs sc pt u) (zB D ((cA, .long) :: (cI, .int) :: tys) A) A) (by decide) rfl (Nat.le_of_ble_eq_true rfl) ?_
  intro p e s m below meth c hx hb hr hml hts hown hlocks hname A hA hP hK hD hS ls hl
  have hown : s.vm.findClass RX3 = some m.cls := hown
  have hl : lv_has ls 2 [(0, .ref om)] := hl
  refine lv_aload_n hx hb dX3_check_0 rfl (lv_at hl 0 rfl) ?_
  refine va_get (D := D) (ci := 3) (v := .int (nI ph)) (C := RX3) (T := TX3) (N := 7) hx hb hts (by decide +kernel) hown hK hP 0 rfl rfl 0 (by decide) (hts (.fieldLink RX3 53 "LadderDeskModel" "phase" "I") (by decide +kernel)) (fun _ h9 => h9) rfl dX3_check_1 ?_
  refine lv_iconst (v := nI 2) hx hb dX3_check_4 (by decide) ?_
  refine lv_icmp_eq (tgt := 10) hx hb dX3_check_5 (by decide) (fun c5 => ?_) (fun c5 => ?_)
  · have hc : ph = 2 := (nI_eq (by omega) (by omega)).mp c5
    subst hc
    have h255 := v_2 rfl
    subst h255
    obtain ⟨hU, hX2, hZ2, hX3, hZ3⟩ := v_lad (by decide)
    have hR := v_rs rfl
    obtain ⟨ix2, iz2, -, -⟩ := lad_in sc pt 255
    refine lv_aload_n hx hb dX3_check_10 rfl (lv_at hl 0 rfl) ?_
    refine lv_bipush (v := nI 11) hx hb dX3_check_11 (by decide) ?_
    refine lv_iconst (v := nI 5) hx hb dX3_check_13 (by decide) ?_
    refine lv_iconst (v := nI 1) hx hb dX3_check_14 (by decide) ?_
    refine z_callv (va_runV (As := [.int (nI 11), .int (nI 5), .int (nI 1)]) (rest := []) ⟨hx, hb, hml, hown, hts⟩ (m_multiply l D cA cI tys om aSc aPt aDg aSu (nI 2) (nI 255) rs scf ptf dg su 11 5 1 (by omega) (by omega) (by omega) _ _ (dc_of hR) (dc_of hZ2) _) (cwV 3 hts gX3_check_X3_multiply rfl rfl rfl (by decide +kernel) ⟨Nat.le_of_ble_eq_true rfl, Nat.le_of_ble_eq_true rfl⟩) (z_preV _ hK hP hD (ci := 3) (q0 := 0) rfl rfl) rfl rfl hl.1 rfl (lv_room (Nat.le_of_ble_eq_true rfl)) dX3_check_15 ⟨Nat.le_of_ble_eq_true rfl, Nat.le_of_ble_eq_true rfl⟩) hD hS hA (fun u H locs hu hP hD hS => ?_)
    obtain ⟨d1, s1, k1, w1, rfl⟩ := hu
    have hU := dh_kp hU (show _ ≠ 11 by omega) k1
    have hX2 := dh_kp hX2 (show _ ≠ 11 by omega) k1
    have hZ2 := dh_kp hZ2 (show _ ≠ 11 by omega) k1
    have hX3 := dh_kp hX3 (show _ ≠ 11 by omega) k1
    have hZ3 := dh_kp hZ3 (show _ ≠ 11 by omega) k1
    have hR := dh_kp hR (show _ ≠ 11 by omega) k1
    refine lv_aload_n hx hb dX3_check_18 rfl (lv_at hl 0 rfl) ?_
    refine lv_iconst (v := nI 1) hx hb dX3_check_19 (by decide) ?_
    refine z_calli (va_runV (As := [.int (nI 1)]) (rest := []) ⟨hx, hb, hml, hown, hts⟩ (m_isZero l D cA cI tys om aSc aPt aDg aSu (nI 2) (nI 255) rs scf ptf d1 s1 1 (by omega) _ hZ2 _) (cwV 1 hts gX3_check_X3_isZero rfl rfl rfl (by decide +kernel) ⟨Nat.le_of_ble_eq_true rfl, Nat.le_of_ble_eq_true rfl⟩) (z_preV _ hK hP hD (ci := 3) (q0 := 0) rfl rfl) rfl rfl hl.1 rfl (lv_room (Nat.le_of_ble_eq_true rfl)) dX3_check_20 ⟨Nat.le_of_ble_eq_true rfl, Nat.le_of_ble_eq_true rfl⟩) hD hS hA (fun r20 u H locs hu hP hD hS => ?_)
    obtain ⟨hz, rfl⟩ := hu
    refine lv_if_eq (tgt := 34) hx hb dX3_check_23 (by decide) (fun c23 => ?_) (fun c23 => ?_)
    · have nz : ¬ (lad sc pt 255).2.1 = 0 := by
        rcases hz with ⟨h, -⟩ | ⟨-, h⟩
        · rw [h] at c23; exact absurd c23 (by decide)
        · exact h
      refine lv_aload_n hx hb dX3_check_34 rfl (lv_at hl 0 rfl) ?_
      refine lv_bipush (v := nI 11) hx hb dX3_check_35 (by decide) ?_
      refine lv_iconst (v := nI 0) hx hb dX3_check_37 (by decide) ?_
      refine z_calli (va_runV (As := [.int (nI 11), .int (nI 0)]) (rest := []) ⟨hx, hb, hml, hown, hts⟩ (m_isSame l D cA cI tys om aSc aPt aDg aSu (nI 2) (nI 255) rs scf ptf d1 s1 11 0 (by omega) (by omega) _ _ w1 hX2 _) (cwV 2 hts gX3_check_X3_isSame rfl rfl rfl (by decide +kernel) ⟨Nat.le_of_ble_eq_true rfl, Nat.le_of_ble_eq_true rfl⟩) (z_preV _ hK hP hD (ci := 3) (q0 := 0) rfl rfl) rfl rfl hl.1 rfl (lv_room (Nat.le_of_ble_eq_true rfl)) dX3_check_38 ⟨Nat.le_of_ble_eq_true rfl, Nat.le_of_ble_eq_true rfl⟩) hD hS hA (fun r38 u H locs hu hP hD hS => ?_)
      obtain ⟨hz2, rfl⟩ := hu
      rcases hz2 with ⟨rfl, hq⟩ | ⟨rfl, hq⟩
      · have hv : aCheck 2 sc pt = 1 := by unfold aCheck; rw [if_pos rfl, if_neg nz, if_pos hq]
        refine lv_istore_n (lv' := [(1, .int 1), (0, .ref om)]) hx hb dX3_check_41 rfl hl (by decide) rfl (fun ls hl => ?_)
        refine lv_iload_n hx hb dX3_check_42 rfl (lv_at hl 0 rfl) ?_
        refine lv_if_eq (tgt := 50) hx hb dX3_check_43 (by decide) (fun c43 => absurd c43 (by decide)) (fun c43 => ?_)
        refine lv_iconst (v := nI 1) hx hb dX3_check_46 (by decide) ?_
        refine lv_goto (tgt := 51) hx hb dX3_check_47 (by decide) ?_
        exact z_iret hx hb hr hlocks dX3_check_51 hK hP hD hS (⟨by rw [hv]; rfl, ⟨aSc, aPt, aDg, aSu, scf, ptf, d1, s1, rfl, ⟨v_sc, v_pt, fun _ => ⟨hU, hX2, hZ2, hX3, hZ3⟩, fun _ => hR, by omega, by omega, fun _ => rfl⟩⟩⟩)
      · have hv : aCheck 2 sc pt = 0 := by unfold aCheck; rw [if_pos rfl, if_neg nz, if_neg hq]
        refine lv_istore_n (lv' := [(1, .int 0), (0, .ref om)]) hx hb dX3_check_41 rfl hl (by decide) rfl (fun ls hl => ?_)
        refine lv_iload_n hx hb dX3_check_42 rfl (lv_at hl 0 rfl) ?_
        refine lv_if_eq (tgt := 50) hx hb dX3_check_43 (by decide) (fun c43 => ?_) (fun c43 => absurd rfl c43)
        refine lv_iconst (v := nI 0) hx hb dX3_check_50 (by decide) ?_
        exact z_iret hx hb hr hlocks dX3_check_51 hK hP hD hS (⟨by rw [hv]; rfl, ⟨aSc, aPt, aDg, aSu, scf, ptf, d1, s1, rfl, ⟨v_sc, v_pt, fun _ => ⟨hU, hX2, hZ2, hX3, hZ3⟩, fun _ => hR, by omega, by omega, fun _ => rfl⟩⟩⟩)
    · have nz : (lad sc pt 255).2.1 = 0 := by
        rcases hz with ⟨-, h⟩ | ⟨h, -⟩
        · exact h
        · exact absurd h c23
      refine lv_aload_n hx hb dX3_check_26 rfl (lv_at hl 0 rfl) ?_
      refine lv_iconst (v := nI 5) hx hb dX3_check_27 (by decide) ?_
      refine z_calli (va_runV (As := [.int (nI 5)]) (rest := []) ⟨hx, hb, hml, hown, hts⟩ (m_isZero l D cA cI tys om aSc aPt aDg aSu (nI 2) (nI 255) rs scf ptf d1 s1 5 (by omega) _ hR _) (cwV 1 hts gX3_check_X3_isZero rfl rfl rfl (by decide +kernel) ⟨Nat.le_of_ble_eq_true rfl, Nat.le_of_ble_eq_true rfl⟩) (z_preV _ hK hP hD (ci := 3) (q0 := 0) rfl rfl) rfl rfl hl.1 rfl (lv_room (Nat.le_of_ble_eq_true rfl)) dX3_check_28 ⟨Nat.le_of_ble_eq_true rfl, Nat.le_of_ble_eq_true rfl⟩) hD hS hA (fun r28 u H locs hu hP hD hS => ?_)
      obtain ⟨hz2, rfl⟩ := hu
      refine lv_goto (tgt := 41) hx hb dX3_check_31 (by decide) ?_
      rcases hz2 with ⟨rfl, hq⟩ | ⟨rfl, hq⟩
      · have hv : aCheck 2 sc pt = 1 := by unfold aCheck; rw [if_pos rfl, if_pos nz, if_pos (by omega)]
        refine lv_istore_n (lv' := [(1, .int 1), (0, .ref om)]) hx hb dX3_check_41 rfl hl (by decide) rfl (fun ls hl => ?_)
        refine lv_iload_n hx hb dX3_check_42 rfl (lv_at hl 0 rfl) ?_
        refine lv_if_eq (tgt := 50) hx hb dX3_check_43 (by decide) (fun c43 => absurd c43 (by decide)) (fun c43 => ?_)
        refine lv_iconst (v := nI 1) hx hb dX3_check_46 (by decide) ?_
        refine lv_goto (tgt := 51) hx hb dX3_check_47 (by decide) ?_
        exact z_iret hx hb hr hlocks dX3_check_51 hK hP hD hS (⟨by rw [hv]; rfl, ⟨aSc, aPt, aDg, aSu, scf, ptf, d1, s1, rfl, ⟨v_sc, v_pt, fun _ => ⟨hU, hX2, hZ2, hX3, hZ3⟩, fun _ => hR, by omega, by omega, fun _ => rfl⟩⟩⟩)
      · have hv : aCheck 2 sc pt = 0 := by unfold aCheck; rw [if_pos rfl, if_pos nz, if_neg (by omega)]
        refine lv_istore_n (lv' := [(1, .int 0), (0, .ref om)]) hx hb dX3_check_41 rfl hl (by decide) rfl (fun ls hl => ?_)
        refine lv_iload_n hx hb dX3_check_42 rfl (lv_at hl 0 rfl) ?_
        refine lv_if_eq (tgt := 50) hx hb dX3_check_43 (by decide) (fun c43 => ?_) (fun c43 => absurd rfl c43)
        refine lv_iconst (v := nI 0) hx hb dX3_check_50 (by decide) ?_
        exact z_iret hx hb hr hlocks dX3_check_51 hK hP hD hS (⟨by rw [hv]; rfl, ⟨aSc, aPt, aDg, aSu, scf, ptf, d1, s1, rfl, ⟨v_sc, v_pt, fun _ => ⟨hU, hX2, hZ2, hX3, hZ3⟩, fun _ => hR, by omega, by omega, fun _ => rfl⟩⟩⟩)
  · have hc : ¬ ph = 2 := fun e => c5 (by rw [e])
    refine lv_iconst (v := nI 1) hx hb dX3_check_8 (by decide) ?_
    exact z_iret hx hb hr hlocks dX3_check_9 hK hP hD hS (⟨by unfold aCheck; rw [if_neg hc]; rfl, ⟨aSc, aPt, aDg, aSu, scf, ptf, dg, su, rfl, hMV⟩⟩)
