set_option maxRecDepth 100000 in
set_option maxHeartbeats 4000000 in
theorem C_out (l : Launch) (D : va_G) (cA : ClassId) (tys : List (ClassId × FieldType)) (od ph st : Nat) (rs : Int32) (sc pt : Nat → Int64) (ws : va_W) (hCI : CI cA od ph st rs sc pt ws) (k : Int32) : zCl l D ((cA, .long) :: tys) yX2_out wsX2_out ({ frames := 1, cells := 0, slots := 0, locals := 20 }) [.ref od, .int k] (ws) (fun r u => r = aOut ph sc pt k ∧ CI cA od ph st rs sc pt u) := by
  obtain ⟨ol, hf, L, n, t, q, wd, wh, aU, aA, aB, aC, aD, aE, aAA, aBB, aDA, aCB, aSP, aLE, aRI, x2, z2, x3, z3, aSC, aPT, aRS, aAN, rfl, hLW, hDW, hDV⟩ := hCI
  obtain ⟨v_sc, v_pt, v_lad, v_rs, v_ph, v_st, v_2⟩ := id hDV
  refine z_met (fun A => va_Ql (fun r u => r = aOut ph sc pt k ∧ CI cA od ph st rs sc pt u) (zB D ((cA, .long) :: tys) A) A) (by decide) rfl (Nat.le_of_ble_eq_true rfl) ?_
  intro p e s m below meth c hx hb hr hml hts hown hlocks hname A hA hP hK hD hS ls hl
  have hown : s.vm.findClass RX2 = some m.cls := hown
  have hl : lv_has ls 2 [(0, .ref od), (1, .int k)] := hl
  obtain ⟨⟨m_wd, m_wh, m_aU, m_aA, m_aB, m_aC, m_aD, m_aE, m_aAA, m_aBB, m_aDA, m_aCB, m_aSP, m_aLE, m_aRI, m_x2, m_z2, m_x3, m_z3⟩, ⟨t_wd, t_wh, t_aU, t_aA, t_aB, t_aC, t_aD, t_aE, t_aAA, t_aBB, t_aDA, t_aCB, t_aSP, t_aLE, t_aRI, t_x2, t_z2, t_x3, t_z3⟩, ⟨d_0, d_1, d_2, d_3, d_4, d_5⟩⟩ := id hLW
  obtain ⟨⟨m_aSC, m_aPT, m_aRS, m_aAN⟩, ⟨t_aSC, t_aPT, t_aRS, t_aAN⟩⟩ := id hDW
  refine lv_aload_n hx hb dX2_out_0 rfl (lv_at hl 0 rfl) ?_
  refine va_get (D := D) (ci := 2) (v := .int (nI ph)) (C := RX2) (T := TX2) (N := 8) hx hb hts (by decide +kernel) hown hK hP 0 rfl rfl 5 (by decide) (hts (.fieldLink RX2 29 "LadderDesk" "phaseNow" "I") (by decide +kernel)) (fun _ h9 => h9) rfl dX2_out_1 ?_
  refine lv_iconst (v := nI 2) hx hb dX2_out_4 (by decide) ?_
  refine lv_icmp_ne (tgt := 15) hx hb dX2_out_5 (by decide) (fun c5 => ?_) (fun c5 => ?_)
  · have hc : ¬ ph = 2 := fun e => c5 (by rw [e])
    refine lv_lconst (v := 0) hx hb dX2_out_15 (by decide) ?_
    exact z_lret hx hb hr hlocks dX2_out_16 hK hP hD hS (⟨by unfold aOut; rw [if_neg (fun h => hc h.1)], ⟨ol, hf, L, n, t, q, wd, wh, aU, aA, aB, aC, aD, aE, aAA, aBB, aDA, aCB, aSP, aLE, aRI, x2, z2, x3, z3, aSC, aPT, aRS, aAN, rfl, hLW, hDW, hDV⟩⟩)
  · have hc : ph = 2 := (nI_eq (by omega) (by omega)).mp c5
    subst hc
    refine lv_iload_n hx hb dX2_out_8 rfl (lv_at hl 1 rfl) ?_
    refine z_calli (va_runS (As := [.int k]) (rest := []) ⟨hx, hb, hml, hown, hts⟩ (c_isLong l D ((cA, .long) :: tys) _ k _) (va_cwS 1 hts gX2_out_X2_isLong rfl rfl rfl (by decide +kernel) ⟨Nat.le_of_ble_eq_true rfl, Nat.le_of_ble_eq_true rfl⟩) (z_preS _ hK hP hD) rfl rfl hl.1 rfl (lv_room (Nat.le_of_ble_eq_true rfl)) dX2_out_9 ⟨Nat.le_of_ble_eq_true rfl, Nat.le_of_ble_eq_true rfl⟩) hD hS hA (fun r9 u H locs hu hP hD hS => ?_)
    obtain ⟨rfl, hz⟩ := hu
    refine lv_if_ne (tgt := 17) hx hb dX2_out_12 (by decide) (fun c12 => ?_) (fun c12 => ?_)
    · obtain ⟨-, jk, hjk, rfl⟩ : r9 = 1 ∧ ∃ j : Nat, j < 4 ∧ k = nI j := by
        rcases hz with h | ⟨h, -⟩
        · exact h
        · exact absurd h c12
      refine lv_aload_n hx hb dX2_out_17 rfl (lv_at hl 0 rfl) ?_
      refine va_get (D := D) (ci := 2) (v := .ref aRS) (C := RX2) (T := TX2) (N := 8) hx hb hts (by decide +kernel) hown hK hP 0 rfl rfl 2 (by decide) (hts (.fieldLink RX2 16 "LadderDesk" "result" "[J") (by decide +kernel)) (fun _ h9 => h9) rfl dX2_out_18 ?_
      refine lv_iload_n hx hb dX2_out_21 rfl (lv_at hl 1 rfl) ?_
      refine z_ld hx hb hK hP m_aRS jk rfl (by omega) (by omega) dX2_out_22 ?_
      refine lv_topl (fun v22 e22 => ?_)
      exact z_lret hx hb hr hlocks dX2_out_23 hK hP hD hS (⟨by rw [e22]; unfold aOut; rw [if_pos ⟨rfl, isL_t hjk⟩, nI_clamp (by omega), ow_wv (q aRS) hjk, v_rs rfl], ⟨ol, hf, L, n, t, q, wd, wh, aU, aA, aB, aC, aD, aE, aAA, aBB, aDA, aCB, aSP, aLE, aRI, x2, z2, x3, z3, aSC, aPT, aRS, aAN, rfl, hLW, hDW, hDV⟩⟩)
    · have hck : ¬ ∃ j : Nat, j < 4 ∧ k = nI j := by
        rcases hz with ⟨h, -⟩ | ⟨-, h⟩
        · rw [h] at c12; exact absurd c12 (by decide)
        · exact h
      refine lv_lconst (v := 0) hx hb dX2_out_15 (by decide) ?_
      exact z_lret hx hb hr hlocks dX2_out_16 hK hP hD hS (⟨by unfold aOut; rw [if_neg (fun h => by rw [isL_f hck] at h; exact absurd h.2 (by decide))], ⟨ol, hf, L, n, t, q, wd, wh, aU, aA, aB, aC, aD, aE, aAA, aBB, aDA, aCB, aSP, aLE, aRI, x2, z2, x3, z3, aSC, aPT, aRS, aAN, rfl, hLW, hDW, hDV⟩⟩)
set_option maxRecDepth 100000 in
set_option maxHeartbeats 4000000 in
theorem C_part (l : Launch) (D : va_G) (cA : ClassId) (tys : List (ClassId × FieldType)) (od ph st : Nat) (rs : Int32) (sc pt : Nat → Int64) (ws : va_W) (hCI : CI cA od ph st rs sc pt ws) (w k : Int32) : zCl l D ((cA, .long) :: tys) yX2_part wsX2_part ({ frames := 4, cells := 0, slots := 0, locals := 92 }) [.ref od, .int w, .int k] (ws) (fun r u => r = aPart ph st sc pt w k ∧ CI cA od ph st rs sc pt u) := by
  obtain ⟨ol, hf, L, n, t, q, wd, wh, aU, aA, aB, aC, aD, aE, aAA, aBB, aDA, aCB, aSP, aLE, aRI, x2, z2, x3, z3, aSC, aPT, aRS, aAN, rfl, hLW, hDW, hDV⟩ := hCI
  obtain ⟨v_sc, v_pt, v_lad, v_rs, v_ph, v_st, v_2⟩ := id hDV
  refine z_met (fun A => va_Ql (fun r u => r = aPart ph st sc pt w k ∧ CI cA od ph st rs sc pt u) (zB D ((cA, .long) :: tys) A) A) (by decide) rfl (Nat.le_of_ble_eq_true rfl) ?_
  intro p e s m below meth c hx hb hr hml hts hown hlocks hname A hA hP hK hD hS ls hl
  have hown : s.vm.findClass RX2 = some m.cls := hown
  have hl : lv_has ls 3 [(0, .ref od), (1, .int w), (2, .int k)] := hl
  obtain ⟨⟨m_wd, m_wh, m_aU, m_aA, m_aB, m_aC, m_aD, m_aE, m_aAA, m_aBB, m_aDA, m_aCB, m_aSP, m_aLE, m_aRI, m_x2, m_z2, m_x3, m_z3⟩, ⟨t_wd, t_wh, t_aU, t_aA, t_aB, t_aC, t_aD, t_aE, t_aAA, t_aBB, t_aDA, t_aCB, t_aSP, t_aLE, t_aRI, t_x2, t_z2, t_x3, t_z3⟩, ⟨d_0, d_1, d_2, d_3, d_4, d_5⟩⟩ := id hLW
  obtain ⟨⟨m_aSC, m_aPT, m_aRS, m_aAN⟩, ⟨t_aSC, t_aPT, t_aRS, t_aAN⟩⟩ := id hDW
  refine lv_aload_n hx hb dX2_part_0 rfl (lv_at hl 0 rfl) ?_
  refine va_get (D := D) (ci := 2) (v := .int (nI ph)) (C := RX2) (T := TX2) (N := 8) hx hb hts (by decide +kernel) hown hK hP 0 rfl rfl 5 (by decide) (hts (.fieldLink RX2 29 "LadderDesk" "phaseNow" "I") (by decide +kernel)) (fun _ h9 => h9) rfl dX2_part_1 ?_
  refine lv_if_eq (tgt := 21) hx hb dX2_part_4 (by decide) (fun c4 => ?_) (fun c4 => ?_)
  · have hc : ph = 0 := (nI_eq (by omega) (by omega)).mp c4
    refine lv_lconst (v := 0) hx hb dX2_part_21 (by decide) ?_
    exact z_lret hx hb hr hlocks dX2_part_22 hK hP hD hS (⟨by unfold aPart; rw [if_neg (fun h => h.1 hc)], ⟨ol, hf, L, n, t, q, wd, wh, aU, aA, aB, aC, aD, aE, aAA, aBB, aDA, aCB, aSP, aLE, aRI, x2, z2, x3, z3, aSC, aPT, aRS, aAN, rfl, hLW, hDW, hDV⟩⟩)
  · have hc : ph ≠ 0 := fun e => c4 (by rw [e]; rfl)
    refine lv_iload_n hx hb dX2_part_7 rfl (lv_at hl 1 rfl) ?_
    refine z_calli (va_runS (As := [.int w]) (rest := []) ⟨hx, hb, hml, hown, hts⟩ (c_isPart l D ((cA, .long) :: tys) _ w _) (va_cwS 1 hts gX2_part_X1_isPart rfl rfl rfl (by decide +kernel) ⟨Nat.le_of_ble_eq_true rfl, Nat.le_of_ble_eq_true rfl⟩) (z_preS _ hK hP hD) rfl rfl hl.1 rfl (lv_room (Nat.le_of_ble_eq_true rfl)) dX2_part_8 ⟨Nat.le_of_ble_eq_true rfl, Nat.le_of_ble_eq_true rfl⟩) hD hS hA (fun r8 u H locs hu hP hD hS => ?_)
    obtain ⟨rfl, hz⟩ := hu
    refine lv_if_eq (tgt := 21) hx hb dX2_part_11 (by decide) (fun c11 => ?_) (fun c11 => ?_)
    · have hcw : ¬ ∃ j : Nat, j < 5 ∧ w = nI j := by
        rcases hz with ⟨h, -⟩ | ⟨-, h⟩
        · rw [h] at c11; exact absurd c11 (by decide)
        · exact h
      refine lv_lconst (v := 0) hx hb dX2_part_21 (by decide) ?_
      exact z_lret hx hb hr hlocks dX2_part_22 hK hP hD hS (⟨by unfold aPart; rw [if_neg (fun h => by rw [isP_f hcw] at h; exact absurd h.2.1 (by decide))], ⟨ol, hf, L, n, t, q, wd, wh, aU, aA, aB, aC, aD, aE, aAA, aBB, aDA, aCB, aSP, aLE, aRI, x2, z2, x3, z3, aSC, aPT, aRS, aAN, rfl, hLW, hDW, hDV⟩⟩)
    · obtain ⟨-, jw, hjw, rfl⟩ : r8 = 1 ∧ ∃ j : Nat, j < 5 ∧ w = nI j := by
        rcases hz with h | ⟨h, -⟩
        · exact h
        · exact absurd h c11
      refine lv_iload_n hx hb dX2_part_14 rfl (lv_at hl 2 rfl) ?_
      refine z_calli (va_runS (As := [.int k]) (rest := []) ⟨hx, hb, hml, hown, hts⟩ (c_isLong l D ((cA, .long) :: tys) _ k _) (va_cwS 1 hts gX2_part_X2_isLong rfl rfl rfl (by decide +kernel) ⟨Nat.le_of_ble_eq_true rfl, Nat.le_of_ble_eq_true rfl⟩) (z_preS _ hK hP hD) rfl rfl hl.1 rfl (lv_room (Nat.le_of_ble_eq_true rfl)) dX2_part_15 ⟨Nat.le_of_ble_eq_true rfl, Nat.le_of_ble_eq_true rfl⟩) hD hS hA (fun r15 u H locs hu hP hD hS => ?_)
      obtain ⟨rfl, hz⟩ := hu
      refine lv_if_ne (tgt := 23) hx hb dX2_part_18 (by decide) (fun c18 => ?_) (fun c18 => ?_)
      · obtain ⟨-, jk, hjk, rfl⟩ : r15 = 1 ∧ ∃ j : Nat, j < 4 ∧ k = nI j := by
          rcases hz with h | ⟨h, -⟩
          · exact h
          · exact absurd h c18
        obtain ⟨hU, hX2, hZ2, hX3, hZ3⟩ := v_lad hc
        have hv : holds (q (rsel jw x2 z2 x3 z3 aU)) (lpart sc pt st jw) := by
          unfold rsel lpart
          split
          · exact hX2
          · split
            · exact hZ2
            · split
              · exact hX3
              · split
                · exact hZ3
                · exact hU
        refine lv_aload_n hx hb dX2_part_23 rfl (lv_at hl 0 rfl) ?_
        refine va_get (D := D) (ci := 2) (v := .ref ol) (C := RX2) (T := TX2) (N := 8) hx hb hts (by decide +kernel) hown hK hP 0 rfl rfl 4 (by decide) (hts (.fieldLink RX2 25 "LadderDesk" "ladder" "LLadderDesk$Ladder;") (by decide +kernel)) (fun _ h9 => h9) rfl dX2_part_24 ?_
        refine lv_aload_n hx hb dX2_part_27 rfl (lv_at hl 0 rfl) ?_
        refine va_get (D := D) (ci := 2) (v := .ref aAN) (C := RX2) (T := TX2) (N := 8) hx hb hts (by decide +kernel) hown hK hP 0 rfl rfl 3 (by decide) (hts (.fieldLink RX2 19 "LadderDesk" "answer" "[J") (by decide +kernel)) (fun _ h9 => h9) rfl dX2_part_28 ?_
        refine lv_iload_n hx hb dX2_part_31 rfl (lv_at hl 1 rfl) ?_
        refine z_callv (va_runV (As := [.ref aAN, .int (nI jw)]) (rest := []) ⟨hx, hb, hml, hown, hts⟩ (c_writePart l D cA tys (od, .inr (2, [.ref aSC, .ref aPT, .ref aRS, .ref aAN, .ref ol, .int (nI ph), .int (nI st), .int rs])) ol hf L n t q wd wh aU aA aB aC aD aE aAA aBB aDA aCB aSP aLE aRI x2 z2 x3 z3 hLW aAN m_aAN jw hjw _ hv _) (cwV 2 hts gX2_part_X1_writePart rfl rfl rfl (by decide +kernel) ⟨Nat.le_of_ble_eq_true rfl, Nat.le_of_ble_eq_true rfl⟩) (z_preV _ hK hP hD (ci := 1) (q0 := 1) rfl rfl) rfl rfl hl.1 rfl (lv_room (Nat.le_of_ble_eq_true rfl)) dX2_part_32 ⟨Nat.le_of_ble_eq_true rfl, Nat.le_of_ble_eq_true rfl⟩) hD hS hA (fun u H locs hu hP hD hS => ?_)
        obtain ⟨q1, k1, v1, rfl⟩ := hu
        have hin := lpart_in sc pt st jw
        rw [Int.emod_eq_of_lt hin.1 hin.2] at v1
        have k2 : ∀ b, 2 ≤ t b → t b ≠ 18 → q1 b = q b := fun b h1 h2 => k1 b (show b ≠ aAN from fun h => by have := congrArg t h; omega) (show b ≠ wh from fun h => by have := congrArg t h; omega)
        have nx : ∀ b, n b = 10 → b ≠ aAN := fun b h e => by rw [e, m_aAN.2] at h; omega
        have hDV1 : DV ph st sc pt q1 aU x2 z2 x3 z3 aSC aPT aRS := DV_kp hDV (k1 aSC (show aSC ≠ aAN from fun h => by have := congrArg t h; omega) (show aSC ≠ wh from fun h => by have := congrArg t h; omega)) (k1 aPT (show aPT ≠ aAN from fun h => by have := congrArg t h; omega) (show aPT ≠ wh from fun h => by have := congrArg t h; omega)) (k1 aU (show aU ≠ aAN from fun h => by have := congrArg t h; omega) (show aU ≠ wh from fun h => by have := congrArg t h; omega)) (k1 x2 (nx x2 m_x2.2) (show x2 ≠ wh from fun h => by have := congrArg t h; omega)) (k1 z2 (nx z2 m_z2.2) (show z2 ≠ wh from fun h => by have := congrArg t h; omega)) (k1 x3 (nx x3 m_x3.2) (show x3 ≠ wh from fun h => by have := congrArg t h; omega)) (k1 z3 (nx z3 m_z3.2) (show z3 ≠ wh from fun h => by have := congrArg t h; omega)) (k1 aRS (show aRS ≠ aAN from fun h => by have := congrArg t h; omega) (show aRS ≠ wh from fun h => by have := congrArg t h; omega))
        refine lv_aload_n hx hb dX2_part_35 rfl (lv_at hl 0 rfl) ?_
        refine va_get (D := D) (ci := 2) (v := .ref aAN) (C := RX2) (T := TX2) (N := 8) hx hb hts (by decide +kernel) hown hK hP 0 rfl rfl 3 (by decide) (hts (.fieldLink RX2 19 "LadderDesk" "answer" "[J") (by decide +kernel)) (fun _ h9 => h9) rfl dX2_part_36 ?_
        refine lv_iload_n hx hb dX2_part_39 rfl (lv_at hl 2 rfl) ?_
        refine z_ld hx hb hK hP m_aAN jk rfl (by omega) (by omega) dX2_part_40 ?_
        refine lv_topl (fun v40 e40 => ?_)
        exact z_lret hx hb hr hlocks dX2_part_41 hK hP hD hS (⟨by rw [e40, ow_wv (q1 aAN) hjk]; unfold aPart; rw [if_pos ⟨hc, isP_t hjw, isL_t hjk⟩, nI_clamp (by omega), nI_clamp (by omega)]; congr 1; omega, ⟨ol, hf, L, n, t, q1, wd, wh, aU, aA, aB, aC, aD, aE, aAA, aBB, aDA, aCB, aSP, aLE, aRI, x2, z2, x3, z3, aSC, aPT, aRS, aAN, rfl, hLW, hDW, hDV1⟩⟩)
      · have hck : ¬ ∃ j : Nat, j < 4 ∧ k = nI j := by
          rcases hz with ⟨h, -⟩ | ⟨-, h⟩
          · rw [h] at c18; exact absurd c18 (by decide)
          · exact h
        refine lv_lconst (v := 0) hx hb dX2_part_21 (by decide) ?_
        exact z_lret hx hb hr hlocks dX2_part_22 hK hP hD hS (⟨by unfold aPart; rw [if_neg (fun h => by rw [isL_f hck] at h; exact absurd h.2.2 (by decide))], ⟨ol, hf, L, n, t, q, wd, wh, aU, aA, aB, aC, aD, aE, aAA, aBB, aDA, aCB, aSP, aLE, aRI, x2, z2, x3, z3, aSC, aPT, aRS, aAN, rfl, hLW, hDW, hDV⟩⟩)
set_option maxRecDepth 100000 in
set_option maxHeartbeats 4000000 in
theorem C_told (l : Launch) (D : va_G) (cA : ClassId) (tys : List (ClassId × FieldType)) (od ph st : Nat) (rs : Int32) (sc pt : Nat → Int64) (ws : va_W) (hCI : CI cA od ph st rs sc pt ws) (w k : Int32) : zCl l D ((cA, .long) :: tys) yX2_told wsX2_told ({ frames := 2, cells := 0, slots := 0, locals := 42 }) [.ref od, .int w, .int k] (ws) (fun r u => r = aTold sc pt w k ∧ CI cA od ph st rs sc pt u) := by
  obtain ⟨ol, hf, L, n, t, q, wd, wh, aU, aA, aB, aC, aD, aE, aAA, aBB, aDA, aCB, aSP, aLE, aRI, x2, z2, x3, z3, aSC, aPT, aRS, aAN, rfl, hLW, hDW, hDV⟩ := hCI
  obtain ⟨v_sc, v_pt, v_lad, v_rs, v_ph, v_st, v_2⟩ := id hDV
  refine z_met (fun A => va_Ql (fun r u => r = aTold sc pt w k ∧ CI cA od ph st rs sc pt u) (zB D ((cA, .long) :: tys) A) A) (by decide) rfl (Nat.le_of_ble_eq_true rfl) ?_
  intro p e s m below meth c hx hb hr hml hts hown hlocks hname A hA hP hK hD hS ls hl
  have hown : s.vm.findClass RX2 = some m.cls := hown
  have hl : lv_has ls 3 [(0, .ref od), (1, .int w), (2, .int k)] := hl
  obtain ⟨⟨m_wd, m_wh, m_aU, m_aA, m_aB, m_aC, m_aD, m_aE, m_aAA, m_aBB, m_aDA, m_aCB, m_aSP, m_aLE, m_aRI, m_x2, m_z2, m_x3, m_z3⟩, ⟨t_wd, t_wh, t_aU, t_aA, t_aB, t_aC, t_aD, t_aE, t_aAA, t_aBB, t_aDA, t_aCB, t_aSP, t_aLE, t_aRI, t_x2, t_z2, t_x3, t_z3⟩, ⟨d_0, d_1, d_2, d_3, d_4, d_5⟩⟩ := id hLW
  obtain ⟨⟨m_aSC, m_aPT, m_aRS, m_aAN⟩, ⟨t_aSC, t_aPT, t_aRS, t_aAN⟩⟩ := id hDW
  refine lv_iload_n hx hb dX2_told_0 rfl (lv_at hl 2 rfl) ?_
  refine z_calli (va_runS (As := [.int k]) (rest := []) ⟨hx, hb, hml, hown, hts⟩ (c_isLong l D ((cA, .long) :: tys) _ k _) (va_cwS 1 hts gX2_told_X2_isLong rfl rfl rfl (by decide +kernel) ⟨Nat.le_of_ble_eq_true rfl, Nat.le_of_ble_eq_true rfl⟩) (z_preS _ hK hP hD) rfl rfl hl.1 rfl (lv_room (Nat.le_of_ble_eq_true rfl)) dX2_told_1 ⟨Nat.le_of_ble_eq_true rfl, Nat.le_of_ble_eq_true rfl⟩) hD hS hA (fun r1 u H locs hu hP hD hS => ?_)
  obtain ⟨rfl, hz⟩ := hu
  refine lv_if_ne (tgt := 9) hx hb dX2_told_4 (by decide) (fun c4 => ?_) (fun c4 => ?_)
  · obtain ⟨-, jk, hjk, rfl⟩ : r1 = 1 ∧ ∃ j : Nat, j < 4 ∧ k = nI j := by
      rcases hz with h | ⟨h, -⟩
      · exact h
      · exact absurd h c4
    have hT : aTold sc pt w (nI jk) = if w = 0 then sc jk else if w = 1 then pt jk else if w = 2 then cl sc jk else if w = 3 then ow (uo pt) jk else 0 := by unfold aTold; rw [if_pos (isL_t hjk), nI_clamp (by omega)]
    refine lv_iload_n hx hb dX2_told_9 rfl (lv_at hl 1 rfl) ?_
    by_cases h0 : w = 0
    · subst h0
      refine lv_tableIn (off := 30) (tgt := 40) hx hb dX2_told_10 (by decide) (by decide) (by decide) (by decide) ?_
      refine lv_aload_n hx hb dX2_told_40 rfl (lv_at hl 0 rfl) ?_
      refine va_get (D := D) (ci := 2) (v := .ref aSC) (C := RX2) (T := TX2) (N := 8) hx hb hts (by decide +kernel) hown hK hP 0 rfl rfl 0 (by decide) (hts (.fieldLink RX2 9 "LadderDesk" "scalarTold" "[J") (by decide +kernel)) (fun _ h9 => h9) rfl dX2_told_41 ?_
      refine lv_iload_n hx hb dX2_told_44 rfl (lv_at hl 2 rfl) ?_
      refine z_ld hx hb hK hP m_aSC jk rfl (by omega) (by omega) dX2_told_45 ?_
      refine lv_topl (fun v45 e45 => ?_)
      exact z_lret hx hb hr hlocks dX2_told_46 hK hP hD hS (⟨by rw [e45, hT]; exact v_sc jk hjk, ⟨ol, hf, L, n, t, q, wd, wh, aU, aA, aB, aC, aD, aE, aAA, aBB, aDA, aCB, aSP, aLE, aRI, x2, z2, x3, z3, aSC, aPT, aRS, aAN, rfl, hLW, hDW, hDV⟩⟩)
    by_cases h1 : w = 1
    · subst h1
      refine lv_tableIn (off := 37) (tgt := 47) hx hb dX2_told_10 (by decide) (by decide) (by decide) (by decide) ?_
      refine lv_aload_n hx hb dX2_told_47 rfl (lv_at hl 0 rfl) ?_
      refine va_get (D := D) (ci := 2) (v := .ref aPT) (C := RX2) (T := TX2) (N := 8) hx hb hts (by decide +kernel) hown hK hP 0 rfl rfl 1 (by decide) (hts (.fieldLink RX2 13 "LadderDesk" "pointTold" "[J") (by decide +kernel)) (fun _ h9 => h9) rfl dX2_told_48 ?_
      refine lv_iload_n hx hb dX2_told_51 rfl (lv_at hl 2 rfl) ?_
      refine z_ld hx hb hK hP m_aPT jk rfl (by omega) (by omega) dX2_told_52 ?_
      refine lv_topl (fun v52 e52 => ?_)
      exact z_lret hx hb hr hlocks dX2_told_53 hK hP hD hS (⟨by rw [e52, hT]; exact v_pt jk hjk, ⟨ol, hf, L, n, t, q, wd, wh, aU, aA, aB, aC, aD, aE, aAA, aBB, aDA, aCB, aSP, aLE, aRI, x2, z2, x3, z3, aSC, aPT, aRS, aAN, rfl, hLW, hDW, hDV⟩⟩)
    by_cases h2 : w = 2
    · subst h2
      refine lv_tableIn (off := 44) (tgt := 54) hx hb dX2_told_10 (by decide) (by decide) (by decide) (by decide) ?_
      refine lv_aload_n hx hb dX2_told_54 rfl (lv_at hl 0 rfl) ?_
      refine lv_iload_n hx hb dX2_told_55 rfl (lv_at hl 2 rfl) ?_
      refine z_calll (va_runV (As := [.int (nI jk)]) (rest := []) ⟨hx, hb, hml, hown, hts⟩ (c_clampedLong l D cA tys (ol, .inr (1, [.ref hf, .ref aU, .ref x2, .ref z2, .ref x3, .ref z3, .ref aA, .ref aB, .ref aC, .ref aD, .ref aE, .ref aAA, .ref aBB, .ref aDA, .ref aCB, .ref aSP, .ref aLE, .ref aRI])) (hf, .inr (0, [.ref wd, .ref wh])) od aSC aPT aRS aAN ol ph st rs L n q m_aSC jk hjk _) (cwV 1 hts gX2_told_X2_clampedLong rfl rfl rfl (by decide +kernel) ⟨Nat.le_of_ble_eq_true rfl, Nat.le_of_ble_eq_true rfl⟩) (z_preV _ hK hP hD (ci := 2) (q0 := 0) rfl rfl) rfl rfl hl.1 rfl (lv_room (Nat.le_of_ble_eq_true rfl)) dX2_told_56 ⟨Nat.le_of_ble_eq_true rfl, Nat.le_of_ble_eq_true rfl⟩) hD hS hA (fun r56 u H locs hu hP hD hS => ?_)
      obtain ⟨hr56, rfl⟩ := hu
      exact z_lret hx hb hr hlocks dX2_told_59 hK hP hD hS (⟨by rw [hr56, hT]; exact cl_congr v_sc hjk, ⟨ol, hf, L, n, t, q, wd, wh, aU, aA, aB, aC, aD, aE, aAA, aBB, aDA, aCB, aSP, aLE, aRI, x2, z2, x3, z3, aSC, aPT, aRS, aAN, rfl, hLW, hDW, hDV⟩⟩)
    by_cases h3 : w = 3
    · subst h3
      refine lv_tableIn (off := 50) (tgt := 60) hx hb dX2_told_10 (by decide) (by decide) (by decide) (by decide) ?_
      refine lv_aload_n hx hb dX2_told_60 rfl (lv_at hl 0 rfl) ?_
      refine lv_aload_n hx hb dX2_told_61 rfl (lv_at hl 0 rfl) ?_
      refine va_get (D := D) (ci := 2) (v := .ref aAN) (C := RX2) (T := TX2) (N := 8) hx hb hts (by decide +kernel) hown hK hP 0 rfl rfl 3 (by decide) (hts (.fieldLink RX2 19 "LadderDesk" "answer" "[J") (by decide +kernel)) (fun _ h9 => h9) rfl dX2_told_62 ?_
      refine z_callv (va_runV (As := [.ref aAN]) (rest := []) ⟨hx, hb, hml, hown, hts⟩ (c_writeU l D cA tys (ol, .inr (1, [.ref hf, .ref aU, .ref x2, .ref z2, .ref x3, .ref z3, .ref aA, .ref aB, .ref aC, .ref aD, .ref aE, .ref aAA, .ref aBB, .ref aDA, .ref aCB, .ref aSP, .ref aLE, .ref aRI])) (hf, .inr (0, [.ref wd, .ref wh])) od aSC aPT aRS aAN ol ph st rs L n q m_aPT aAN m_aAN _) (cwV 1 hts gX2_told_X2_writeU rfl rfl rfl (by decide +kernel) ⟨Nat.le_of_ble_eq_true rfl, Nat.le_of_ble_eq_true rfl⟩) (z_preV _ hK hP hD (ci := 2) (q0 := 0) rfl rfl) rfl rfl hl.1 rfl (lv_room (Nat.le_of_ble_eq_true rfl)) dX2_told_65 ⟨Nat.le_of_ble_eq_true rfl, Nat.le_of_ble_eq_true rfl⟩) hD hS hA (fun u H locs hu hP hD hS => ?_)
      obtain ⟨g1, hg1, rfl⟩ := hu
      rw [uo_congr v_pt] at hg1
      obtain ⟨q1, hq1⟩ : ∃ z, z = va_up q aAN g1 := ⟨_, rfl⟩
      rw [← hq1] at hP hD
      have k1 : ∀ b, b ≠ aAN → q1 b = q b := fun b h => by rw [hq1, va_up_ne _ _ h]
      have e1 : q1 aAN = g1 := by rw [hq1, va_up_self]
      have nx : ∀ b, n b = 10 → b ≠ aAN := fun b h e => by rw [e, m_aAN.2] at h; omega
      have hDV1 : DV ph st sc pt q1 aU x2 z2 x3 z3 aSC aPT aRS := DV_kp hDV (k1 aSC (show aSC ≠ aAN from fun h => by have := congrArg t h; omega)) (k1 aPT (show aPT ≠ aAN from fun h => by have := congrArg t h; omega)) (k1 aU (nx aU m_aU.2)) (k1 x2 (nx x2 m_x2.2)) (k1 z2 (nx z2 m_z2.2)) (k1 x3 (nx x3 m_x3.2)) (k1 z3 (nx z3 m_z3.2)) (k1 aRS (show aRS ≠ aAN from fun h => by have := congrArg t h; omega))
      refine lv_aload_n hx hb dX2_told_68 rfl (lv_at hl 0 rfl) ?_
      refine va_get (D := D) (ci := 2) (v := .ref aAN) (C := RX2) (T := TX2) (N := 8) hx hb hts (by decide +kernel) hown hK hP 0 rfl rfl 3 (by decide) (hts (.fieldLink RX2 19 "LadderDesk" "answer" "[J") (by decide +kernel)) (fun _ h9 => h9) rfl dX2_told_69 ?_
      refine lv_iload_n hx hb dX2_told_72 rfl (lv_at hl 2 rfl) ?_
      refine z_ld hx hb hK hP m_aAN jk rfl (by omega) (by omega) dX2_told_73 ?_
      refine lv_topl (fun v73 e73 => ?_)
      exact z_lret hx hb hr hlocks dX2_told_74 hK hP hD hS (⟨by rw [e73, hT, e1, ow_wv g1 hjk, hg1]; rfl, ⟨ol, hf, L, n, t, q1, wd, wh, aU, aA, aB, aC, aD, aE, aAA, aBB, aDA, aCB, aSP, aLE, aRI, x2, z2, x3, z3, aSC, aPT, aRS, aAN, rfl, hLW, hDW, hDV1⟩⟩)
    have hw : w.toInt < 0 ∨ 3 < w.toInt := by
      have a0 := lv_neT h0 (a := 0) (by decide)
      have a1 := lv_neT h1 (a := 1) (by decide)
      have a2 := lv_neT h2 (a := 2) (by decide)
      have a3 := lv_neT h3 (a := 3) (by decide)
      omega
    refine lv_tableOut (tgt := 75) hx hb dX2_told_10 hw (by decide) ?_
    refine lv_lconst (v := 0) hx hb dX2_told_75 (by decide) ?_
    exact z_lret hx hb hr hlocks dX2_told_76 hK hP hD hS (⟨by rw [hT, if_neg h0, if_neg h1, if_neg h2, if_neg h3], ⟨ol, hf, L, n, t, q, wd, wh, aU, aA, aB, aC, aD, aE, aAA, aBB, aDA, aCB, aSP, aLE, aRI, x2, z2, x3, z3, aSC, aPT, aRS, aAN, rfl, hLW, hDW, hDV⟩⟩)
  · have hck : ¬ ∃ j : Nat, j < 4 ∧ k = nI j := by
      rcases hz with ⟨h, -⟩ | ⟨-, h⟩
      · rw [h] at c4; exact absurd c4 (by decide)
      · exact h
    refine lv_lconst (v := 0) hx hb dX2_told_7 (by decide) ?_
    exact z_lret hx hb hr hlocks dX2_told_8 hK hP hD hS (⟨by unfold aTold; rw [if_neg (fun h => by rw [isL_f hck] at h; exact absurd h (by decide))], ⟨ol, hf, L, n, t, q, wd, wh, aU, aA, aB, aC, aD, aE, aAA, aBB, aDA, aCB, aSP, aLE, aRI, x2, z2, x3, z3, aSC, aPT, aRS, aAN, rfl, hLW, hDW, hDV⟩⟩)
set_option maxRecDepth 100000 in
set_option maxHeartbeats 4000000 in
theorem C_count (l : Launch) (D : va_G) (cA : ClassId) (tys : List (ClassId × FieldType)) (od ph st : Nat) (rs : Int32) (sc pt : Nat → Int64) (ws : va_W) (hCI : CI cA od ph st rs sc pt ws) (w : Int32) : zCi l D ((cA, .long) :: tys) yX2_count wsX2_count ({ frames := 0, cells := 0, slots := 0, locals := 0 }) [.ref od, .int w] (ws) (fun r u => r = aCount ph st rs w ∧ CI cA od ph st rs sc pt u) := by
  obtain ⟨ol, hf, L, n, t, q, wd, wh, aU, aA, aB, aC, aD, aE, aAA, aBB, aDA, aCB, aSP, aLE, aRI, x2, z2, x3, z3, aSC, aPT, aRS, aAN, rfl, hLW, hDW, hDV⟩ := hCI
  obtain ⟨v_sc, v_pt, v_lad, v_rs, v_ph, v_st, v_2⟩ := id hDV
  refine z_met (fun A => va_Qi (fun r u => r = aCount ph st rs w ∧ CI cA od ph st rs sc pt u) (zB D ((cA, .long) :: tys) A) A) (by decide) rfl (Nat.le_of_ble_eq_true rfl) ?_
  intro p e s m below meth c hx hb hr hml hts hown hlocks hname A hA hP hK hD hS ls hl
  have hown : s.vm.findClass RX2 = some m.cls := hown
  have hl : lv_has ls 2 [(0, .ref od), (1, .int w)] := hl
  obtain ⟨⟨m_wd, m_wh, m_aU, m_aA, m_aB, m_aC, m_aD, m_aE, m_aAA, m_aBB, m_aDA, m_aCB, m_aSP, m_aLE, m_aRI, m_x2, m_z2, m_x3, m_z3⟩, ⟨t_wd, t_wh, t_aU, t_aA, t_aB, t_aC, t_aD, t_aE, t_aAA, t_aBB, t_aDA, t_aCB, t_aSP, t_aLE, t_aRI, t_x2, t_z2, t_x3, t_z3⟩, ⟨d_0, d_1, d_2, d_3, d_4, d_5⟩⟩ := id hLW
  obtain ⟨⟨m_aSC, m_aPT, m_aRS, m_aAN⟩, ⟨t_aSC, t_aPT, t_aRS, t_aAN⟩⟩ := id hDW
  refine lv_iload_n hx hb dX2_count_0 rfl (lv_at hl 1 rfl) ?_
  by_cases h0 : w = 0
  · subst h0
    refine lv_lookup (off := 27) (tgt := 28) hx hb dX2_count_1 (by decide) (by decide) (by decide) ?_
    refine lv_aload_n hx hb dX2_count_28 rfl (lv_at hl 0 rfl) ?_
    refine va_get (D := D) (ci := 2) (v := .int (nI ph)) (C := RX2) (T := TX2) (N := 8) hx hb hts (by decide +kernel) hown hK hP 0 rfl rfl 5 (by decide) (hts (.fieldLink RX2 29 "LadderDesk" "phaseNow" "I") (by decide +kernel)) (fun _ h9 => h9) rfl dX2_count_29 ?_
    refine lv_if_ne (tgt := 39) hx hb dX2_count_32 (by decide) (fun c32 => ?_) (fun c32 => ?_)
    · have hc : ¬ ph = 0 := fun e => c32 (by rw [e]; rfl)
      refine lv_aload_n hx hb dX2_count_39 rfl (lv_at hl 0 rfl) ?_
      refine va_get (D := D) (ci := 2) (v := .int (nI st)) (C := RX2) (T := TX2) (N := 8) hx hb hts (by decide +kernel) hown hK hP 0 rfl rfl 6 (by decide) (hts (.fieldLink RX2 33 "LadderDesk" "stepsMade" "I") (by decide +kernel)) (fun _ h9 => h9) rfl dX2_count_40 ?_
      exact z_iret hx hb hr hlocks dX2_count_43 hK hP hD hS (⟨by unfold aCount; rw [if_pos rfl, if_neg hc], ⟨ol, hf, L, n, t, q, wd, wh, aU, aA, aB, aC, aD, aE, aAA, aBB, aDA, aCB, aSP, aLE, aRI, x2, z2, x3, z3, aSC, aPT, aRS, aAN, rfl, hLW, hDW, hDV⟩⟩)
    · have hc : ph = 0 := (nI_eq (by omega) (by omega)).mp c32
      refine lv_iconst (v := nI 0) hx hb dX2_count_35 (by decide) ?_
      refine lv_goto (tgt := 43) hx hb dX2_count_36 (by decide) ?_
      exact z_iret hx hb hr hlocks dX2_count_43 hK hP hD hS (⟨by unfold aCount; rw [if_pos rfl, if_pos hc]; rfl, ⟨ol, hf, L, n, t, q, wd, wh, aU, aA, aB, aC, aD, aE, aAA, aBB, aDA, aCB, aSP, aLE, aRI, x2, z2, x3, z3, aSC, aPT, aRS, aAN, rfl, hLW, hDW, hDV⟩⟩)
  by_cases h1 : w = 1
  · subst h1
    refine lv_lookup (off := 43) (tgt := 44) hx hb dX2_count_1 (by decide) (by decide) (by decide) ?_
    refine lv_aload_n hx hb dX2_count_44 rfl (lv_at hl 0 rfl) ?_
    refine va_get (D := D) (ci := 2) (v := .int rs) (C := RX2) (T := TX2) (N := 8) hx hb hts (by decide +kernel) hown hK hP 0 rfl rfl 7 (by decide) (hts (.fieldLink RX2 36 "LadderDesk" "resultsHad" "I") (by decide +kernel)) (fun _ h9 => h9) rfl dX2_count_45 ?_
    exact z_iret hx hb hr hlocks dX2_count_48 hK hP hD hS (⟨rfl, ⟨ol, hf, L, n, t, q, wd, wh, aU, aA, aB, aC, aD, aE, aAA, aBB, aDA, aCB, aSP, aLE, aRI, x2, z2, x3, z3, aSC, aPT, aRS, aAN, rfl, hLW, hDW, hDV⟩⟩)
  refine lv_lookup (off := 48) (tgt := 49) hx hb dX2_count_1 (by decide) (by show Op.lookupswitch.offset [(0, 27), (1, 43)] 48 w.toInt = 48; rw [lv_osw h0 (by decide), lv_osw h1 (by decide)]; rfl) (by decide) ?_
  refine lv_iconst (v := (-1)) hx hb dX2_count_49 (by decide) ?_
  exact z_iret hx hb hr hlocks dX2_count_50 hK hP hD hS (⟨by unfold aCount; rw [if_neg h0, if_neg h1], ⟨ol, hf, L, n, t, q, wd, wh, aU, aA, aB, aC, aD, aE, aAA, aBB, aDA, aCB, aSP, aLE, aRI, x2, z2, x3, z3, aSC, aPT, aRS, aAN, rfl, hLW, hDW, hDV⟩⟩)
set_option maxRecDepth 100000 in
set_option maxHeartbeats 4000000 in
theorem C_check (l : Launch) (D : va_G) (cA : ClassId) (tys : List (ClassId × FieldType)) (od ph st : Nat) (rs : Int32) (sc pt : Nat → Int64) (ws : va_W) (hCI : CI cA od ph st rs sc pt ws)  : zCi l D ((cA, .long) :: tys) yX2_check wsX2_check ({ frames := 4, cells := 0, slots := 0, locals := 95 }) [.ref od] (ws) (fun r u => r = aCheck ph sc pt ∧ CI cA od ph st rs sc pt u) := by
  obtain ⟨ol, hf, L, n, t, q, wd, wh, aU, aA, aB, aC, aD, aE, aAA, aBB, aDA, aCB, aSP, aLE, aRI, x2, z2, x3, z3, aSC, aPT, aRS, aAN, rfl, hLW, hDW, hDV⟩ := hCI
  obtain ⟨v_sc, v_pt, v_lad, v_rs, v_ph, v_st, v_2⟩ := id hDV
  refine z_met (fun A => va_Qi (fun r u => r = aCheck ph sc pt ∧ CI cA od ph st rs sc pt u) (zB D ((cA, .long) :: tys) A) A) (by decide) rfl (Nat.le_of_ble_eq_true rfl) ?_
  intro p e s m below meth c hx hb hr hml hts hown hlocks hname A hA hP hK hD hS ls hl
  have hown : s.vm.findClass RX2 = some m.cls := hown
  have hl : lv_has ls 1 [(0, .ref od)] := hl
  obtain ⟨⟨m_wd, m_wh, m_aU, m_aA, m_aB, m_aC, m_aD, m_aE, m_aAA, m_aBB, m_aDA, m_aCB, m_aSP, m_aLE, m_aRI, m_x2, m_z2, m_x3, m_z3⟩, ⟨t_wd, t_wh, t_aU, t_aA, t_aB, t_aC, t_aD, t_aE, t_aAA, t_aBB, t_aDA, t_aCB, t_aSP, t_aLE, t_aRI, t_x2, t_z2, t_x3, t_z3⟩, ⟨d_0, d_1, d_2, d_3, d_4, d_5⟩⟩ := id hLW
  obtain ⟨⟨m_aSC, m_aPT, m_aRS, m_aAN⟩, ⟨t_aSC, t_aPT, t_aRS, t_aAN⟩⟩ := id hDW
  refine lv_aload_n hx hb dX2_check_0 rfl (lv_at hl 0 rfl) ?_
  refine va_get (D := D) (ci := 2) (v := .int (nI ph)) (C := RX2) (T := TX2) (N := 8) hx hb hts (by decide +kernel) hown hK hP 0 rfl rfl 5 (by decide) (hts (.fieldLink RX2 29 "LadderDesk" "phaseNow" "I") (by decide +kernel)) (fun _ h9 => h9) rfl dX2_check_1 ?_
  refine lv_iconst (v := nI 2) hx hb dX2_check_4 (by decide) ?_
  refine lv_icmp_eq (tgt := 10) hx hb dX2_check_5 (by decide) (fun c5 => ?_) (fun c5 => ?_)
  · have hc : ph = 2 := (nI_eq (by omega) (by omega)).mp c5
    subst hc
    have h255 := v_2 rfl
    subst h255
    obtain ⟨hU, hX2, hZ2, hX3, hZ3⟩ := v_lad (by decide)
    obtain ⟨ix2, iz2, -, -⟩ := lad_in sc pt 255
    refine lv_aload_n hx hb dX2_check_10 rfl (lv_at hl 0 rfl) ?_
    refine va_get (D := D) (ci := 2) (v := .ref ol) (C := RX2) (T := TX2) (N := 8) hx hb hts (by decide +kernel) hown hK hP 0 rfl rfl 4 (by decide) (hts (.fieldLink RX2 25 "LadderDesk" "ladder" "LLadderDesk$Ladder;") (by decide +kernel)) (fun _ h9 => h9) rfl dX2_check_11 ?_
    refine lv_aload_n hx hb dX2_check_14 rfl (lv_at hl 0 rfl) ?_
    refine va_get (D := D) (ci := 2) (v := .ref aRS) (C := RX2) (T := TX2) (N := 8) hx hb hts (by decide +kernel) hown hK hP 0 rfl rfl 2 (by decide) (hts (.fieldLink RX2 16 "LadderDesk" "result" "[J") (by decide +kernel)) (fun _ h9 => h9) rfl dX2_check_15 ?_
    refine z_calli (va_runV (As := [.ref aRS]) (rest := []) ⟨hx, hb, hml, hown, hts⟩ (c_agreesWith l D cA tys (od, .inr (2, [.ref aSC, .ref aPT, .ref aRS, .ref aAN, .ref ol, .int (nI 2), .int (nI 255), .int rs])) ol hf L n t q wd wh aU aA aB aC aD aE aAA aBB aDA aCB aSP aLE aRI x2 z2 x3 z3 hLW aRS m_aRS (by omega) (by rw [v_rs rfl]; exact res_lt sc pt) _ _ hX2 hZ2 ix2 iz2 _) (cwV 1 hts gX2_check_X1_agreesWith rfl rfl rfl (by decide +kernel) ⟨Nat.le_of_ble_eq_true rfl, Nat.le_of_ble_eq_true rfl⟩) (z_preV _ hK hP hD (ci := 1) (q0 := 1) rfl rfl) rfl rfl hl.1 rfl (lv_room (Nat.le_of_ble_eq_true rfl)) dX2_check_18 ⟨Nat.le_of_ble_eq_true rfl, Nat.le_of_ble_eq_true rfl⟩) hD hS hA (fun r18 u H locs hu hP hD hS => ?_)
    obtain ⟨⟨q1, k1, rfl⟩, hr18⟩ := hu
    rw [v_rs rfl] at hr18
    have hA18 : aCheck 2 sc pt = r18 := by rw [hr18]; unfold aCheck; rw [if_pos rfl]
    have h01 : r18 = 1 ∨ r18 = 0 := by
      rw [hr18]
      repeat' split
      all_goals first | exact Or.inl rfl | exact Or.inr rfl
    have hDV1 : DV 2 255 sc pt q1 aU x2 z2 x3 z3 aSC aPT aRS := DV_kp hDV (k1 aSC (by omega)) (k1 aPT (by omega)) (k1 aU (by omega)) (k1 x2 (by omega)) (k1 z2 (by omega)) (k1 x3 (by omega)) (k1 z3 (by omega)) (k1 aRS (by omega))
    refine lv_if_eq (tgt := 28) hx hb dX2_check_21 (by decide) (fun c21 => ?_) (fun c21 => ?_)
    · have hz : r18 = 0 := c21
      refine lv_iconst (v := nI 0) hx hb dX2_check_28 (by decide) ?_
      exact z_iret hx hb hr hlocks dX2_check_29 hK hP hD hS (⟨by rw [hA18, hz]; rfl, ⟨ol, hf, L, n, t, q1, wd, wh, aU, aA, aB, aC, aD, aE, aAA, aBB, aDA, aCB, aSP, aLE, aRI, x2, z2, x3, z3, aSC, aPT, aRS, aAN, rfl, hLW, hDW, hDV1⟩⟩)
    · have hz : r18 = 1 := h01.elim id (fun h => absurd h c21)
      refine lv_iconst (v := nI 1) hx hb dX2_check_24 (by decide) ?_
      refine lv_goto (tgt := 29) hx hb dX2_check_25 (by decide) ?_
      exact z_iret hx hb hr hlocks dX2_check_29 hK hP hD hS (⟨by rw [hA18, hz]; rfl, ⟨ol, hf, L, n, t, q1, wd, wh, aU, aA, aB, aC, aD, aE, aAA, aBB, aDA, aCB, aSP, aLE, aRI, x2, z2, x3, z3, aSC, aPT, aRS, aAN, rfl, hLW, hDW, hDV1⟩⟩)
  · have hc : ¬ ph = 2 := fun e => c5 (by rw [e])
    refine lv_iconst (v := nI 1) hx hb dX2_check_8 (by decide) ?_
    exact z_iret hx hb hr hlocks dX2_check_9 hK hP hD hS (⟨by unfold aCheck; rw [if_neg hc]; rfl, ⟨ol, hf, L, n, t, q, wd, wh, aU, aA, aB, aC, aD, aE, aAA, aBB, aDA, aCB, aSP, aLE, aRI, x2, z2, x3, z3, aSC, aPT, aRS, aAN, rfl, hLW, hDW, hDV⟩⟩)
