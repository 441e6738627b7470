set_option maxRecDepth 100000 in
set_option maxHeartbeats 4000000 in
theorem c_agreesWith (l : Launch) (D : va_G) (cA : ClassId) (tys : List (ClassId × FieldType)) (d0 : Nat × va_E) (ol hf : Nat) (L : List Nat) (n t : Nat → Nat) (q : Nat → Nat → Int64) (wd wh aU aA aB aC aD aE aAA aBB aDA aCB aSP aLE aRI x2 z2 x3 z3 : Nat) (hLW : LW L n t wd wh aU aA aB aC aD aE aAA aBB aDA aCB aSP aLE aRI x2 z2 x3 z3) (w : Nat) (hw : w ∈ L ∧ n w = 4) (hwt : 15 ≤ t w) (hwq : wv (q w) < nP) (vx2 vz2 : Int) (hx2 : holds (q x2) vx2) (hz2 : holds (q z2) vz2) (ix2 : 0 ≤ vx2 ∧ vx2 < pP) (iz2 : 0 ≤ vz2 ∧ vz2 < pP) : zCi l D ((cA, .long) :: tys) yX1_agreesWith wsX1_agreesWith ({ frames := 3, cells := 0, slots := 0, locals := 74 }) [.ref ol, .ref w] ([d0, (ol, .inr (1, [.ref hf, .ref aU, .ref x2, .ref z2, .ref x3, .ref z3, .ref aA, .ref aB, .ref aC, .ref aD, .ref aE, .ref aAA, .ref aBB, .ref aDA, .ref aCB, .ref aSP, .ref aLE, .ref aRI])), (hf, .inr (0, [.ref wd, .ref wh]))] ++ PL cA L n q) (fun r u => (∃ q' : Nat → Nat → Int64, (∀ b, t b = 2 ∨ 15 ≤ t b → q' b = q b) ∧ u = [d0, (ol, .inr (1, [.ref hf, .ref aU, .ref x2, .ref z2, .ref x3, .ref z3, .ref aA, .ref aB, .ref aC, .ref aD, .ref aE, .ref aAA, .ref aBB, .ref aDA, .ref aCB, .ref aSP, .ref aLE, .ref aRI])), (hf, .inr (0, [.ref wd, .ref wh]))] ++ PL cA L n q') ∧ r = if vz2 = 0 then (if wv (q w) = 0 then 1 else 0) else (if ((wv (q w) : Int) * vz2) % pP = vx2 then 1 else 0)) := by
  refine z_met (fun A => va_Qi (fun r u => (∃ q' : Nat → Nat → Int64, (∀ b, t b = 2 ∨ 15 ≤ t b → q' b = q b) ∧ u = [d0, (ol, .inr (1, [.ref hf, .ref aU, .ref x2, .ref z2, .ref x3, .ref z3, .ref aA, .ref aB, .ref aC, .ref aD, .ref aE, .ref aAA, .ref aBB, .ref aDA, .ref aCB, .ref aSP, .ref aLE, .ref aRI])), (hf, .inr (0, [.ref wd, .ref wh]))] ++ PL cA L n q') ∧ r = if vz2 = 0 then (if wv (q w) = 0 then 1 else 0) else (if ((wv (q w) : Int) * vz2) % pP = vx2 then 1 else 0)) (zB D ((cA, .long) :: tys) A) A) (by decide) rfl (Nat.le_of_ble_eq_true rfl) ?_
  intro p e s m below meth c hx hb hr hml hts hown hlocks hname A hA hP hK hD hS ls hl
  have hown : s.vm.findClass RX1 = some m.cls := hown
  have hl : lv_has ls 2 [(0, .ref ol), (1, .ref w)] := hl
  obtain ⟨⟨m_wd, m_wh, m_aU, m_aA, m_aB, m_aC, m_aD, m_aE, m_aAA, m_aBB, m_aDA, m_aCB, m_aSP, m_aLE, m_aRI, m_x2, m_z2, m_x3, m_z3⟩, ⟨t_wd, t_wh, t_aU, t_aA, t_aB, t_aC, t_aD, t_aE, t_aAA, t_aBB, t_aDA, t_aCB, t_aSP, t_aLE, t_aRI, t_x2, t_z2, t_x3, t_z3⟩, ⟨d_0, d_1, d_2, d_3, d_4, d_5⟩⟩ := id hLW
  have w_sp : w ≠ aSP := fun e => by rw [e, m_aSP.2] at hw; omega
  have w_le : w ≠ aLE := (show w ≠ aLE from fun h => by have := congrArg t h; omega)
  have w_wh : w ≠ wh := fun e => by rw [e, m_wh.2] at hw; omega
  have w_wd : w ≠ wd := fun e => by rw [e, m_wd.2] at hw; omega
  refine lv_aload_n hx hb dX1_agreesWith_0 rfl (lv_at hl 0 rfl) ?_
  refine va_get (D := D) (ci := 1) (v := .ref hf) (C := RX1) (T := TX1) (N := 18) hx hb hts (by decide +kernel) hown hK hP 1 rfl rfl 0 (by decide) (hts (.fieldLink RX1 12 "LadderDesk$Ladder" "field" "LLadderDesk$Field;") (by decide +kernel)) (fun _ h9 => h9) rfl dX1_agreesWith_1 ?_
  refine lv_aload_n hx hb dX1_agreesWith_4 rfl (lv_at hl 0 rfl) ?_
  refine va_get (D := D) (ci := 1) (v := .ref aLE) (C := RX1) (T := TX1) (N := 18) hx hb hts (by decide +kernel) hown hK hP 1 rfl rfl 16 (by decide) (hts (.fieldLink RX1 68 "LadderDesk$Ladder" "left" "[J") (by decide +kernel)) (fun _ h9 => h9) rfl dX1_agreesWith_5 ?_
  refine lv_aload_n hx hb dX1_agreesWith_8 rfl (lv_at hl 0 rfl) ?_
  refine va_get (D := D) (ci := 1) (v := .ref z2) (C := RX1) (T := TX1) (N := 18) hx hb hts (by decide +kernel) hown hK hP 1 rfl rfl 3 (by decide) (hts (.fieldLink RX1 29 "LadderDesk$Ladder" "z2" "[J") (by decide +kernel)) (fun _ h9 => h9) rfl dX1_agreesWith_9 ?_
  refine z_callv (va_runV (As := [.ref aLE, .ref z2]) (rest := []) ⟨hx, hb, hml, hown, hts⟩ (c_write l D cA tys d0 (ol, .inr (1, [.ref hf, .ref aU, .ref x2, .ref z2, .ref x3, .ref z3, .ref aA, .ref aB, .ref aC, .ref aD, .ref aE, .ref aAA, .ref aBB, .ref aDA, .ref aCB, .ref aSP, .ref aLE, .ref aRI])) hf wd wh L n q aLE z2 m_wh m_aLE m_z2 hz2.1 _) (cwV 2 hts gX1_agreesWith_X0_write rfl rfl rfl (by decide +kernel) ⟨Nat.le_of_ble_eq_true rfl, Nat.le_of_ble_eq_true rfl⟩) (z_preV _ hK hP hD (ci := 0) (q0 := 2) rfl rfl) rfl rfl hl.1 rfl (lv_room (Nat.le_of_ble_eq_true rfl)) dX1_agreesWith_12 ⟨Nat.le_of_ble_eq_true rfl, Nat.le_of_ble_eq_true rfl⟩) hD hS hA (fun u H locs hu hP hD hS => ?_)
  obtain ⟨q1, k1, v1, rfl⟩ := hu
  rw [cg_emod hz2.2, Int.emod_eq_of_lt iz2.1 iz2.2] at v1
  have e1 : q1 w = q w := k1 w w_le w_wh
  refine lv_aload_n hx hb dX1_agreesWith_15 rfl (lv_at hl 0 rfl) ?_
  refine va_get (D := D) (ci := 1) (v := .ref aLE) (C := RX1) (T := TX1) (N := 18) hx hb hts (by decide +kernel) hown hK hP 1 rfl rfl 16 (by decide) (hts (.fieldLink RX1 68 "LadderDesk$Ladder" "left" "[J") (by decide +kernel)) (fun _ h9 => h9) rfl dX1_agreesWith_16 ?_
  refine z_calli (va_runS (As := [.ref aLE]) (rest := []) ⟨hx, hb, hml, hown, hts⟩ (c_isZero l D cA tys [d0, (ol, .inr (1, [.ref hf, .ref aU, .ref x2, .ref z2, .ref x3, .ref z3, .ref aA, .ref aB, .ref aC, .ref aD, .ref aE, .ref aAA, .ref aBB, .ref aDA, .ref aCB, .ref aSP, .ref aLE, .ref aRI])), (hf, .inr (0, [.ref wd, .ref wh]))] L n q1 aLE m_aLE _) (va_cwS 1 hts gX1_agreesWith_X1_isZero rfl rfl rfl (by decide +kernel) ⟨Nat.le_of_ble_eq_true rfl, Nat.le_of_ble_eq_true rfl⟩) (z_preS _ hK hP hD) rfl rfl hl.1 rfl (lv_room (Nat.le_of_ble_eq_true rfl)) dX1_agreesWith_19 ⟨Nat.le_of_ble_eq_true rfl, Nat.le_of_ble_eq_true rfl⟩) hD hS hA (fun r19 u H locs hu hP hD hS => ?_)
  obtain ⟨rfl, hz⟩ := hu
  refine lv_if_eq (tgt := 30) hx hb dX1_agreesWith_22 (by decide) (fun c22 => ?_) (fun c22 => ?_)
  · have nz : ¬ vz2 = 0 := by
      rcases hz with ⟨h1, -⟩ | ⟨-, h2⟩
      · rw [h1] at c22; exact absurd c22 (by decide)
      · omega
    refine lv_aload_n hx hb dX1_agreesWith_30 rfl (lv_at hl 0 rfl) ?_
    refine va_get (D := D) (ci := 1) (v := .ref aSP) (C := RX1) (T := TX1) (N := 18) hx hb hts (by decide +kernel) hown hK hP 1 rfl rfl 15 (by decide) (hts (.fieldLink RX1 65 "LadderDesk$Ladder" "spare" "[J") (by decide +kernel)) (fun _ h9 => h9) rfl dX1_agreesWith_31 ?_
    refine lv_aload_n hx hb dX1_agreesWith_34 rfl (lv_at hl 1 rfl) ?_
    refine z_callv (va_runS (As := [.ref aSP, .ref w]) (rest := []) ⟨hx, hb, hml, hown, hts⟩ (c_read l D cA tys [d0, (ol, .inr (1, [.ref hf, .ref aU, .ref x2, .ref z2, .ref x3, .ref z3, .ref aA, .ref aB, .ref aC, .ref aD, .ref aE, .ref aAA, .ref aBB, .ref aDA, .ref aCB, .ref aSP, .ref aLE, .ref aRI])), (hf, .inr (0, [.ref wd, .ref wh]))] L n q1 aSP w m_aSP hw (by rw [e1]; exact wv_lt255 (Nat.lt_of_lt_of_le hwq (by decide))) _) (va_cwS 2 hts gX1_agreesWith_X0_read rfl rfl rfl (by decide +kernel) ⟨Nat.le_of_ble_eq_true rfl, Nat.le_of_ble_eq_true rfl⟩) (z_preS _ hK hP hD) rfl rfl hl.1 rfl (lv_room (Nat.le_of_ble_eq_true rfl)) dX1_agreesWith_35 ⟨Nat.le_of_ble_eq_true rfl, Nat.le_of_ble_eq_true rfl⟩) hD hS hA (fun u H locs hu hP hD hS => ?_)
    obtain ⟨g2, s2, v2, rfl⟩ := hu
    rw [e1] at v2
    obtain ⟨q2, hq2⟩ : ∃ z, z = va_up q1 aSP g2 := ⟨_, rfl⟩
    rw [← hq2] at hP hD
    have k2 : ∀ b, b ≠ aSP → q2 b = q1 b := fun b h => by rw [hq2, va_up_ne _ _ h]
    have e2 : q2 aSP = g2 := by rw [hq2, va_up_self]
    have z2_1 : q2 z2 = q z2 := by rw [k2 z2 (show z2 ≠ aSP from fun h => by have := congrArg t h; omega), k1 z2 (show z2 ≠ aLE from fun h => by have := congrArg t h; omega) (show z2 ≠ wh from fun h => by have := congrArg t h; omega)]
    refine lv_aload_n hx hb dX1_agreesWith_38 rfl (lv_at hl 0 rfl) ?_
    refine va_get (D := D) (ci := 1) (v := .ref hf) (C := RX1) (T := TX1) (N := 18) hx hb hts (by decide +kernel) hown hK hP 1 rfl rfl 0 (by decide) (hts (.fieldLink RX1 12 "LadderDesk$Ladder" "field" "LLadderDesk$Field;") (by decide +kernel)) (fun _ h9 => h9) rfl dX1_agreesWith_39 ?_
    refine lv_aload_n hx hb dX1_agreesWith_42 rfl (lv_at hl 0 rfl) ?_
    refine va_get (D := D) (ci := 1) (v := .ref aSP) (C := RX1) (T := TX1) (N := 18) hx hb hts (by decide +kernel) hown hK hP 1 rfl rfl 15 (by decide) (hts (.fieldLink RX1 65 "LadderDesk$Ladder" "spare" "[J") (by decide +kernel)) (fun _ h9 => h9) rfl dX1_agreesWith_43 ?_
    refine lv_aload_n hx hb dX1_agreesWith_46 rfl (lv_at hl 0 rfl) ?_
    refine va_get (D := D) (ci := 1) (v := .ref aSP) (C := RX1) (T := TX1) (N := 18) hx hb hts (by decide +kernel) hown hK hP 1 rfl rfl 15 (by decide) (hts (.fieldLink RX1 65 "LadderDesk$Ladder" "spare" "[J") (by decide +kernel)) (fun _ h9 => h9) rfl dX1_agreesWith_47 ?_
    refine lv_aload_n hx hb dX1_agreesWith_50 rfl (lv_at hl 0 rfl) ?_
    refine va_get (D := D) (ci := 1) (v := .ref z2) (C := RX1) (T := TX1) (N := 18) hx hb hts (by decide +kernel) hown hK hP 1 rfl rfl 3 (by decide) (hts (.fieldLink RX1 29 "LadderDesk$Ladder" "z2" "[J") (by decide +kernel)) (fun _ h9 => h9) rfl dX1_agreesWith_51 ?_
    refine z_callv (va_runV (As := [.ref aSP, .ref aSP, .ref z2]) (rest := []) ⟨hx, hb, hml, hown, hts⟩ (c_multiply l D cA tys d0 (ol, .inr (1, [.ref hf, .ref aU, .ref x2, .ref z2, .ref x3, .ref z3, .ref aA, .ref aB, .ref aC, .ref aD, .ref aE, .ref aAA, .ref aBB, .ref aDA, .ref aCB, .ref aSP, .ref aLE, .ref aRI])) hf wd wh L n q2 aSP aSP z2 m_wd m_aSP m_aSP m_z2 (by rw [e2]; exact settled_loose s2) (by rw [z2_1]; exact settled_loose hz2.1) _) (cwV 3 hts gX1_agreesWith_X0_multiply rfl rfl rfl (by decide +kernel) ⟨Nat.le_of_ble_eq_true rfl, Nat.le_of_ble_eq_true rfl⟩) (z_preV _ hK hP hD (ci := 0) (q0 := 2) rfl rfl) rfl rfl hl.1 rfl (lv_room (Nat.le_of_ble_eq_true rfl)) dX1_agreesWith_54 ⟨Nat.le_of_ble_eq_true rfl, Nat.le_of_ble_eq_true rfl⟩) hD hS hA (fun u H locs hu hP hD hS => ?_)
    obtain ⟨q3, k3, s3, v3, rfl⟩ := hu
    rw [e2, z2_1, v2] at v3
    have v3 := cg_trans v3 (cg_mul (cg_refl _) hz2.2)
    refine lv_aload_n hx hb dX1_agreesWith_57 rfl (lv_at hl 0 rfl) ?_
    refine va_get (D := D) (ci := 1) (v := .ref hf) (C := RX1) (T := TX1) (N := 18) hx hb hts (by decide +kernel) hown hK hP 1 rfl rfl 0 (by decide) (hts (.fieldLink RX1 12 "LadderDesk$Ladder" "field" "LLadderDesk$Field;") (by decide +kernel)) (fun _ h9 => h9) rfl dX1_agreesWith_58 ?_
    refine lv_aload_n hx hb dX1_agreesWith_61 rfl (lv_at hl 0 rfl) ?_
    refine va_get (D := D) (ci := 1) (v := .ref aLE) (C := RX1) (T := TX1) (N := 18) hx hb hts (by decide +kernel) hown hK hP 1 rfl rfl 16 (by decide) (hts (.fieldLink RX1 68 "LadderDesk$Ladder" "left" "[J") (by decide +kernel)) (fun _ h9 => h9) rfl dX1_agreesWith_62 ?_
    refine lv_aload_n hx hb dX1_agreesWith_65 rfl (lv_at hl 0 rfl) ?_
    refine va_get (D := D) (ci := 1) (v := .ref aSP) (C := RX1) (T := TX1) (N := 18) hx hb hts (by decide +kernel) hown hK hP 1 rfl rfl 15 (by decide) (hts (.fieldLink RX1 65 "LadderDesk$Ladder" "spare" "[J") (by decide +kernel)) (fun _ h9 => h9) rfl dX1_agreesWith_66 ?_
    refine z_callv (va_runV (As := [.ref aLE, .ref aSP]) (rest := []) ⟨hx, hb, hml, hown, hts⟩ (c_write l D cA tys d0 (ol, .inr (1, [.ref hf, .ref aU, .ref x2, .ref z2, .ref x3, .ref z3, .ref aA, .ref aB, .ref aC, .ref aD, .ref aE, .ref aAA, .ref aBB, .ref aDA, .ref aCB, .ref aSP, .ref aLE, .ref aRI])) hf wd wh L n q3 aLE aSP m_wh m_aLE m_aSP s3 _) (cwV 2 hts gX1_agreesWith_X0_write rfl rfl rfl (by decide +kernel) ⟨Nat.le_of_ble_eq_true rfl, Nat.le_of_ble_eq_true rfl⟩) (z_preV _ hK hP hD (ci := 0) (q0 := 2) rfl rfl) rfl rfl hl.1 rfl (lv_room (Nat.le_of_ble_eq_true rfl)) dX1_agreesWith_69 ⟨Nat.le_of_ble_eq_true rfl, Nat.le_of_ble_eq_true rfl⟩) hD hS hA (fun u H locs hu hP hD hS => ?_)
    obtain ⟨q4, k4, v4, rfl⟩ := hu
    rw [cg_emod v3] at v4
    have x2_4 : q4 x2 = q x2 := by rw [k4 x2 (show x2 ≠ aLE from fun h => by have := congrArg t h; omega) (show x2 ≠ wh from fun h => by have := congrArg t h; omega), k3 x2 (show x2 ≠ aSP from fun h => by have := congrArg t h; omega) (show x2 ≠ wd from fun h => by have := congrArg t h; omega), k2 x2 (show x2 ≠ aSP from fun h => by have := congrArg t h; omega), k1 x2 (show x2 ≠ aLE from fun h => by have := congrArg t h; omega) (show x2 ≠ wh from fun h => by have := congrArg t h; omega)]
    refine lv_aload_n hx hb dX1_agreesWith_72 rfl (lv_at hl 0 rfl) ?_
    refine va_get (D := D) (ci := 1) (v := .ref hf) (C := RX1) (T := TX1) (N := 18) hx hb hts (by decide +kernel) hown hK hP 1 rfl rfl 0 (by decide) (hts (.fieldLink RX1 12 "LadderDesk$Ladder" "field" "LLadderDesk$Field;") (by decide +kernel)) (fun _ h9 => h9) rfl dX1_agreesWith_73 ?_
    refine lv_aload_n hx hb dX1_agreesWith_76 rfl (lv_at hl 0 rfl) ?_
    refine va_get (D := D) (ci := 1) (v := .ref aRI) (C := RX1) (T := TX1) (N := 18) hx hb hts (by decide +kernel) hown hK hP 1 rfl rfl 17 (by decide) (hts (.fieldLink RX1 71 "LadderDesk$Ladder" "right" "[J") (by decide +kernel)) (fun _ h9 => h9) rfl dX1_agreesWith_77 ?_
    refine lv_aload_n hx hb dX1_agreesWith_80 rfl (lv_at hl 0 rfl) ?_
    refine va_get (D := D) (ci := 1) (v := .ref x2) (C := RX1) (T := TX1) (N := 18) hx hb hts (by decide +kernel) hown hK hP 1 rfl rfl 2 (by decide) (hts (.fieldLink RX1 26 "LadderDesk$Ladder" "x2" "[J") (by decide +kernel)) (fun _ h9 => h9) rfl dX1_agreesWith_81 ?_
    refine z_callv (va_runV (As := [.ref aRI, .ref x2]) (rest := []) ⟨hx, hb, hml, hown, hts⟩ (c_write l D cA tys d0 (ol, .inr (1, [.ref hf, .ref aU, .ref x2, .ref z2, .ref x3, .ref z3, .ref aA, .ref aB, .ref aC, .ref aD, .ref aE, .ref aAA, .ref aBB, .ref aDA, .ref aCB, .ref aSP, .ref aLE, .ref aRI])) hf wd wh L n q4 aRI x2 m_wh m_aRI m_x2 (by rw [x2_4]; exact hx2.1) _) (cwV 2 hts gX1_agreesWith_X0_write rfl rfl rfl (by decide +kernel) ⟨Nat.le_of_ble_eq_true rfl, Nat.le_of_ble_eq_true rfl⟩) (z_preV _ hK hP hD (ci := 0) (q0 := 2) rfl rfl) rfl rfl hl.1 rfl (lv_room (Nat.le_of_ble_eq_true rfl)) dX1_agreesWith_84 ⟨Nat.le_of_ble_eq_true rfl, Nat.le_of_ble_eq_true rfl⟩) hD hS hA (fun u H locs hu hP hD hS => ?_)
    obtain ⟨q5, k5, v5, rfl⟩ := hu
    rw [x2_4, cg_emod hx2.2, Int.emod_eq_of_lt ix2.1 ix2.2] at v5
    have l5 : q5 aLE = q4 aLE := k5 aLE (show aLE ≠ aRI from fun h => by have := congrArg t h; omega) (show aLE ≠ wh from fun h => by have := congrArg t h; omega)
    have kk : ∀ b, t b = 2 ∨ 15 ≤ t b → q5 b = q b := fun b hb => by rw [k5 b (show b ≠ aRI from fun h => by have := congrArg t h; omega) (show b ≠ wh from fun h => by have := congrArg t h; omega), k4 b (show b ≠ aLE from fun h => by have := congrArg t h; omega) (show b ≠ wh from fun h => by have := congrArg t h; omega), k3 b (show b ≠ aSP from fun h => by have := congrArg t h; omega) (show b ≠ wd from fun h => by have := congrArg t h; omega), k2 b (show b ≠ aSP from fun h => by have := congrArg t h; omega), k1 b (show b ≠ aLE from fun h => by have := congrArg t h; omega) (show b ≠ wh from fun h => by have := congrArg t h; omega)]
    refine lv_aload_n hx hb dX1_agreesWith_87 rfl (lv_at hl 0 rfl) ?_
    refine va_get (D := D) (ci := 1) (v := .ref aLE) (C := RX1) (T := TX1) (N := 18) hx hb hts (by decide +kernel) hown hK hP 1 rfl rfl 16 (by decide) (hts (.fieldLink RX1 68 "LadderDesk$Ladder" "left" "[J") (by decide +kernel)) (fun _ h9 => h9) rfl dX1_agreesWith_88 ?_
    refine lv_aload_n hx hb dX1_agreesWith_91 rfl (lv_at hl 0 rfl) ?_
    refine va_get (D := D) (ci := 1) (v := .ref aRI) (C := RX1) (T := TX1) (N := 18) hx hb hts (by decide +kernel) hown hK hP 1 rfl rfl 17 (by decide) (hts (.fieldLink RX1 71 "LadderDesk$Ladder" "right" "[J") (by decide +kernel)) (fun _ h9 => h9) rfl dX1_agreesWith_92 ?_
    refine z_calli (va_runS (As := [.ref aLE, .ref aRI]) (rest := []) ⟨hx, hb, hml, hown, hts⟩ (c_areEqual l D cA tys [d0, (ol, .inr (1, [.ref hf, .ref aU, .ref x2, .ref z2, .ref x3, .ref z3, .ref aA, .ref aB, .ref aC, .ref aD, .ref aE, .ref aAA, .ref aBB, .ref aDA, .ref aCB, .ref aSP, .ref aLE, .ref aRI])), (hf, .inr (0, [.ref wd, .ref wh]))] L n q5 aLE aRI m_aLE m_aRI _) (va_cwS 2 hts gX1_agreesWith_X1_areEqual rfl rfl rfl (by decide +kernel) ⟨Nat.le_of_ble_eq_true rfl, Nat.le_of_ble_eq_true rfl⟩) (z_preS _ hK hP hD) rfl rfl hl.1 rfl (lv_room (Nat.le_of_ble_eq_true rfl)) dX1_agreesWith_95 ⟨Nat.le_of_ble_eq_true rfl, Nat.le_of_ble_eq_true rfl⟩) hD hS hA (fun r95 u H locs hu hP hD hS => ?_)
    obtain ⟨rfl, hz⟩ := hu
    rw [l5] at hz
    rcases hz with ⟨rfl, h2⟩ | ⟨rfl, h2⟩
    · exact z_zret hx hb hr hlocks dX1_agreesWith_98 rfl hK hP hD hS ⟨⟨q5, kk, rfl⟩, by rw [if_neg nz, if_pos (by omega)]⟩
    · exact z_zret hx hb hr hlocks dX1_agreesWith_98 rfl hK hP hD hS ⟨⟨q5, kk, rfl⟩, by rw [if_neg nz, if_neg (by omega)]⟩
  · have nz : vz2 = 0 := by
      rcases hz with ⟨-, h1⟩ | ⟨h2, -⟩
      · omega
      · exact absurd h2 c22
    have kk : ∀ b, t b = 2 ∨ 15 ≤ t b → q1 b = q b := fun b hb => by rw [k1 b (show b ≠ aLE from fun h => by have := congrArg t h; omega) (show b ≠ wh from fun h => by have := congrArg t h; omega)]
    refine lv_aload_n hx hb dX1_agreesWith_25 rfl (lv_at hl 1 rfl) ?_
    refine z_calli (va_runS (As := [.ref w]) (rest := []) ⟨hx, hb, hml, hown, hts⟩ (c_isZero l D cA tys [d0, (ol, .inr (1, [.ref hf, .ref aU, .ref x2, .ref z2, .ref x3, .ref z3, .ref aA, .ref aB, .ref aC, .ref aD, .ref aE, .ref aAA, .ref aBB, .ref aDA, .ref aCB, .ref aSP, .ref aLE, .ref aRI])), (hf, .inr (0, [.ref wd, .ref wh]))] L n q1 w hw _) (va_cwS 1 hts gX1_agreesWith_X1_isZero rfl rfl rfl (by decide +kernel) ⟨Nat.le_of_ble_eq_true rfl, Nat.le_of_ble_eq_true rfl⟩) (z_preS _ hK hP hD) rfl rfl hl.1 rfl (lv_room (Nat.le_of_ble_eq_true rfl)) dX1_agreesWith_26 ⟨Nat.le_of_ble_eq_true rfl, Nat.le_of_ble_eq_true rfl⟩) hD hS hA (fun r26 u H locs hu hP hD hS => ?_)
    obtain ⟨rfl, hz⟩ := hu
    rw [e1] at hz
    rcases hz with ⟨rfl, h2⟩ | ⟨rfl, h2⟩
    · exact z_zret hx hb hr hlocks dX1_agreesWith_29 rfl hK hP hD hS ⟨⟨q1, kk, rfl⟩, by rw [if_pos nz, if_pos h2]⟩
    · exact z_zret hx hb hr hlocks dX1_agreesWith_29 rfl hK hP hD hS ⟨⟨q1, kk, rfl⟩, by rw [if_pos nz, if_neg h2]⟩
set_option maxRecDepth 100000 in
set_option maxHeartbeats 4000000 in
theorem c_tell (l : Launch) (D : va_G) (cA : ClassId) (tys : List (ClassId × FieldType)) (l0 f0 : Nat × va_E) (od aSC aPT aRS aAN ol ph st : Nat) (rs : Int32) (L : List Nat) (n : Nat → Nat) (q : Nat → Nat → Int64) (a : Nat) (ha : a ∈ L ∧ n a = 4) (k : Int32) (v : Int64) (hph : ph ≤ 2) : zCi l D ((cA, .long) :: tys) yX2_tell wsX2_tell ({ frames := 1, cells := 0, slots := 0, locals := 20 }) [.ref od, .ref a, .int k, .long v] ([(od, .inr (2, [.ref aSC, .ref aPT, .ref aRS, .ref aAN, .ref ol, .int (nI ph), .int (nI st), .int rs])), l0, f0] ++ PL cA L n q) (fun r u => (ph = 0 ∧ ∃ j : Nat, j < 4 ∧ k = nI j ∧ r = 1 ∧ u = [(od, .inr (2, [.ref aSC, .ref aPT, .ref aRS, .ref aAN, .ref ol, .int (nI ph), .int (nI st), .int rs])), l0, f0] ++ PL cA L n (va_up q a (vp_updL (q a) j v))) ∨ (¬ (ph = 0 ∧ ∃ j : Nat, j < 4 ∧ k = nI j) ∧ r = 0 ∧ u = [(od, .inr (2, [.ref aSC, .ref aPT, .ref aRS, .ref aAN, .ref ol, .int (nI ph), .int (nI st), .int rs])), l0, f0] ++ PL cA L n q)) := by
  refine z_met (fun A => va_Qi (fun r u => (ph = 0 ∧ ∃ j : Nat, j < 4 ∧ k = nI j ∧ r = 1 ∧ u = [(od, .inr (2, [.ref aSC, .ref aPT, .ref aRS, .ref aAN, .ref ol, .int (nI ph), .int (nI st), .int rs])), l0, f0] ++ PL cA L n (va_up q a (vp_updL (q a) j v))) ∨ (¬ (ph = 0 ∧ ∃ j : Nat, j < 4 ∧ k = nI j) ∧ r = 0 ∧ u = [(od, .inr (2, [.ref aSC, .ref aPT, .ref aRS, .ref aAN, .ref ol, .int (nI ph), .int (nI st), .int rs])), l0, f0] ++ PL cA L n q)) (zB D ((cA, .long) :: tys) A) A) (by decide) rfl (Nat.le_of_ble_eq_true rfl) ?_
  intro p e s m below meth c hx hb hr hml hts hown hlocks hname A hA hP hK hD hS ls hl
  have hown : s.vm.findClass RX2 = some m.cls := hown
  have hl : lv_has ls 5 [(0, .ref od), (1, .ref a), (2, .int k), (3, .long v)] := hl
  refine lv_aload_n hx hb dX2_tell_0 rfl (lv_at hl 0 rfl) ?_
  refine va_get (D := D) (ci := 2) (v := .int (nI ph)) (C := RX2) (T := TX2) (N := 8) hx hb hts (by decide +kernel) hown hK hP 0 rfl rfl 5 (by decide) (hts (.fieldLink RX2 29 "LadderDesk" "phaseNow" "I") (by decide +kernel)) (fun _ h9 => h9) rfl dX2_tell_1 ?_
  refine lv_if_ne (tgt := 14) hx hb dX2_tell_4 (by decide) (fun c4 => ?_) (fun c4 => ?_)
  · have hc : ¬ ph = 0 := fun e => c4 (by rw [e]; rfl)
    refine lv_iconst (v := nI 0) hx hb dX2_tell_14 (by decide) ?_
    exact z_iret hx hb hr hlocks dX2_tell_15 hK hP hD hS (Or.inr ⟨fun h => hc h.1, rfl, rfl⟩)
  · have hc : ph = 0 := (nI_eq (by omega) (by omega)).mp c4
    refine lv_iload_n hx hb dX2_tell_7 rfl (lv_at hl 2 rfl) ?_
    refine z_calli (va_runS (As := [.int k]) (rest := []) ⟨hx, hb, hml, hown, hts⟩ (c_isLong l D ((cA, .long) :: tys) _ k _) (va_cwS 1 hts gX2_tell_X2_isLong rfl rfl rfl (by decide +kernel) ⟨Nat.le_of_ble_eq_true rfl, Nat.le_of_ble_eq_true rfl⟩) (z_preS _ hK hP hD) rfl rfl hl.1 rfl (lv_room (Nat.le_of_ble_eq_true rfl)) dX2_tell_8 ⟨Nat.le_of_ble_eq_true rfl, Nat.le_of_ble_eq_true rfl⟩) hD hS hA (fun r8 u H locs hu hP hD hS => ?_)
    obtain ⟨rfl, hz⟩ := hu
    refine lv_if_ne (tgt := 16) hx hb dX2_tell_11 (by decide) (fun c11 => ?_) (fun c11 => ?_)
    · obtain ⟨-, j, hj, rfl⟩ : r8 = 1 ∧ ∃ j : Nat, j < 4 ∧ k = nI j := by
        rcases hz with h | ⟨h, -⟩
        · exact h
        · exact absurd h c11
      refine lv_aload_n hx hb dX2_tell_16 rfl (lv_at hl 1 rfl) ?_
      refine lv_iload_n hx hb dX2_tell_17 rfl (lv_at hl 2 rfl) ?_
      refine lv_lload_n hx hb dX2_tell_18 rfl (lv_at hl 3 rfl) ?_
      refine z_st hx hb hK hP hD hS ha j rfl (by omega) (by omega) dX2_tell_19 (fun H locs hP hD hS => ?_)
      refine lv_iconst (v := nI 1) hx hb dX2_tell_20 (by decide) ?_
      exact z_iret hx hb hr hlocks dX2_tell_21 hK hP hD hS (Or.inl ⟨hc, j, hj, rfl, rfl, rfl⟩)
    · have hc2 : ¬ ∃ j : Nat, j < 4 ∧ k = nI j := by
        rcases hz with ⟨h, -⟩ | ⟨-, h⟩
        · rw [h] at c11; exact absurd c11 (by decide)
        · exact h
      refine lv_iconst (v := nI 0) hx hb dX2_tell_14 (by decide) ?_
      exact z_iret hx hb hr hlocks dX2_tell_15 hK hP hD hS (Or.inr ⟨fun h => hc2 h.2, rfl, rfl⟩)
set_option maxRecDepth 100000 in
set_option maxHeartbeats 4000000 in
theorem c_clampedLong (l : Launch) (D : va_G) (cA : ClassId) (tys : List (ClassId × FieldType)) (l0 f0 : Nat × va_E) (od aSC aPT aRS aAN ol ph st : Nat) (rs : Int32) (L : List Nat) (n : Nat → Nat) (q : Nat → Nat → Int64) (hSC : aSC ∈ L ∧ n aSC = 4) (j : Nat) (hj : j < 4) : zCl l D ((cA, .long) :: tys) yX2_clampedLong wsX2_clampedLong ({ frames := 0, cells := 0, slots := 0, locals := 0 }) [.ref od, .int (nI j)] ([(od, .inr (2, [.ref aSC, .ref aPT, .ref aRS, .ref aAN, .ref ol, .int (nI ph), .int (nI st), .int rs])), l0, f0] ++ PL cA L n q) (fun r u => r = cl (q aSC) j ∧ u = [(od, .inr (2, [.ref aSC, .ref aPT, .ref aRS, .ref aAN, .ref ol, .int (nI ph), .int (nI st), .int rs])), l0, f0] ++ PL cA L n q) := by
  refine z_met (fun A => va_Ql (fun r u => r = cl (q aSC) j ∧ u = [(od, .inr (2, [.ref aSC, .ref aPT, .ref aRS, .ref aAN, .ref ol, .int (nI ph), .int (nI st), .int rs])), l0, f0] ++ PL cA L n q) (zB D ((cA, .long) :: tys) A) A) (by decide) rfl (Nat.le_of_ble_eq_true rfl) ?_
  intro p e s m below meth c hx hb hr hml hts hown hlocks hname A hA hP hK hD hS ls hl
  have hown : s.vm.findClass RX2 = some m.cls := hown
  have hl : lv_has ls 4 [(0, .ref od), (1, .int (nI j))] := hl
  refine lv_aload_n hx hb dX2_clampedLong_0 rfl (lv_at hl 0 rfl) ?_
  refine va_get (D := D) (ci := 2) (v := .ref aSC) (C := RX2) (T := TX2) (N := 8) hx hb hts (by decide +kernel) hown hK hP 0 rfl rfl 0 (by decide) (hts (.fieldLink RX2 9 "LadderDesk" "scalarTold" "[J") (by decide +kernel)) (fun _ h9 => h9) rfl dX2_clampedLong_1 ?_
  refine lv_iload_n hx hb dX2_clampedLong_4 rfl (lv_at hl 1 rfl) ?_
  refine z_ld hx hb hK hP hSC j rfl (by omega) (by omega) dX2_clampedLong_5 ?_
  refine lv_topl (fun v5 e5 => ?_)
  refine lv_lstore_n (lv' := [(2, .long v5), (0, .ref od), (1, .int (nI j))]) hx hb dX2_clampedLong_6 rfl hl (by decide) rfl (fun ls hl => ?_)
  refine lv_iload_n hx hb dX2_clampedLong_7 rfl (lv_at hl 2 rfl) ?_
  refine lv_if_ne (tgt := 17) hx hb dX2_clampedLong_8 (by decide) (fun c8 => ?_) (fun c8 => ?_)
  · have hc : ¬ j = 0 := fun e => c8 (by rw [e]; rfl)
    refine lv_iload_n hx hb dX2_clampedLong_17 rfl (lv_at hl 2 rfl) ?_
    refine lv_iconst (v := nI 3) hx hb dX2_clampedLong_18 (by decide) ?_
    refine lv_icmp_ne (tgt := 32) hx hb dX2_clampedLong_19 (by decide) (fun c19 => ?_) (fun c19 => ?_)
    · have hc3 : ¬ j = 3 := fun e => c19 (by rw [e])
      refine lv_lload_n hx hb dX2_clampedLong_32 rfl (lv_at hl 0 rfl) ?_
      exact z_lret hx hb hr hlocks dX2_clampedLong_33 hK hP hD hS (⟨by rw [e5]; unfold cl; rw [if_neg hc, if_neg hc3], rfl⟩)
    · have hc3 : j = 3 := (nI_eq (by omega) (by omega)).mp c19
      refine lv_lload_n hx hb dX2_clampedLong_22 rfl (lv_at hl 0 rfl) ?_
      refine lv_ldc2 (v := 9223372036854775807) hx hb hown (hts (.constantLong RX2 93 (9223372036854775807)) (by decide +kernel)) dX2_clampedLong_23 ?_
      refine lv_land hx hb dX2_clampedLong_26 ?_
      refine lv_topl (fun v26 e26 => ?_)
      refine lv_ldc2 (v := 4611686018427387904) hx hb hown (hts (.constantLong RX2 95 (4611686018427387904)) (by decide +kernel)) dX2_clampedLong_27 ?_
      refine lv_lor hx hb dX2_clampedLong_30 ?_
      refine lv_topl (fun v30 e30 => ?_)
      exact z_lret hx hb hr hlocks dX2_clampedLong_31 hK hP hD hS (⟨by rw [e30, e26, e5, hc3]; rfl, rfl⟩)
  · have hc : j = 0 := (nI_eq (by omega) (by omega)).mp c8
    refine lv_lload_n hx hb dX2_clampedLong_11 rfl (lv_at hl 0 rfl) ?_
    refine lv_ldc2 (v := (-8)) hx hb hown (hts (.constantLong RX2 91 (-8)) (by decide +kernel)) dX2_clampedLong_12 ?_
    refine lv_land hx hb dX2_clampedLong_15 ?_
    refine lv_topl (fun v15 e15 => ?_)
    exact z_lret hx hb hr hlocks dX2_clampedLong_16 hK hP hD hS (⟨by rw [e15, e5, hc]; rfl, rfl⟩)
set_option maxRecDepth 100000 in
set_option maxHeartbeats 4000000 in
theorem c_clampedBit (l : Launch) (D : va_G) (cA : ClassId) (tys : List (ClassId × FieldType)) (l0 f0 : Nat × va_E) (od aSC aPT aRS aAN ol ph st : Nat) (rs : Int32) (L : List Nat) (n : Nat → Nat) (q : Nat → Nat → Int64) (hSC : aSC ∈ L ∧ n aSC = 4) (i : Nat) (hi : i ≤ 254) : zCi l D ((cA, .long) :: tys) yX2_clampedBit wsX2_clampedBit ({ frames := 1, cells := 0, slots := 0, locals := 23 }) [.ref od, .int (nI i)] ([(od, .inr (2, [.ref aSC, .ref aPT, .ref aRS, .ref aAN, .ref ol, .int (nI ph), .int (nI st), .int rs])), l0, f0] ++ PL cA L n q) (fun r u => (pb (q aSC) i = true ↔ ¬ r = 0) ∧ u = [(od, .inr (2, [.ref aSC, .ref aPT, .ref aRS, .ref aAN, .ref ol, .int (nI ph), .int (nI st), .int rs])), l0, f0] ++ PL cA L n q) := by
  refine z_met (fun A => va_Qi (fun r u => (pb (q aSC) i = true ↔ ¬ r = 0) ∧ u = [(od, .inr (2, [.ref aSC, .ref aPT, .ref aRS, .ref aAN, .ref ol, .int (nI ph), .int (nI st), .int rs])), l0, f0] ++ PL cA L n q) (zB D ((cA, .long) :: tys) A) A) (by decide) rfl (Nat.le_of_ble_eq_true rfl) ?_
  intro p e s m below meth c hx hb hr hml hts hown hlocks hname A hA hP hK hD hS ls hl
  have hown : s.vm.findClass RX2 = some m.cls := hown
  have hl : lv_has ls 2 [(0, .ref od), (1, .int (nI i))] := hl
  refine lv_aload_n hx hb dX2_clampedBit_0 rfl (lv_at hl 0 rfl) ?_
  refine lv_iload_n hx hb dX2_clampedBit_1 rfl (lv_at hl 1 rfl) ?_
  refine lv_bipush (v := nI 6) hx hb dX2_clampedBit_2 (by decide) ?_
  refine lv_ishr hx hb dX2_clampedBit_4 ?_
  refine zi (y := nI (i / 64)) (pk_shrN (by omega) _ 6 (by decide)) ?_
  refine z_calll (va_runV (As := [.int (nI (i / 64))]) (rest := []) ⟨hx, hb, hml, hown, hts⟩ (c_clampedLong l D cA tys l0 f0 od aSC aPT aRS aAN ol ph st rs L n q hSC (i / 64) (by omega) _) (cwV 1 hts gX2_clampedBit_X2_clampedLong rfl rfl rfl (by decide +kernel) ⟨Nat.le_of_ble_eq_true rfl, Nat.le_of_ble_eq_true rfl⟩) (z_preV _ hK hP hD (ci := 2) (q0 := 0) rfl rfl) rfl rfl hl.1 rfl (lv_room (Nat.le_of_ble_eq_true rfl)) dX2_clampedBit_5 ⟨Nat.le_of_ble_eq_true rfl, Nat.le_of_ble_eq_true rfl⟩) hD hS hA (fun r5 u H locs hu hP hD hS => ?_)
  obtain ⟨hr5, rfl⟩ := hu
  refine lv_iload_n hx hb dX2_clampedBit_8 rfl (lv_at hl 1 rfl) ?_
  refine lv_bipush (v := nI 63) hx hb dX2_clampedBit_9 (by decide) ?_
  refine lv_iand hx hb dX2_clampedBit_11 ?_
  refine zi (y := nI (i % 64)) (pk_andN (by omega) 6 (by decide)) ?_
  refine lv_lushr hx hb dX2_clampedBit_12 rfl ?_
  refine lv_topl (fun v12 e12 => ?_)
  refine lv_lconst (v := 1) hx hb dX2_clampedBit_13 (by decide) ?_
  refine lv_land hx hb dX2_clampedBit_14 ?_
  refine lv_topl (fun v14 e14 => ?_)
  refine lv_lconst (v := 0) hx hb dX2_clampedBit_15 (by decide) ?_
  refine W.lcmp hx hb dX2_clampedBit_16 ?_
  have hbit := bit_ne (k := i % 64) (by omega) e12 e14
  rw [hr5, cl_bit (q aSC) hi] at hbit
  refine lv_if_eq (tgt := 24) hx hb dX2_clampedBit_17 (by decide) (fun c17 => ?_) (fun c17 => ?_)
  · have hc := (lg_cmp_eq _ _).mp c17
    refine lv_iconst (v := nI 0) hx hb dX2_clampedBit_24 (by decide) ?_
    exact z_zret hx hb hr hlocks dX2_clampedBit_25 rfl hK hP hD hS (⟨⟨fun h => absurd hc (hbit.mp h), fun h => absurd rfl h⟩, rfl⟩)
  · have hc := cmp_ne c17
    refine lv_iconst (v := nI 1) hx hb dX2_clampedBit_20 (by decide) ?_
    refine lv_goto (tgt := 25) hx hb dX2_clampedBit_21 (by decide) ?_
    exact z_zret hx hb hr hlocks dX2_clampedBit_25 rfl hK hP hD hS (⟨⟨fun _ => by decide, fun _ => hbit.mpr hc⟩, rfl⟩)
set_option maxRecDepth 100000 in
set_option maxHeartbeats 4000000 in
theorem c_writeU (l : Launch) (D : va_G) (cA : ClassId) (tys : List (ClassId × FieldType)) (l0 f0 : Nat × va_E) (od aSC aPT aRS aAN ol ph st : Nat) (rs : Int32) (L : List Nat) (n : Nat → Nat) (q : Nat → Nat → Int64) (hPT : aPT ∈ L ∧ n aPT = 4) (w : Nat) (hw : w ∈ L ∧ n w = 4) : zCv l D ((cA, .long) :: tys) yX2_writeU wsX2_writeU ({ frames := 1, cells := 0, slots := 0, locals := 21 }) [.ref od, .ref w] ([(od, .inr (2, [.ref aSC, .ref aPT, .ref aRS, .ref aAN, .ref ol, .int (nI ph), .int (nI st), .int rs])), l0, f0] ++ PL cA L n q) (fun u => ∃ g, wv g = uo (q aPT) ∧ u = [(od, .inr (2, [.ref aSC, .ref aPT, .ref aRS, .ref aAN, .ref ol, .int (nI ph), .int (nI st), .int rs])), l0, f0] ++ PL cA L n (va_up q w g)) := by
  refine z_met (fun A => va_Qv (fun u => ∃ g, wv g = uo (q aPT) ∧ u = [(od, .inr (2, [.ref aSC, .ref aPT, .ref aRS, .ref aAN, .ref ol, .int (nI ph), .int (nI st), .int rs])), l0, f0] ++ PL cA L n (va_up q w g)) (zB D ((cA, .long) :: tys) A) A) (by decide) rfl (Nat.le_of_ble_eq_true rfl) ?_
  intro p e s m below meth c hx hb hr hml hts hown hlocks hname A hA hP hK hD hS ls hl
  have hown : s.vm.findClass RX2 = some m.cls := hown
  have hl : lv_has ls 2 [(0, .ref od), (1, .ref w)] := hl
  refine lv_aload_n hx hb dX2_writeU_0 rfl (lv_at hl 0 rfl) ?_
  refine va_get (D := D) (ci := 2) (v := .ref aPT) (C := RX2) (T := TX2) (N := 8) hx hb hts (by decide +kernel) hown hK hP 0 rfl rfl 1 (by decide) (hts (.fieldLink RX2 13 "LadderDesk" "pointTold" "[J") (by decide +kernel)) (fun _ h9 => h9) rfl dX2_writeU_1 ?_
  refine lv_iconst (v := nI 0) hx hb dX2_writeU_4 (by decide) ?_
  refine lv_aload_n hx hb dX2_writeU_5 rfl (lv_at hl 1 rfl) ?_
  refine lv_iconst (v := nI 0) hx hb dX2_writeU_6 (by decide) ?_
  refine lv_iconst (v := nI 4) hx hb dX2_writeU_7 (by decide) ?_
  refine z_cp hx hb (hml.trans hl.1.symm) hown (hts (.methodLink RX2 67 arraycopyName) (by decide +kernel)) (hts (.native arraycopyName) (by decide +kernel)) (hts (.static arraycopyName) (by decide +kernel)) (hts (.initialized "java/lang/System") (by decide +kernel)) hK hP hD hS hPT hw 4 (by decide) (by decide) (by decide) (Nat.le_of_ble_eq_true rfl) (Nat.le_of_ble_eq_true rfl) dX2_writeU_8 (fun H locs hP hD hS => ?_)
  refine lv_aload_n hx hb dX2_writeU_11 rfl (lv_at hl 1 rfl) ?_
  refine lv_iconst (v := nI 3) hx hb dX2_writeU_12 (by decide) ?_
  refine lv_dup2_11 hx hb dX2_writeU_13 rfl rfl ?_
  refine z_ld hx hb hK hP hw 3 rfl (by omega) (by omega) dX2_writeU_14 ?_
  refine lv_topl (fun v14 e14 => ?_)
  refine lv_ldc2 (v := 9223372036854775807) hx hb hown (hts (.constantLong RX2 93 (9223372036854775807)) (by decide +kernel)) dX2_writeU_15 ?_
  refine lv_land hx hb dX2_writeU_18 ?_
  refine lv_topl (fun v18 e18 => ?_)
  refine z_st hx hb hK hP hD hS hw 3 rfl (by omega) (by omega) dX2_writeU_19 (fun H locs hP hD hS => ?_)
  rw [mpq_to, if_pos (by omega)] at e14
  obtain ⟨f1, hf1⟩ : ∃ z, z = vp_updL (mpq q w (q aPT) 4 w) 3 v18 := ⟨_, rfl⟩
  rw [← hf1] at hP hD
  unfold mpq at hP hD
  rw [up_uu] at hP hD
  obtain ⟨k1, k2⟩ := wv_m63 (f := q aPT) (g := f1) (y := v18) (fun k hk => by rw [hf1]; unfold vp_updL; rw [if_neg (by omega), mpq_to, if_pos (by omega)]) (by rw [hf1]; unfold vp_updL; rw [if_pos rfl]) (by rw [e18, e14])
  refine lv_aload_n hx hb dX2_writeU_20 rfl (lv_at hl 1 rfl) ?_
  refine z_callv (va_runS (As := [.ref w]) (rest := []) ⟨hx, hb, hml, hown, hts⟩ (c_takeRest l D cA tys [(od, .inr (2, [.ref aSC, .ref aPT, .ref aRS, .ref aAN, .ref ol, .int (nI ph), .int (nI st), .int rs])), l0, f0] L n (va_up q w f1) w hw (by rw [va_up_self]; exact k2) _) (va_cwS 1 hts gX2_writeU_X0_takeRest rfl rfl rfl (by decide +kernel) ⟨Nat.le_of_ble_eq_true rfl, Nat.le_of_ble_eq_true rfl⟩) (z_preS _ hK hP hD) rfl rfl hl.1 rfl (lv_room (Nat.le_of_ble_eq_true rfl)) dX2_writeU_21 ⟨Nat.le_of_ble_eq_true rfl, Nat.le_of_ble_eq_true rfl⟩) hD hS hA (fun u H locs hu hP hD hS => ?_)
  obtain ⟨g2, hg2, rfl⟩ := hu
  rw [up_uu] at hP hD
  rw [va_up_self, k1] at hg2
  exact z_vret hx hb hr hlocks dX2_writeU_24 hK hP hD hS (⟨g2, hg2, rfl⟩)
