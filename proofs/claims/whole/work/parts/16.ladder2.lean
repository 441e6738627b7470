set_option maxRecDepth 100000 in
set_option maxHeartbeats 4000000 in
theorem c_isPart (l : Launch) (D : va_G) (tys : List (ClassId × FieldType)) (ws : va_W) (k : Int32) : zCi l D tys yX1_isPart wsX1_isPart ({ frames := 0, cells := 0, slots := 0, locals := 0 }) [.int k] (ws) (fun r u => u = ws ∧ ((r = 1 ∧ ∃ j : Nat, j < 5 ∧ k = nI j) ∨ (r = 0 ∧ ¬ ∃ j : Nat, j < 5 ∧ k = nI j))) := by
  refine z_met (fun A => va_Qi (fun r u => u = ws ∧ ((r = 1 ∧ ∃ j : Nat, j < 5 ∧ k = nI j) ∨ (r = 0 ∧ ¬ ∃ j : Nat, j < 5 ∧ k = nI j))) (zB D tys A) A) (by decide) rfl (Nat.le_of_ble_eq_true rfl) ?_
  intro p e s m below meth c hx hb hr hml hts hown hlocks hname A hA hP hK hD hS ls hl
  have hown : s.vm.findClass RX1 = some m.cls := hown
  have hl : lv_has ls 1 [(0, .int k)] := hl
  refine lv_iload_n hx hb dX1_isPart_0 rfl (lv_at hl 0 rfl) ?_
  refine lv_if_lt (tgt := 13) hx hb dX1_isPart_1 (by decide) (fun c1 => ?_) (fun c1 => ?_)
  · have hc : ¬ ∃ j : Nat, j < 5 ∧ k = nI j := fun ⟨j, h1, h2⟩ => by rw [h2] at c1; exact nI_pos (by omega) c1
    refine lv_iconst (v := nI 0) hx hb dX1_isPart_13 (by decide) ?_
    exact z_zret hx hb hr hlocks dX1_isPart_14 rfl hK hP hD hS (⟨rfl, Or.inr ⟨rfl, hc⟩⟩)
  · obtain ⟨j, hj, rfl⟩ := nI_of c1
    refine lv_iload_n hx hb dX1_isPart_4 rfl (lv_at hl 0 rfl) ?_
    refine lv_iconst (v := nI 5) hx hb dX1_isPart_5 (by decide) ?_
    refine lv_icmp_ge (tgt := 13) hx hb dX1_isPart_6 (by decide) (fun c6 => ?_) (fun c6 => ?_)
    · have hc : ¬ ∃ i : Nat, i < 5 ∧ nI j = nI i := fun ⟨i, h1, h2⟩ => by have := (nI_eq hj (by omega)).mp h2; have := (nI_leI (by omega) hj).mp c6; omega
      refine lv_iconst (v := nI 0) hx hb dX1_isPart_13 (by decide) ?_
      exact z_zret hx hb hr hlocks dX1_isPart_14 rfl hK hP hD hS (⟨rfl, Or.inr ⟨rfl, hc⟩⟩)
    · have hc : j < 5 := Nat.lt_of_not_le fun h => c6 ((nI_leI (by omega) hj).mpr h)
      refine lv_iconst (v := nI 1) hx hb dX1_isPart_9 (by decide) ?_
      refine lv_goto (tgt := 14) hx hb dX1_isPart_10 (by decide) ?_
      exact z_zret hx hb hr hlocks dX1_isPart_14 rfl hK hP hD hS (⟨rfl, Or.inl ⟨rfl, j, hc, rfl⟩⟩)
set_option maxRecDepth 100000 in
set_option maxHeartbeats 4000000 in
theorem c_isLong (l : Launch) (D : va_G) (tys : List (ClassId × FieldType)) (ws : va_W) (k : Int32) : zCi l D tys yX2_isLong wsX2_isLong ({ frames := 0, cells := 0, slots := 0, locals := 0 }) [.int k] (ws) (fun r u => u = ws ∧ ((r = 1 ∧ ∃ j : Nat, j < 4 ∧ k = nI j) ∨ (r = 0 ∧ ¬ ∃ j : Nat, j < 4 ∧ k = nI j))) := by
  refine z_met (fun A => va_Qi (fun r u => u = ws ∧ ((r = 1 ∧ ∃ j : Nat, j < 4 ∧ k = nI j) ∨ (r = 0 ∧ ¬ ∃ j : Nat, j < 4 ∧ k = nI j))) (zB D tys A) A) (by decide) rfl (Nat.le_of_ble_eq_true rfl) ?_
  intro p e s m below meth c hx hb hr hml hts hown hlocks hname A hA hP hK hD hS ls hl
  have hown : s.vm.findClass RX2 = some m.cls := hown
  have hl : lv_has ls 1 [(0, .int k)] := hl
  refine lv_iload_n hx hb dX2_isLong_0 rfl (lv_at hl 0 rfl) ?_
  refine lv_if_lt (tgt := 13) hx hb dX2_isLong_1 (by decide) (fun c1 => ?_) (fun c1 => ?_)
  · have hc : ¬ ∃ j : Nat, j < 4 ∧ k = nI j := fun ⟨j, h1, h2⟩ => by rw [h2] at c1; exact nI_pos (by omega) c1
    refine lv_iconst (v := nI 0) hx hb dX2_isLong_13 (by decide) ?_
    exact z_zret hx hb hr hlocks dX2_isLong_14 rfl hK hP hD hS (⟨rfl, Or.inr ⟨rfl, hc⟩⟩)
  · obtain ⟨j, hj, rfl⟩ := nI_of c1
    refine lv_iload_n hx hb dX2_isLong_4 rfl (lv_at hl 0 rfl) ?_
    refine lv_iconst (v := nI 4) hx hb dX2_isLong_5 (by decide) ?_
    refine lv_icmp_ge (tgt := 13) hx hb dX2_isLong_6 (by decide) (fun c6 => ?_) (fun c6 => ?_)
    · have hc : ¬ ∃ i : Nat, i < 4 ∧ nI j = nI i := fun ⟨i, h1, h2⟩ => by have := (nI_eq hj (by omega)).mp h2; have := (nI_leI (by omega) hj).mp c6; omega
      refine lv_iconst (v := nI 0) hx hb dX2_isLong_13 (by decide) ?_
      exact z_zret hx hb hr hlocks dX2_isLong_14 rfl hK hP hD hS (⟨rfl, Or.inr ⟨rfl, hc⟩⟩)
    · have hc : j < 4 := Nat.lt_of_not_le fun h => c6 ((nI_leI (by omega) hj).mpr h)
      refine lv_iconst (v := nI 1) hx hb dX2_isLong_9 (by decide) ?_
      refine lv_goto (tgt := 14) hx hb dX2_isLong_10 (by decide) ?_
      exact z_zret hx hb hr hlocks dX2_isLong_14 rfl hK hP hD hS (⟨rfl, Or.inl ⟨rfl, j, hc, rfl⟩⟩)
set_option maxRecDepth 100000 in
set_option maxHeartbeats 4000000 in
theorem c_isLongM (l : Launch) (D : va_G) (tys : List (ClassId × FieldType)) (ws : va_W) (k : Int32) : zCi l D tys yX3_isLong wsX3_isLong ({ frames := 0, cells := 0, slots := 0, locals := 0 }) [.int k] (ws) (fun r u => u = ws ∧ ((r = 1 ∧ ∃ j : Nat, j < 4 ∧ k = nI j) ∨ (r = 0 ∧ ¬ ∃ j : Nat, j < 4 ∧ k = nI j))) := by
  refine z_met (fun A => va_Qi (fun r u => u = ws ∧ ((r = 1 ∧ ∃ j : Nat, j < 4 ∧ k = nI j) ∨ (r = 0 ∧ ¬ ∃ j : Nat, j < 4 ∧ k = nI j))) (zB D tys A) A) (by decide) rfl (Nat.le_of_ble_eq_true rfl) ?_
  intro p e s m below meth c hx hb hr hml hts hown hlocks hname A hA hP hK hD hS ls hl
  have hown : s.vm.findClass RX3 = some m.cls := hown
  have hl : lv_has ls 1 [(0, .int k)] := hl
  refine lv_iload_n hx hb dX3_isLong_0 rfl (lv_at hl 0 rfl) ?_
  refine lv_if_lt (tgt := 13) hx hb dX3_isLong_1 (by decide) (fun c1 => ?_) (fun c1 => ?_)
  · have hc : ¬ ∃ j : Nat, j < 4 ∧ k = nI j := fun ⟨j, h1, h2⟩ => by rw [h2] at c1; exact nI_pos (by omega) c1
    refine lv_iconst (v := nI 0) hx hb dX3_isLong_13 (by decide) ?_
    exact z_zret hx hb hr hlocks dX3_isLong_14 rfl hK hP hD hS (⟨rfl, Or.inr ⟨rfl, hc⟩⟩)
  · obtain ⟨j, hj, rfl⟩ := nI_of c1
    refine lv_iload_n hx hb dX3_isLong_4 rfl (lv_at hl 0 rfl) ?_
    refine lv_iconst (v := nI 4) hx hb dX3_isLong_5 (by decide) ?_
    refine lv_icmp_ge (tgt := 13) hx hb dX3_isLong_6 (by decide) (fun c6 => ?_) (fun c6 => ?_)
    · have hc : ¬ ∃ i : Nat, i < 4 ∧ nI j = nI i := fun ⟨i, h1, h2⟩ => by have := (nI_eq hj (by omega)).mp h2; have := (nI_leI (by omega) hj).mp c6; omega
      refine lv_iconst (v := nI 0) hx hb dX3_isLong_13 (by decide) ?_
      exact z_zret hx hb hr hlocks dX3_isLong_14 rfl hK hP hD hS (⟨rfl, Or.inr ⟨rfl, hc⟩⟩)
    · have hc : j < 4 := Nat.lt_of_not_le fun h => c6 ((nI_leI (by omega) hj).mpr h)
      refine lv_iconst (v := nI 1) hx hb dX3_isLong_9 (by decide) ?_
      refine lv_goto (tgt := 14) hx hb dX3_isLong_10 (by decide) ?_
      exact z_zret hx hb hr hlocks dX3_isLong_14 rfl hK hP hD hS (⟨rfl, Or.inl ⟨rfl, j, hc, rfl⟩⟩)
set_option maxRecDepth 100000 in
set_option maxHeartbeats 4000000 in
theorem c_begin (l : Launch) (D : va_G) (cA : ClassId) (tys : List (ClassId × FieldType)) (d0 : Nat × va_E) (ol hf : Nat) (L : List Nat) (n t : Nat → Nat) (q : Nat → Nat → Int64) (wd wh aU aA aB aC aD aE aAA aBB aDA aCB aSP aLE aRI x2 z2 x3 z3 : Nat) (hLW : LW L n t wd wh aU aA aB aC aD aE aAA aBB aDA aCB aSP aLE aRI x2 z2 x3 z3) (w : Nat) (hw : w ∈ L ∧ n w = 4) (hq : uw (q w 3) < 9223372036854775808) : zCv l D ((cA, .long) :: tys) yX1_begin wsX1_begin ({ frames := 2, cells := 0, slots := 0, locals := 46 }) [.ref ol, .ref w] ([d0, (ol, .inr (1, [.ref hf, .ref aU, .ref x2, .ref z2, .ref x3, .ref z3, .ref aA, .ref aB, .ref aC, .ref aD, .ref aE, .ref aAA, .ref aBB, .ref aDA, .ref aCB, .ref aSP, .ref aLE, .ref aRI])), (hf, .inr (0, [.ref wd, .ref wh]))] ++ PL cA L n q) (fun u => ∃ q' : Nat → Nat → Int64, (∀ b, t b < 20 → t b ≠ 2 → q' b = q b) ∧ holds (q' aU) (wv (q w)) ∧ holds (q' x2) 1 ∧ holds (q' z2) 0 ∧ holds (q' x3) (wv (q w)) ∧ holds (q' z3) 1 ∧ u = [d0, (ol, .inr (1, [.ref hf, .ref aU, .ref x2, .ref z2, .ref x3, .ref z3, .ref aA, .ref aB, .ref aC, .ref aD, .ref aE, .ref aAA, .ref aBB, .ref aDA, .ref aCB, .ref aSP, .ref aLE, .ref aRI])), (hf, .inr (0, [.ref wd, .ref wh]))] ++ PL cA L n q') := by
  refine z_met (fun A => va_Qv (fun u => ∃ q' : Nat → Nat → Int64, (∀ b, t b < 20 → t b ≠ 2 → q' b = q b) ∧ holds (q' aU) (wv (q w)) ∧ holds (q' x2) 1 ∧ holds (q' z2) 0 ∧ holds (q' x3) (wv (q w)) ∧ holds (q' z3) 1 ∧ u = [d0, (ol, .inr (1, [.ref hf, .ref aU, .ref x2, .ref z2, .ref x3, .ref z3, .ref aA, .ref aB, .ref aC, .ref aD, .ref aE, .ref aAA, .ref aBB, .ref aDA, .ref aCB, .ref aSP, .ref aLE, .ref aRI])), (hf, .inr (0, [.ref wd, .ref wh]))] ++ PL cA L n q') (zB D ((cA, .long) :: tys) A) A) (by decide) rfl (Nat.le_of_ble_eq_true rfl) ?_
  intro p e s m below meth c hx hb hr hml hts hown hlocks hname A hA hP hK hD hS ls hl
  have hown : s.vm.findClass RX1 = some m.cls := hown
  have hl : lv_has ls 2 [(0, .ref ol), (1, .ref w)] := hl
  obtain ⟨⟨m_wd, m_wh, m_aU, m_aA, m_aB, m_aC, m_aD, m_aE, m_aAA, m_aBB, m_aDA, m_aCB, m_aSP, m_aLE, m_aRI, m_x2, m_z2, m_x3, m_z3⟩, ⟨t_wd, t_wh, t_aU, t_aA, t_aB, t_aC, t_aD, t_aE, t_aAA, t_aBB, t_aDA, t_aCB, t_aSP, t_aLE, t_aRI, t_x2, t_z2, t_x3, t_z3⟩, ⟨d_0, d_1, d_2, d_3, d_4, d_5⟩⟩ := id hLW
  have w_aU : w ≠ aU := fun e => by rw [e, m_aU.2] at hw; omega
  have w_x2 : w ≠ x2 := fun e => by rw [e, m_x2.2] at hw; omega
  have w_z2 : w ≠ z2 := fun e => by rw [e, m_z2.2] at hw; omega
  have w_x3 : w ≠ x3 := fun e => by rw [e, m_x3.2] at hw; omega
  have w_z3 : w ≠ z3 := fun e => by rw [e, m_z3.2] at hw; omega
  refine lv_aload_n hx hb dX1_begin_0 rfl (lv_at hl 0 rfl) ?_
  refine va_get (D := D) (ci := 1) (v := .ref aU) (C := RX1) (T := TX1) (N := 18) hx hb hts (by decide +kernel) hown hK hP 1 rfl rfl 1 (by decide) (hts (.fieldLink RX1 22 "LadderDesk$Ladder" "u" "[J") (by decide +kernel)) (fun _ h9 => h9) rfl dX1_begin_1 ?_
  refine lv_aload_n hx hb dX1_begin_4 rfl (lv_at hl 1 rfl) ?_
  refine z_callv (va_runS (As := [.ref aU, .ref w]) (rest := []) ⟨hx, hb, hml, hown, hts⟩ (c_read l D cA tys [d0, (ol, .inr (1, [.ref hf, .ref aU, .ref x2, .ref z2, .ref x3, .ref z3, .ref aA, .ref aB, .ref aC, .ref aD, .ref aE, .ref aAA, .ref aBB, .ref aDA, .ref aCB, .ref aSP, .ref aLE, .ref aRI])), (hf, .inr (0, [.ref wd, .ref wh]))] L n q aU w m_aU hw hq _) (va_cwS 2 hts gX1_begin_X0_read rfl rfl rfl (by decide +kernel) ⟨Nat.le_of_ble_eq_true rfl, Nat.le_of_ble_eq_true rfl⟩) (z_preS _ hK hP hD) rfl rfl hl.1 rfl (lv_room (Nat.le_of_ble_eq_true rfl)) dX1_begin_5 ⟨Nat.le_of_ble_eq_true rfl, Nat.le_of_ble_eq_true rfl⟩) hD hS hA (fun u H locs hu hP hD hS => ?_)
  obtain ⟨g1, s1, v1, rfl⟩ := hu
  obtain ⟨q1, hq1⟩ : ∃ z, z = va_up q aU g1 := ⟨_, rfl⟩
  rw [← hq1] at hP hD
  refine lv_aload_n hx hb dX1_begin_8 rfl (lv_at hl 0 rfl) ?_
  refine va_get (D := D) (ci := 1) (v := .ref x2) (C := RX1) (T := TX1) (N := 18) hx hb hts (by decide +kernel) hown hK hP 1 rfl rfl 2 (by decide) (hts (.fieldLink RX1 26 "LadderDesk$Ladder" "x2" "[J") (by decide +kernel)) (fun _ h9 => h9) rfl dX1_begin_9 ?_
  refine lv_lconst (v := 1) hx hb dX1_begin_12 (by decide) ?_
  refine z_callv (va_runS (As := [.ref x2, .long 1]) (rest := []) ⟨hx, hb, hml, hown, hts⟩ (c_setSmall l D cA tys [d0, (ol, .inr (1, [.ref hf, .ref aU, .ref x2, .ref z2, .ref x3, .ref z3, .ref aA, .ref aB, .ref aC, .ref aD, .ref aE, .ref aAA, .ref aBB, .ref aDA, .ref aCB, .ref aSP, .ref aLE, .ref aRI])), (hf, .inr (0, [.ref wd, .ref wh]))] L n q1 x2 1 m_x2 _) (va_cwS 2 hts gX1_begin_X0_setSmall rfl rfl rfl (by decide +kernel) ⟨Nat.le_of_ble_eq_true rfl, Nat.le_of_ble_eq_true rfl⟩) (z_preS _ hK hP hD) rfl rfl hl.1 rfl (lv_room (Nat.le_of_ble_eq_true rfl)) dX1_begin_13 ⟨Nat.le_of_ble_eq_true rfl, Nat.le_of_ble_eq_true rfl⟩) hD hS hA (fun u H locs hu hP hD hS => ?_)
  subst hu
  obtain ⟨q2, hq2⟩ : ∃ z, z = (va_up q1 x2 (fun j => if j = 0 then 1 else if j < 10 then 0 else q1 x2 j)) := ⟨_, rfl⟩
  rw [← hq2] at hP hD
  refine lv_aload_n hx hb dX1_begin_16 rfl (lv_at hl 0 rfl) ?_
  refine va_get (D := D) (ci := 1) (v := .ref z2) (C := RX1) (T := TX1) (N := 18) hx hb hts (by decide +kernel) hown hK hP 1 rfl rfl 3 (by decide) (hts (.fieldLink RX1 29 "LadderDesk$Ladder" "z2" "[J") (by decide +kernel)) (fun _ h9 => h9) rfl dX1_begin_17 ?_
  refine lv_lconst (v := 0) hx hb dX1_begin_20 (by decide) ?_
  refine z_callv (va_runS (As := [.ref z2, .long 0]) (rest := []) ⟨hx, hb, hml, hown, hts⟩ (c_setSmall l D cA tys [d0, (ol, .inr (1, [.ref hf, .ref aU, .ref x2, .ref z2, .ref x3, .ref z3, .ref aA, .ref aB, .ref aC, .ref aD, .ref aE, .ref aAA, .ref aBB, .ref aDA, .ref aCB, .ref aSP, .ref aLE, .ref aRI])), (hf, .inr (0, [.ref wd, .ref wh]))] L n q2 z2 0 m_z2 _) (va_cwS 2 hts gX1_begin_X0_setSmall rfl rfl rfl (by decide +kernel) ⟨Nat.le_of_ble_eq_true rfl, Nat.le_of_ble_eq_true rfl⟩) (z_preS _ hK hP hD) rfl rfl hl.1 rfl (lv_room (Nat.le_of_ble_eq_true rfl)) dX1_begin_21 ⟨Nat.le_of_ble_eq_true rfl, Nat.le_of_ble_eq_true rfl⟩) hD hS hA (fun u H locs hu hP hD hS => ?_)
  subst hu
  obtain ⟨q3, hq3⟩ : ∃ z, z = (va_up q2 z2 (fun j => if j = 0 then 0 else if j < 10 then 0 else q2 z2 j)) := ⟨_, rfl⟩
  rw [← hq3] at hP hD
  have ew : q3 w = q w := by rw [hq3, va_up_ne _ _ w_z2, hq2, va_up_ne _ _ w_x2, hq1, va_up_ne _ _ w_aU]
  refine lv_aload_n hx hb dX1_begin_24 rfl (lv_at hl 0 rfl) ?_
  refine va_get (D := D) (ci := 1) (v := .ref x3) (C := RX1) (T := TX1) (N := 18) hx hb hts (by decide +kernel) hown hK hP 1 rfl rfl 4 (by decide) (hts (.fieldLink RX1 32 "LadderDesk$Ladder" "x3" "[J") (by decide +kernel)) (fun _ h9 => h9) rfl dX1_begin_25 ?_
  refine lv_aload_n hx hb dX1_begin_28 rfl (lv_at hl 1 rfl) ?_
  refine z_callv (va_runS (As := [.ref x3, .ref w]) (rest := []) ⟨hx, hb, hml, hown, hts⟩ (c_read l D cA tys [d0, (ol, .inr (1, [.ref hf, .ref aU, .ref x2, .ref z2, .ref x3, .ref z3, .ref aA, .ref aB, .ref aC, .ref aD, .ref aE, .ref aAA, .ref aBB, .ref aDA, .ref aCB, .ref aSP, .ref aLE, .ref aRI])), (hf, .inr (0, [.ref wd, .ref wh]))] L n q3 x3 w m_x3 hw (by rw [ew]; exact hq) _) (va_cwS 2 hts gX1_begin_X0_read rfl rfl rfl (by decide +kernel) ⟨Nat.le_of_ble_eq_true rfl, Nat.le_of_ble_eq_true rfl⟩) (z_preS _ hK hP hD) rfl rfl hl.1 rfl (lv_room (Nat.le_of_ble_eq_true rfl)) dX1_begin_29 ⟨Nat.le_of_ble_eq_true rfl, Nat.le_of_ble_eq_true rfl⟩) hD hS hA (fun u H locs hu hP hD hS => ?_)
  obtain ⟨g4, s4, v4, rfl⟩ := hu
  rw [ew] at v4
  obtain ⟨q4, hq4⟩ : ∃ z, z = va_up q3 x3 g4 := ⟨_, rfl⟩
  rw [← hq4] at hP hD
  refine lv_aload_n hx hb dX1_begin_32 rfl (lv_at hl 0 rfl) ?_
  refine va_get (D := D) (ci := 1) (v := .ref z3) (C := RX1) (T := TX1) (N := 18) hx hb hts (by decide +kernel) hown hK hP 1 rfl rfl 5 (by decide) (hts (.fieldLink RX1 35 "LadderDesk$Ladder" "z3" "[J") (by decide +kernel)) (fun _ h9 => h9) rfl dX1_begin_33 ?_
  refine lv_lconst (v := 1) hx hb dX1_begin_36 (by decide) ?_
  refine z_callv (va_runS (As := [.ref z3, .long 1]) (rest := []) ⟨hx, hb, hml, hown, hts⟩ (c_setSmall l D cA tys [d0, (ol, .inr (1, [.ref hf, .ref aU, .ref x2, .ref z2, .ref x3, .ref z3, .ref aA, .ref aB, .ref aC, .ref aD, .ref aE, .ref aAA, .ref aBB, .ref aDA, .ref aCB, .ref aSP, .ref aLE, .ref aRI])), (hf, .inr (0, [.ref wd, .ref wh]))] L n q4 z3 1 m_z3 _) (va_cwS 2 hts gX1_begin_X0_setSmall rfl rfl rfl (by decide +kernel) ⟨Nat.le_of_ble_eq_true rfl, Nat.le_of_ble_eq_true rfl⟩) (z_preS _ hK hP hD) rfl rfl hl.1 rfl (lv_room (Nat.le_of_ble_eq_true rfl)) dX1_begin_37 ⟨Nat.le_of_ble_eq_true rfl, Nat.le_of_ble_eq_true rfl⟩) hD hS hA (fun u H locs hu hP hD hS => ?_)
  subst hu
  obtain ⟨q5, hq5⟩ : ∃ z, z = (va_up q4 z3 (fun j => if j = 0 then 1 else if j < 10 then 0 else q4 z3 j)) := ⟨_, rfl⟩
  rw [← hq5] at hP hD
  have r1 : ∀ b, b ≠ aU → q1 b = q b := fun b h => by rw [hq1, va_up_ne _ _ h]
  have r2 : ∀ b, b ≠ x2 → q2 b = q1 b := fun b h => by rw [hq2, va_up_ne _ _ h]
  have r3 : ∀ b, b ≠ z2 → q3 b = q2 b := fun b h => by rw [hq3, va_up_ne _ _ h]
  have r4 : ∀ b, b ≠ x3 → q4 b = q3 b := fun b h => by rw [hq4, va_up_ne _ _ h]
  have r5 : ∀ b, b ≠ z3 → q5 b = q4 b := fun b h => by rw [hq5, va_up_ne _ _ h]
  have eU : q5 aU = g1 := by rw [r5 aU (show aU ≠ z3 from fun h => by have := congrArg t h; omega), r4 aU (show aU ≠ x3 from fun h => by have := congrArg t h; omega), r3 aU (show aU ≠ z2 from fun h => by have := congrArg t h; omega), r2 aU (show aU ≠ x2 from fun h => by have := congrArg t h; omega), hq1, va_up_self]
  have eX2 : q5 x2 = q2 x2 := by rw [r5 x2 (show x2 ≠ z3 from fun h => by have := congrArg t h; omega), r4 x2 (show x2 ≠ x3 from fun h => by have := congrArg t h; omega), r3 x2 (show x2 ≠ z2 from fun h => by have := congrArg t h; omega)]
  have eZ2 : q5 z2 = q3 z2 := by rw [r5 z2 (show z2 ≠ z3 from fun h => by have := congrArg t h; omega), r4 z2 (show z2 ≠ x3 from fun h => by have := congrArg t h; omega)]
  have eX3 : q5 x3 = g4 := by rw [r5 x3 (show x3 ≠ z3 from fun h => by have := congrArg t h; omega), hq4, va_up_self]
  exact z_vret hx hb hr hlocks dX1_begin_40 hK hP hD hS (⟨q5, fun b h1 h2 => by rw [r5 b (show b ≠ z3 from fun h => by have := congrArg t h; omega), r4 b (show b ≠ x3 from fun h => by have := congrArg t h; omega), r3 b (show b ≠ z2 from fun h => by have := congrArg t h; omega), r2 b (show b ≠ x2 from fun h => by have := congrArg t h; omega), r1 b (show b ≠ aU from fun h => by have := congrArg t h; omega)], by rw [eU]; exact ⟨s1, cg_of v1⟩, by rw [eX2]; exact small_holds (by rw [hq2, va_up_self]; rfl) (by decide) (fun j h1 h2 => by rw [hq2, va_up_self, if_neg (by omega), if_pos h2]), by rw [eZ2]; exact small_holds (by rw [hq3, va_up_self]; rfl) (by decide) (fun j h1 h2 => by rw [hq3, va_up_self, if_neg (by omega), if_pos h2]), by rw [eX3]; exact ⟨s4, cg_of v4⟩, small_holds (by rw [hq5, va_up_self]; rfl) (by decide) (fun j h1 h2 => by rw [hq5, va_up_self, if_neg (by omega), if_pos h2]), rfl⟩)
set_option maxRecDepth 100000 in
set_option maxHeartbeats 4000000 in
theorem c_walk (l : Launch) (D : va_G) (cA : ClassId) (tys : List (ClassId × FieldType)) (d0 : Nat × va_E) (ol hf : Nat) (L : List Nat) (n t : Nat → Nat) (q : Nat → Nat → Int64) (wd wh aU aA aB aC aD aE aAA aBB aDA aCB aSP aLE aRI x2 z2 x3 z3 : Nat) (hLW : LW L n t wd wh aU aA aB aC aD aE aAA aBB aDA aCB aSP aLE aRI x2 z2 x3 z3) (bv : Int32) (bt : Bool) (hbt : bt = true ↔ ¬ bv = 0) (vu : Int) (hU : holds (q aU) vu) (vx2 vz2 vx3 vz3 : Int) (hx2 : holds (q x2) vx2) (hz2 : holds (q z2) vz2) (hx3 : holds (q x3) vx3) (hz3 : holds (q z3) vz3) : zCv l D ((cA, .long) :: tys) yX1_walk wsX1_walk ({ frames := 4, cells := 0, slots := 0, locals := 94 }) [.ref ol, .int bv] ([d0, (ol, .inr (1, [.ref hf, .ref aU, .ref x2, .ref z2, .ref x3, .ref z3, .ref aA, .ref aB, .ref aC, .ref aD, .ref aE, .ref aAA, .ref aBB, .ref aDA, .ref aCB, .ref aSP, .ref aLE, .ref aRI])), (hf, .inr (0, [.ref wd, .ref wh]))] ++ PL cA L n q) (fun u => ∃ q' : Nat → Nat → Int64, (∀ b, t b = 2 ∨ (13 ≤ t b ∧ t b < 20) → q' b = q b) ∧ holds (q' x2) (wX2 bt vx2 vz2 vx3 vz3) ∧ holds (q' z2) (wZ2 bt vu vx2 vz2 vx3 vz3) ∧ holds (q' x3) (wX3 bt vx2 vz2 vx3 vz3) ∧ holds (q' z3) (wZ3 bt vu vx2 vz2 vx3 vz3) ∧ u = [d0, (ol, .inr (1, [.ref hf, .ref aU, .ref x2, .ref z2, .ref x3, .ref z3, .ref aA, .ref aB, .ref aC, .ref aD, .ref aE, .ref aAA, .ref aBB, .ref aDA, .ref aCB, .ref aSP, .ref aLE, .ref aRI])), (hf, .inr (0, [.ref wd, .ref wh]))] ++ PL cA L n q') := by
  refine z_met (fun A => va_Qv (fun u => ∃ q' : Nat → Nat → Int64, (∀ b, t b = 2 ∨ (13 ≤ t b ∧ t b < 20) → q' b = q b) ∧ holds (q' x2) (wX2 bt vx2 vz2 vx3 vz3) ∧ holds (q' z2) (wZ2 bt vu vx2 vz2 vx3 vz3) ∧ holds (q' x3) (wX3 bt vx2 vz2 vx3 vz3) ∧ holds (q' z3) (wZ3 bt vu vx2 vz2 vx3 vz3) ∧ u = [d0, (ol, .inr (1, [.ref hf, .ref aU, .ref x2, .ref z2, .ref x3, .ref z3, .ref aA, .ref aB, .ref aC, .ref aD, .ref aE, .ref aAA, .ref aBB, .ref aDA, .ref aCB, .ref aSP, .ref aLE, .ref aRI])), (hf, .inr (0, [.ref wd, .ref wh]))] ++ PL cA L n q') (zB D ((cA, .long) :: tys) A) A) (by decide) rfl (Nat.le_of_ble_eq_true rfl) ?_
  intro p e s m below meth c hx hb hr hml hts hown hlocks hname A hA hP hK hD hS ls hl
  have hown : s.vm.findClass RX1 = some m.cls := hown
  have hl : lv_has ls 2 [(0, .ref ol), (1, .int bv)] := hl
  obtain ⟨⟨m_wd, m_wh, m_aU, m_aA, m_aB, m_aC, m_aD, m_aE, m_aAA, m_aBB, m_aDA, m_aCB, m_aSP, m_aLE, m_aRI, m_x2, m_z2, m_x3, m_z3⟩, ⟨t_wd, t_wh, t_aU, t_aA, t_aB, t_aC, t_aD, t_aE, t_aAA, t_aBB, t_aDA, t_aCB, t_aSP, t_aLE, t_aRI, t_x2, t_z2, t_x3, t_z3⟩, ⟨d_0, d_1, d_2, d_3, d_4, d_5⟩⟩ := id hLW
  refine lv_iload_n hx hb dX1_walk_0 rfl (lv_at hl 1 rfl) ?_
  refine lv_if_eq (tgt := 8) hx hb dX1_walk_1 (by decide) (fun c1 => ?_) (fun c1 => ?_)
  · have hb0 : bt = false := by cases bt with | false => rfl | true => exact absurd c1 (hbt.mp rfl)
    subst hb0
    refine lv_aload_n hx hb dX1_walk_8 rfl (lv_at hl 0 rfl) ?_
    refine z_callv (va_runV (As := []) (rest := []) ⟨hx, hb, hml, hown, hts⟩ (c_makeSums l D cA tys d0 ol hf L n t q wd wh aU aA aB aC aD aE aAA aBB aDA aCB aSP aLE aRI x2 z2 x3 z3 hLW vx2 vz2 vx3 vz3 hx2 hz2 hx3 hz3 _) (cwV 0 hts gX1_walk_X1_makeSums rfl rfl rfl (by decide +kernel) ⟨Nat.le_of_ble_eq_true rfl, Nat.le_of_ble_eq_true rfl⟩) (z_preV _ hK hP hD (ci := 1) (q0 := 1) rfl rfl) rfl rfl hl.1 rfl (lv_room (Nat.le_of_ble_eq_true rfl)) dX1_walk_9 ⟨Nat.le_of_ble_eq_true rfl, Nat.le_of_ble_eq_true rfl⟩) hD hS hA (fun u H locs hu hP hD hS => ?_)
    obtain ⟨q1, k1, ⟨a1, a2⟩, ⟨b1, b2⟩, ⟨c1, c2⟩, ⟨e1, e2⟩, rfl⟩ := hu
    refine lv_aload_n hx hb dX1_walk_12 rfl (lv_at hl 0 rfl) ?_
    refine z_callv (va_runV (As := []) (rest := []) ⟨hx, hb, hml, hown, hts⟩ (c_makeDouble l D cA tys d0 ol hf L n t q1 wd wh aU aA aB aC aD aE aAA aBB aDA aCB aSP aLE aRI x2 z2 x3 z3 hLW vx2 vz2 a1 a2 b1 b2 _) (cwV 0 hts gX1_walk_X1_makeDouble rfl rfl rfl (by decide +kernel) ⟨Nat.le_of_ble_eq_true rfl, Nat.le_of_ble_eq_true rfl⟩) (z_preV _ hK hP hD (ci := 1) (q0 := 1) rfl rfl) rfl rfl hl.1 rfl (lv_room (Nat.le_of_ble_eq_true rfl)) dX1_walk_13 ⟨Nat.le_of_ble_eq_true rfl, Nat.le_of_ble_eq_true rfl⟩) hD hS hA (fun u H locs hu hP hD hS => ?_)
    obtain ⟨q2, k2, n1, n2, rfl⟩ := hu
    have f_aA : q2 aA = q1 aA := k2 aA (by omega) (by omega) (show aA ≠ x2 from fun h => by have := congrArg t h; omega) (show aA ≠ z2 from fun h => by have := congrArg t h; omega)
    have f_aB : q2 aB = q1 aB := k2 aB (by omega) (by omega) (show aB ≠ x2 from fun h => by have := congrArg t h; omega) (show aB ≠ z2 from fun h => by have := congrArg t h; omega)
    have f_aC : q2 aC = q1 aC := k2 aC (by omega) (by omega) (show aC ≠ x2 from fun h => by have := congrArg t h; omega) (show aC ≠ z2 from fun h => by have := congrArg t h; omega)
    have f_aD : q2 aD = q1 aD := k2 aD (by omega) (by omega) (show aD ≠ x2 from fun h => by have := congrArg t h; omega) (show aD ≠ z2 from fun h => by have := congrArg t h; omega)
    have f_aU : q2 aU = q1 aU := k2 aU (by omega) (by omega) (show aU ≠ x2 from fun h => by have := congrArg t h; omega) (show aU ≠ z2 from fun h => by have := congrArg t h; omega)
    have f_U : q2 aU = q aU := by rw [f_aU, k1 aU (by omega)]
    refine lv_aload_n hx hb dX1_walk_16 rfl (lv_at hl 0 rfl) ?_
    refine z_callv (va_runV (As := []) (rest := []) ⟨hx, hb, hml, hown, hts⟩ (c_makeOther l D cA tys d0 ol hf L n t q2 wd wh aU aA aB aC aD aE aAA aBB aDA aCB aSP aLE aRI x2 z2 x3 z3 hLW vu vx2 vz2 vx3 vz3 (by rw [f_U]; exact hU) (by rw [f_aA]; exact a1) (by rw [f_aA]; exact a2) (by rw [f_aB]; exact b1) (by rw [f_aB]; exact b2) (by rw [f_aC]; exact c1) (by rw [f_aC]; exact c2) (by rw [f_aD]; exact e1) (by rw [f_aD]; exact e2) _) (cwV 0 hts gX1_walk_X1_makeOther rfl rfl rfl (by decide +kernel) ⟨Nat.le_of_ble_eq_true rfl, Nat.le_of_ble_eq_true rfl⟩) (z_preV _ hK hP hD (ci := 1) (q0 := 1) rfl rfl) rfl rfl hl.1 rfl (lv_room (Nat.le_of_ble_eq_true rfl)) dX1_walk_17 ⟨Nat.le_of_ble_eq_true rfl, Nat.le_of_ble_eq_true rfl⟩) hD hS hA (fun u H locs hu hP hD hS => ?_)
    obtain ⟨q3, k3, n3, n4, rfl⟩ := hu
    have p1 : holds (q3 x2) _ := (k3 x2 (by omega) (by omega) (show x2 ≠ x3 from fun h => by have := congrArg t h; omega) (show x2 ≠ z3 from fun h => by have := congrArg t h; omega)) ▸ n1
    have p2 : holds (q3 z2) _ := (k3 z2 (by omega) (by omega) (show z2 ≠ x3 from fun h => by have := congrArg t h; omega) (show z2 ≠ z3 from fun h => by have := congrArg t h; omega)) ▸ n2
    have kk : ∀ b, t b = 2 ∨ (13 ≤ t b ∧ t b < 20) → q3 b = q b := fun b hb => by rw [k3 b (by omega) (by omega) (show b ≠ x3 from fun h => by have := congrArg t h; omega) (show b ≠ z3 from fun h => by have := congrArg t h; omega), k2 b (by omega) (by omega) (show b ≠ x2 from fun h => by have := congrArg t h; omega) (show b ≠ z2 from fun h => by have := congrArg t h; omega), k1 b (by omega)]
    refine lv_iload_n hx hb dX1_walk_20 rfl (lv_at hl 1 rfl) ?_
    refine lv_if_eq (tgt := 28) hx hb dX1_walk_21 (by decide) (fun _ => ?_) (fun c21 => absurd ‹bv = 0› c21)
    exact z_vret hx hb hr hlocks dX1_walk_28 hK hP hD hS (⟨q3, kk, p1, p2, n3, n4, rfl⟩)
  · have hb0 : bt = true := hbt.mpr c1
    subst hb0
    have hbv := c1
    refine lv_aload_n hx hb dX1_walk_4 rfl (lv_at hl 0 rfl) ?_
    refine z_callv (va_runV (As := []) (rest := []) ⟨hx, hb, hml, hown, hts⟩ (c_changePlaces l D cA tys d0 ol hf L n t q wd wh aU aA aB aC aD aE aAA aBB aDA aCB aSP aLE aRI x2 z2 x3 z3 hLW _) (cwV 0 hts gX1_walk_X1_changePlaces rfl rfl rfl (by decide +kernel) ⟨Nat.le_of_ble_eq_true rfl, Nat.le_of_ble_eq_true rfl⟩) (z_preV _ hK hP hD (ci := 1) (q0 := 1) rfl rfl) rfl rfl hl.1 rfl (lv_room (Nat.le_of_ble_eq_true rfl)) dX1_walk_5 ⟨Nat.le_of_ble_eq_true rfl, Nat.le_of_ble_eq_true rfl⟩) hD hS hA (fun u H locs hu hP hD hS => ?_)
    subst hu
    refine lv_aload_n hx hb dX1_walk_8 rfl (lv_at hl 0 rfl) ?_
    refine z_callv (va_runV (As := []) (rest := []) ⟨hx, hb, hml, hown, hts⟩ (c_makeSums l D cA tys d0 ol hf L n t q wd wh aU aA aB aC aD aE aAA aBB aDA aCB aSP aLE aRI x3 z3 x2 z2 (LW_swap hLW) vx3 vz3 vx2 vz2 hx3 hz3 hx2 hz2 _) (cwV 0 hts gX1_walk_X1_makeSums rfl rfl rfl (by decide +kernel) ⟨Nat.le_of_ble_eq_true rfl, Nat.le_of_ble_eq_true rfl⟩) (z_preV _ hK hP hD (ci := 1) (q0 := 1) rfl rfl) rfl rfl hl.1 rfl (lv_room (Nat.le_of_ble_eq_true rfl)) dX1_walk_9 ⟨Nat.le_of_ble_eq_true rfl, Nat.le_of_ble_eq_true rfl⟩) hD hS hA (fun u H locs hu hP hD hS => ?_)
    obtain ⟨q1, k1, ⟨a1, a2⟩, ⟨b1, b2⟩, ⟨c1, c2⟩, ⟨e1, e2⟩, rfl⟩ := hu
    refine lv_aload_n hx hb dX1_walk_12 rfl (lv_at hl 0 rfl) ?_
    refine z_callv (va_runV (As := []) (rest := []) ⟨hx, hb, hml, hown, hts⟩ (c_makeDouble l D cA tys d0 ol hf L n t q1 wd wh aU aA aB aC aD aE aAA aBB aDA aCB aSP aLE aRI x3 z3 x2 z2 (LW_swap hLW) vx3 vz3 a1 a2 b1 b2 _) (cwV 0 hts gX1_walk_X1_makeDouble rfl rfl rfl (by decide +kernel) ⟨Nat.le_of_ble_eq_true rfl, Nat.le_of_ble_eq_true rfl⟩) (z_preV _ hK hP hD (ci := 1) (q0 := 1) rfl rfl) rfl rfl hl.1 rfl (lv_room (Nat.le_of_ble_eq_true rfl)) dX1_walk_13 ⟨Nat.le_of_ble_eq_true rfl, Nat.le_of_ble_eq_true rfl⟩) hD hS hA (fun u H locs hu hP hD hS => ?_)
    obtain ⟨q2, k2, n1, n2, rfl⟩ := hu
    have f_aA : q2 aA = q1 aA := k2 aA (by omega) (by omega) (show aA ≠ x3 from fun h => by have := congrArg t h; omega) (show aA ≠ z3 from fun h => by have := congrArg t h; omega)
    have f_aB : q2 aB = q1 aB := k2 aB (by omega) (by omega) (show aB ≠ x3 from fun h => by have := congrArg t h; omega) (show aB ≠ z3 from fun h => by have := congrArg t h; omega)
    have f_aC : q2 aC = q1 aC := k2 aC (by omega) (by omega) (show aC ≠ x3 from fun h => by have := congrArg t h; omega) (show aC ≠ z3 from fun h => by have := congrArg t h; omega)
    have f_aD : q2 aD = q1 aD := k2 aD (by omega) (by omega) (show aD ≠ x3 from fun h => by have := congrArg t h; omega) (show aD ≠ z3 from fun h => by have := congrArg t h; omega)
    have f_aU : q2 aU = q1 aU := k2 aU (by omega) (by omega) (show aU ≠ x3 from fun h => by have := congrArg t h; omega) (show aU ≠ z3 from fun h => by have := congrArg t h; omega)
    have f_U : q2 aU = q aU := by rw [f_aU, k1 aU (by omega)]
    refine lv_aload_n hx hb dX1_walk_16 rfl (lv_at hl 0 rfl) ?_
    refine z_callv (va_runV (As := []) (rest := []) ⟨hx, hb, hml, hown, hts⟩ (c_makeOther l D cA tys d0 ol hf L n t q2 wd wh aU aA aB aC aD aE aAA aBB aDA aCB aSP aLE aRI x3 z3 x2 z2 (LW_swap hLW) vu vx3 vz3 vx2 vz2 (by rw [f_U]; exact hU) (by rw [f_aA]; exact a1) (by rw [f_aA]; exact a2) (by rw [f_aB]; exact b1) (by rw [f_aB]; exact b2) (by rw [f_aC]; exact c1) (by rw [f_aC]; exact c2) (by rw [f_aD]; exact e1) (by rw [f_aD]; exact e2) _) (cwV 0 hts gX1_walk_X1_makeOther rfl rfl rfl (by decide +kernel) ⟨Nat.le_of_ble_eq_true rfl, Nat.le_of_ble_eq_true rfl⟩) (z_preV _ hK hP hD (ci := 1) (q0 := 1) rfl rfl) rfl rfl hl.1 rfl (lv_room (Nat.le_of_ble_eq_true rfl)) dX1_walk_17 ⟨Nat.le_of_ble_eq_true rfl, Nat.le_of_ble_eq_true rfl⟩) hD hS hA (fun u H locs hu hP hD hS => ?_)
    obtain ⟨q3, k3, n3, n4, rfl⟩ := hu
    have p1 : holds (q3 x3) _ := (k3 x3 (by omega) (by omega) (show x3 ≠ x2 from fun h => by have := congrArg t h; omega) (show x3 ≠ z2 from fun h => by have := congrArg t h; omega)) ▸ n1
    have p2 : holds (q3 z3) _ := (k3 z3 (by omega) (by omega) (show z3 ≠ x2 from fun h => by have := congrArg t h; omega) (show z3 ≠ z2 from fun h => by have := congrArg t h; omega)) ▸ n2
    have kk : ∀ b, t b = 2 ∨ (13 ≤ t b ∧ t b < 20) → q3 b = q b := fun b hb => by rw [k3 b (by omega) (by omega) (show b ≠ x2 from fun h => by have := congrArg t h; omega) (show b ≠ z2 from fun h => by have := congrArg t h; omega), k2 b (by omega) (by omega) (show b ≠ x3 from fun h => by have := congrArg t h; omega) (show b ≠ z3 from fun h => by have := congrArg t h; omega), k1 b (by omega)]
    refine lv_iload_n hx hb dX1_walk_20 rfl (lv_at hl 1 rfl) ?_
    refine lv_if_eq (tgt := 28) hx hb dX1_walk_21 (by decide) (fun c21 => absurd c21 hbv) (fun _ => ?_)
    refine lv_aload_n hx hb dX1_walk_24 rfl (lv_at hl 0 rfl) ?_
    refine z_callv (va_runV (As := []) (rest := []) ⟨hx, hb, hml, hown, hts⟩ (c_changePlaces l D cA tys d0 ol hf L n t q3 wd wh aU aA aB aC aD aE aAA aBB aDA aCB aSP aLE aRI x3 z3 x2 z2 (LW_swap hLW) _) (cwV 0 hts gX1_walk_X1_changePlaces rfl rfl rfl (by decide +kernel) ⟨Nat.le_of_ble_eq_true rfl, Nat.le_of_ble_eq_true rfl⟩) (z_preV _ hK hP hD (ci := 1) (q0 := 1) rfl rfl) rfl rfl hl.1 rfl (lv_room (Nat.le_of_ble_eq_true rfl)) dX1_walk_25 ⟨Nat.le_of_ble_eq_true rfl, Nat.le_of_ble_eq_true rfl⟩) hD hS hA (fun u H locs hu hP hD hS => ?_)
    subst hu
    exact z_vret hx hb hr hlocks dX1_walk_28 hK hP hD hS (⟨q3, kk, n3, n4, p1, p2, rfl⟩)
set_option maxRecDepth 100000 in
set_option maxHeartbeats 4000000 in
theorem c_rowOf (l : Launch) (D : va_G) (cA : ClassId) (tys : List (ClassId × FieldType)) (d0 : Nat × va_E) (ol hf : Nat) (L : List Nat) (n t : Nat → Nat) (q : Nat → Nat → Int64) (wd wh aU aA aB aC aD aE aAA aBB aDA aCB aSP aLE aRI x2 z2 x3 z3 : Nat) (hLW : LW L n t wd wh aU aA aB aC aD aE aAA aBB aDA aCB aSP aLE aRI x2 z2 x3 z3) (k : Nat) (hk : k < 5) : zCr l D ((cA, .long) :: tys) yX1_rowOf wsX1_rowOf ({ frames := 0, cells := 0, slots := 0, locals := 0 }) [.ref ol, .int (nI k)] ([d0, (ol, .inr (1, [.ref hf, .ref aU, .ref x2, .ref z2, .ref x3, .ref z3, .ref aA, .ref aB, .ref aC, .ref aD, .ref aE, .ref aAA, .ref aBB, .ref aDA, .ref aCB, .ref aSP, .ref aLE, .ref aRI])), (hf, .inr (0, [.ref wd, .ref wh]))] ++ PL cA L n q) (fun u r => r = rsel k x2 z2 x3 z3 aU ∧ u = [d0, (ol, .inr (1, [.ref hf, .ref aU, .ref x2, .ref z2, .ref x3, .ref z3, .ref aA, .ref aB, .ref aC, .ref aD, .ref aE, .ref aAA, .ref aBB, .ref aDA, .ref aCB, .ref aSP, .ref aLE, .ref aRI])), (hf, .inr (0, [.ref wd, .ref wh]))] ++ PL cA L n q) := by
  refine z_met (fun A => va_Qr (fun _ => True) (zBr D ((cA, .long) :: tys) A (fun u r => r = rsel k x2 z2 x3 z3 aU ∧ u = [d0, (ol, .inr (1, [.ref hf, .ref aU, .ref x2, .ref z2, .ref x3, .ref z3, .ref aA, .ref aB, .ref aC, .ref aD, .ref aE, .ref aAA, .ref aBB, .ref aDA, .ref aCB, .ref aSP, .ref aLE, .ref aRI])), (hf, .inr (0, [.ref wd, .ref wh]))] ++ PL cA L n q)) A) (by decide) rfl (Nat.le_of_ble_eq_true rfl) ?_
  intro p e s m below meth c hx hb hr hml hts hown hlocks hname A hA hP hK hD hS ls hl
  have hown : s.vm.findClass RX1 = some m.cls := hown
  have hl : lv_has ls 2 [(0, .ref ol), (1, .int (nI k))] := hl
  obtain ⟨⟨m_wd, m_wh, m_aU, m_aA, m_aB, m_aC, m_aD, m_aE, m_aAA, m_aBB, m_aDA, m_aCB, m_aSP, m_aLE, m_aRI, m_x2, m_z2, m_x3, m_z3⟩, ⟨t_wd, t_wh, t_aU, t_aA, t_aB, t_aC, t_aD, t_aE, t_aAA, t_aBB, t_aDA, t_aCB, t_aSP, t_aLE, t_aRI, t_x2, t_z2, t_x3, t_z3⟩, ⟨d_0, d_1, d_2, d_3, d_4, d_5⟩⟩ := id hLW
  refine lv_iload_n hx hb dX1_rowOf_0 rfl (lv_at hl 1 rfl) ?_
  rcases (show k = 0 ∨ k = 1 ∨ k = 2 ∨ k = 3 ∨ k = 4 by omega) with rfl | rfl | rfl | rfl | rfl
  · refine lv_tableIn (off := 31) (tgt := 32) hx hb dX1_rowOf_1 (by decide) (by decide) (by decide) (by decide) ?_
    refine lv_aload_n hx hb dX1_rowOf_32 rfl (lv_at hl 0 rfl) ?_
    refine va_get (D := D) (ci := 1) (v := .ref x2) (C := RX1) (T := TX1) (N := 18) hx hb hts (by decide +kernel) hown hK hP 1 rfl rfl 2 (by decide) (hts (.fieldLink RX1 26 "LadderDesk$Ladder" "x2" "[J") (by decide +kernel)) (fun _ h9 => h9) rfl dX1_rowOf_33 ?_
    exact z_rret hx hb hr hlocks dX1_rowOf_36 hK hP hD hS ⟨rfl, rfl⟩
  · refine lv_tableIn (off := 36) (tgt := 37) hx hb dX1_rowOf_1 (by decide) (by decide) (by decide) (by decide) ?_
    refine lv_aload_n hx hb dX1_rowOf_37 rfl (lv_at hl 0 rfl) ?_
    refine va_get (D := D) (ci := 1) (v := .ref z2) (C := RX1) (T := TX1) (N := 18) hx hb hts (by decide +kernel) hown hK hP 1 rfl rfl 3 (by decide) (hts (.fieldLink RX1 29 "LadderDesk$Ladder" "z2" "[J") (by decide +kernel)) (fun _ h9 => h9) rfl dX1_rowOf_38 ?_
    exact z_rret hx hb hr hlocks dX1_rowOf_41 hK hP hD hS ⟨rfl, rfl⟩
  · refine lv_tableIn (off := 41) (tgt := 42) hx hb dX1_rowOf_1 (by decide) (by decide) (by decide) (by decide) ?_
    refine lv_aload_n hx hb dX1_rowOf_42 rfl (lv_at hl 0 rfl) ?_
    refine va_get (D := D) (ci := 1) (v := .ref x3) (C := RX1) (T := TX1) (N := 18) hx hb hts (by decide +kernel) hown hK hP 1 rfl rfl 4 (by decide) (hts (.fieldLink RX1 32 "LadderDesk$Ladder" "x3" "[J") (by decide +kernel)) (fun _ h9 => h9) rfl dX1_rowOf_43 ?_
    exact z_rret hx hb hr hlocks dX1_rowOf_46 hK hP hD hS ⟨rfl, rfl⟩
  · refine lv_tableIn (off := 46) (tgt := 47) hx hb dX1_rowOf_1 (by decide) (by decide) (by decide) (by decide) ?_
    refine lv_aload_n hx hb dX1_rowOf_47 rfl (lv_at hl 0 rfl) ?_
    refine va_get (D := D) (ci := 1) (v := .ref z3) (C := RX1) (T := TX1) (N := 18) hx hb hts (by decide +kernel) hown hK hP 1 rfl rfl 5 (by decide) (hts (.fieldLink RX1 35 "LadderDesk$Ladder" "z3" "[J") (by decide +kernel)) (fun _ h9 => h9) rfl dX1_rowOf_48 ?_
    exact z_rret hx hb hr hlocks dX1_rowOf_51 hK hP hD hS ⟨rfl, rfl⟩
  · refine lv_tableOut (tgt := 52) hx hb dX1_rowOf_1 (by decide) (by decide) ?_
    refine lv_aload_n hx hb dX1_rowOf_52 rfl (lv_at hl 0 rfl) ?_
    refine va_get (D := D) (ci := 1) (v := .ref aU) (C := RX1) (T := TX1) (N := 18) hx hb hts (by decide +kernel) hown hK hP 1 rfl rfl 1 (by decide) (hts (.fieldLink RX1 22 "LadderDesk$Ladder" "u" "[J") (by decide +kernel)) (fun _ h9 => h9) rfl dX1_rowOf_53 ?_
    exact z_rret hx hb hr hlocks dX1_rowOf_56 hK hP hD hS ⟨rfl, rfl⟩
set_option maxRecDepth 100000 in
set_option maxHeartbeats 4000000 in
theorem c_writePart (l : Launch) (D : va_G) (cA : ClassId) (tys : List (ClassId × FieldType)) (d0 : Nat × va_E) (ol hf : Nat) (L : List Nat) (n t : Nat → Nat) (q : Nat → Nat → Int64) (wd wh aU aA aB aC aD aE aAA aBB aDA aCB aSP aLE aRI x2 z2 x3 z3 : Nat) (hLW : LW L n t wd wh aU aA aB aC aD aE aAA aBB aDA aCB aSP aLE aRI x2 z2 x3 z3) (w : Nat) (hw : w ∈ L ∧ n w = 4) (k : Nat) (hk : k < 5) (v : Int) (hv : holds (q (rsel k x2 z2 x3 z3 aU)) v) : zCv l D ((cA, .long) :: tys) yX1_writePart wsX1_writePart ({ frames := 3, cells := 0, slots := 0, locals := 70 }) [.ref ol, .ref w, .int (nI k)] ([d0, (ol, .inr (1, [.ref hf, .ref aU, .ref x2, .ref z2, .ref x3, .ref z3, .ref aA, .ref aB, .ref aC, .ref aD, .ref aE, .ref aAA, .ref aBB, .ref aDA, .ref aCB, .ref aSP, .ref aLE, .ref aRI])), (hf, .inr (0, [.ref wd, .ref wh]))] ++ PL cA L n q) (fun u => ∃ q' : Nat → Nat → Int64, (∀ b, b ≠ w → b ≠ wh → q' b = q b) ∧ (wv (q' w) : Int) = v % pP ∧ u = [d0, (ol, .inr (1, [.ref hf, .ref aU, .ref x2, .ref z2, .ref x3, .ref z3, .ref aA, .ref aB, .ref aC, .ref aD, .ref aE, .ref aAA, .ref aBB, .ref aDA, .ref aCB, .ref aSP, .ref aLE, .ref aRI])), (hf, .inr (0, [.ref wd, .ref wh]))] ++ PL cA L n q') := by
  refine z_met (fun A => va_Qv (fun u => ∃ q' : Nat → Nat → Int64, (∀ b, b ≠ w → b ≠ wh → q' b = q b) ∧ (wv (q' w) : Int) = v % pP ∧ u = [d0, (ol, .inr (1, [.ref hf, .ref aU, .ref x2, .ref z2, .ref x3, .ref z3, .ref aA, .ref aB, .ref aC, .ref aD, .ref aE, .ref aAA, .ref aBB, .ref aDA, .ref aCB, .ref aSP, .ref aLE, .ref aRI])), (hf, .inr (0, [.ref wd, .ref wh]))] ++ PL cA L n q') (zB D ((cA, .long) :: tys) A) A) (by decide) rfl (Nat.le_of_ble_eq_true rfl) ?_
  intro p e s m below meth c hx hb hr hml hts hown hlocks hname A hA hP hK hD hS ls hl
  have hown : s.vm.findClass RX1 = some m.cls := hown
  have hl : lv_has ls 3 [(0, .ref ol), (1, .ref w), (2, .int (nI k))] := hl
  obtain ⟨⟨m_wd, m_wh, m_aU, m_aA, m_aB, m_aC, m_aD, m_aE, m_aAA, m_aBB, m_aDA, m_aCB, m_aSP, m_aLE, m_aRI, m_x2, m_z2, m_x3, m_z3⟩, ⟨t_wd, t_wh, t_aU, t_aA, t_aB, t_aC, t_aD, t_aE, t_aAA, t_aBB, t_aDA, t_aCB, t_aSP, t_aLE, t_aRI, t_x2, t_z2, t_x3, t_z3⟩, ⟨d_0, d_1, d_2, d_3, d_4, d_5⟩⟩ := id hLW
  have m_r : rsel k x2 z2 x3 z3 aU ∈ L ∧ n (rsel k x2 z2 x3 z3 aU) = 10 := by
    unfold rsel
    split
    · exact m_x2
    · split
      · exact m_z2
      · split
        · exact m_x3
        · split
          · exact m_z3
          · exact m_aU
  refine lv_aload_n hx hb dX1_writePart_0 rfl (lv_at hl 0 rfl) ?_
  refine va_get (D := D) (ci := 1) (v := .ref hf) (C := RX1) (T := TX1) (N := 18) hx hb hts (by decide +kernel) hown hK hP 1 rfl rfl 0 (by decide) (hts (.fieldLink RX1 12 "LadderDesk$Ladder" "field" "LLadderDesk$Field;") (by decide +kernel)) (fun _ h9 => h9) rfl dX1_writePart_1 ?_
  refine lv_aload_n hx hb dX1_writePart_4 rfl (lv_at hl 1 rfl) ?_
  refine lv_aload_n hx hb dX1_writePart_5 rfl (lv_at hl 0 rfl) ?_
  refine lv_iload_n hx hb dX1_writePart_6 rfl (lv_at hl 2 rfl) ?_
  refine z_callr (va_runV (As := [.int (nI k)]) (rest := [.ref w, .ref hf]) ⟨hx, hb, hml, hown, hts⟩ (c_rowOf l D cA tys d0 ol hf L n t q wd wh aU aA aB aC aD aE aAA aBB aDA aCB aSP aLE aRI x2 z2 x3 z3 hLW k hk _) (cwV 1 hts gX1_writePart_X1_rowOf rfl rfl rfl (by decide +kernel) ⟨Nat.le_of_ble_eq_true rfl, Nat.le_of_ble_eq_true rfl⟩) (z_preV _ hK hP hD (ci := 1) (q0 := 1) rfl rfl) rfl rfl hl.1 rfl (lv_room (Nat.le_of_ble_eq_true rfl)) dX1_writePart_7 ⟨Nat.le_of_ble_eq_true rfl, Nat.le_of_ble_eq_true rfl⟩) hD hS hA (fun r7 u H locs hu hP hD hS => ?_)
  obtain ⟨hr7, rfl⟩ := hu
  subst hr7
  refine z_callv (va_runV (As := [.ref w, .ref (rsel k x2 z2 x3 z3 aU)]) (rest := []) ⟨hx, hb, hml, hown, hts⟩ (c_write l D cA tys d0 (ol, .inr (1, [.ref hf, .ref aU, .ref x2, .ref z2, .ref x3, .ref z3, .ref aA, .ref aB, .ref aC, .ref aD, .ref aE, .ref aAA, .ref aBB, .ref aDA, .ref aCB, .ref aSP, .ref aLE, .ref aRI])) hf wd wh L n q w (rsel k x2 z2 x3 z3 aU) m_wh hw m_r hv.1 _) (cwV 2 hts gX1_writePart_X0_write rfl rfl rfl (by decide +kernel) ⟨Nat.le_of_ble_eq_true rfl, Nat.le_of_ble_eq_true rfl⟩) (z_preV _ hK hP hD (ci := 0) (q0 := 2) rfl rfl) rfl rfl hl.1 rfl (lv_room (Nat.le_of_ble_eq_true rfl)) dX1_writePart_10 ⟨Nat.le_of_ble_eq_true rfl, Nat.le_of_ble_eq_true rfl⟩) hD hS hA (fun u H locs hu hP hD hS => ?_)
  obtain ⟨q1, k1, v1, rfl⟩ := hu
  exact z_vret hx hb hr hlocks dX1_writePart_13 hK hP hD hS (⟨q1, k1, by rw [v1, cg_emod hv.2], rfl⟩)
set_option maxRecDepth 100000 in
set_option maxHeartbeats 4000000 in
theorem c_writeResult (l : Launch) (D : va_G) (cA : ClassId) (tys : List (ClassId × FieldType)) (d0 : Nat × va_E) (ol hf : Nat) (L : List Nat) (n t : Nat → Nat) (q : Nat → Nat → Int64) (wd wh aU aA aB aC aD aE aAA aBB aDA aCB aSP aLE aRI x2 z2 x3 z3 : Nat) (hLW : LW L n t wd wh aU aA aB aC aD aE aAA aBB aDA aCB aSP aLE aRI x2 z2 x3 z3) (w : Nat) (hw : w ∈ L ∧ n w = 4) (vx2 vz2 : Int) (hx2 : holds (q x2) vx2) (hz2 : holds (q z2) vz2) : zCv l D ((cA, .long) :: tys) yX1_writeResult wsX1_writeResult ({ frames := 4, cells := 0, slots := 0, locals := 97 }) [.ref ol, .ref w] ([d0, (ol, .inr (1, [.ref hf, .ref aU, .ref x2, .ref z2, .ref x3, .ref z3, .ref aA, .ref aB, .ref aC, .ref aD, .ref aE, .ref aAA, .ref aBB, .ref aDA, .ref aCB, .ref aSP, .ref aLE, .ref aRI])), (hf, .inr (0, [.ref wd, .ref wh]))] ++ PL cA L n q) (fun u => ∃ q' : Nat → Nat → Int64, (∀ b, t b = 2 ∨ 13 ≤ t b → b ≠ w → q' b = q b) ∧ (wv (q' w) : Int) = (vx2 * pw vz2 255) % pP ∧ u = [d0, (ol, .inr (1, [.ref hf, .ref aU, .ref x2, .ref z2, .ref x3, .ref z3, .ref aA, .ref aB, .ref aC, .ref aD, .ref aE, .ref aAA, .ref aBB, .ref aDA, .ref aCB, .ref aSP, .ref aLE, .ref aRI])), (hf, .inr (0, [.ref wd, .ref wh]))] ++ PL cA L n q') := by
  refine z_met (fun A => va_Qv (fun u => ∃ q' : Nat → Nat → Int64, (∀ b, t b = 2 ∨ 13 ≤ t b → b ≠ w → q' b = q b) ∧ (wv (q' w) : Int) = (vx2 * pw vz2 255) % pP ∧ u = [d0, (ol, .inr (1, [.ref hf, .ref aU, .ref x2, .ref z2, .ref x3, .ref z3, .ref aA, .ref aB, .ref aC, .ref aD, .ref aE, .ref aAA, .ref aBB, .ref aDA, .ref aCB, .ref aSP, .ref aLE, .ref aRI])), (hf, .inr (0, [.ref wd, .ref wh]))] ++ PL cA L n q') (zB D ((cA, .long) :: tys) A) A) (by decide) rfl (Nat.le_of_ble_eq_true rfl) ?_
  intro p e s m below meth c hx hb hr hml hts hown hlocks hname A hA hP hK hD hS ls hl
  have hown : s.vm.findClass RX1 = some m.cls := hown
  have hl : lv_has ls 2 [(0, .ref ol), (1, .ref w)] := hl
  obtain ⟨⟨m_wd, m_wh, m_aU, m_aA, m_aB, m_aC, m_aD, m_aE, m_aAA, m_aBB, m_aDA, m_aCB, m_aSP, m_aLE, m_aRI, m_x2, m_z2, m_x3, m_z3⟩, ⟨t_wd, t_wh, t_aU, t_aA, t_aB, t_aC, t_aD, t_aE, t_aAA, t_aBB, t_aDA, t_aCB, t_aSP, t_aLE, t_aRI, t_x2, t_z2, t_x3, t_z3⟩, ⟨d_0, d_1, d_2, d_3, d_4, d_5⟩⟩ := id hLW
  refine lv_aload_n hx hb dX1_writeResult_0 rfl (lv_at hl 0 rfl) ?_
  refine va_get (D := D) (ci := 1) (v := .ref hf) (C := RX1) (T := TX1) (N := 18) hx hb hts (by decide +kernel) hown hK hP 1 rfl rfl 0 (by decide) (hts (.fieldLink RX1 12 "LadderDesk$Ladder" "field" "LLadderDesk$Field;") (by decide +kernel)) (fun _ h9 => h9) rfl dX1_writeResult_1 ?_
  refine lv_aload_n hx hb dX1_writeResult_4 rfl (lv_at hl 0 rfl) ?_
  refine va_get (D := D) (ci := 1) (v := .ref aSP) (C := RX1) (T := TX1) (N := 18) hx hb hts (by decide +kernel) hown hK hP 1 rfl rfl 15 (by decide) (hts (.fieldLink RX1 65 "LadderDesk$Ladder" "spare" "[J") (by decide +kernel)) (fun _ h9 => h9) rfl dX1_writeResult_5 ?_
  refine lv_aload_n hx hb dX1_writeResult_8 rfl (lv_at hl 0 rfl) ?_
  refine va_get (D := D) (ci := 1) (v := .ref z2) (C := RX1) (T := TX1) (N := 18) hx hb hts (by decide +kernel) hown hK hP 1 rfl rfl 3 (by decide) (hts (.fieldLink RX1 29 "LadderDesk$Ladder" "z2" "[J") (by decide +kernel)) (fun _ h9 => h9) rfl dX1_writeResult_9 ?_
  refine z_callv (va_runV (As := [.ref aSP, .ref z2]) (rest := []) ⟨hx, hb, hml, hown, hts⟩ (c_invert l D cA tys d0 (ol, .inr (1, [.ref hf, .ref aU, .ref x2, .ref z2, .ref x3, .ref z3, .ref aA, .ref aB, .ref aC, .ref aD, .ref aE, .ref aAA, .ref aBB, .ref aDA, .ref aCB, .ref aSP, .ref aLE, .ref aRI])) hf wd wh L n q aSP z2 vz2 m_wd m_aSP m_z2 (show z2 ≠ aSP from fun h => by have := congrArg t h; omega) hz2.1 hz2.2 _) (cwV 2 hts gX1_writeResult_X0_invert rfl rfl rfl (by decide +kernel) ⟨Nat.le_of_ble_eq_true rfl, Nat.le_of_ble_eq_true rfl⟩) (z_preV _ hK hP hD (ci := 0) (q0 := 2) rfl rfl) rfl rfl hl.1 rfl (lv_room (Nat.le_of_ble_eq_true rfl)) dX1_writeResult_12 ⟨Nat.le_of_ble_eq_true rfl, Nat.le_of_ble_eq_true rfl⟩) hD hS hA (fun u H locs hu hP hD hS => ?_)
  obtain ⟨q1, k1, s1, v1, rfl⟩ := hu
  have e1 : q1 x2 = q x2 := k1 x2 (show x2 ≠ aSP from fun h => by have := congrArg t h; omega) (show x2 ≠ wd from fun h => by have := congrArg t h; omega)
  refine lv_aload_n hx hb dX1_writeResult_15 rfl (lv_at hl 0 rfl) ?_
  refine va_get (D := D) (ci := 1) (v := .ref hf) (C := RX1) (T := TX1) (N := 18) hx hb hts (by decide +kernel) hown hK hP 1 rfl rfl 0 (by decide) (hts (.fieldLink RX1 12 "LadderDesk$Ladder" "field" "LLadderDesk$Field;") (by decide +kernel)) (fun _ h9 => h9) rfl dX1_writeResult_16 ?_
  refine lv_aload_n hx hb dX1_writeResult_19 rfl (lv_at hl 0 rfl) ?_
  refine va_get (D := D) (ci := 1) (v := .ref aSP) (C := RX1) (T := TX1) (N := 18) hx hb hts (by decide +kernel) hown hK hP 1 rfl rfl 15 (by decide) (hts (.fieldLink RX1 65 "LadderDesk$Ladder" "spare" "[J") (by decide +kernel)) (fun _ h9 => h9) rfl dX1_writeResult_20 ?_
  refine lv_aload_n hx hb dX1_writeResult_23 rfl (lv_at hl 0 rfl) ?_
  refine va_get (D := D) (ci := 1) (v := .ref x2) (C := RX1) (T := TX1) (N := 18) hx hb hts (by decide +kernel) hown hK hP 1 rfl rfl 2 (by decide) (hts (.fieldLink RX1 26 "LadderDesk$Ladder" "x2" "[J") (by decide +kernel)) (fun _ h9 => h9) rfl dX1_writeResult_24 ?_
  refine lv_aload_n hx hb dX1_writeResult_27 rfl (lv_at hl 0 rfl) ?_
  refine va_get (D := D) (ci := 1) (v := .ref aSP) (C := RX1) (T := TX1) (N := 18) hx hb hts (by decide +kernel) hown hK hP 1 rfl rfl 15 (by decide) (hts (.fieldLink RX1 65 "LadderDesk$Ladder" "spare" "[J") (by decide +kernel)) (fun _ h9 => h9) rfl dX1_writeResult_28 ?_
  refine z_callv (va_runV (As := [.ref aSP, .ref x2, .ref aSP]) (rest := []) ⟨hx, hb, hml, hown, hts⟩ (c_multiply l D cA tys d0 (ol, .inr (1, [.ref hf, .ref aU, .ref x2, .ref z2, .ref x3, .ref z3, .ref aA, .ref aB, .ref aC, .ref aD, .ref aE, .ref aAA, .ref aBB, .ref aDA, .ref aCB, .ref aSP, .ref aLE, .ref aRI])) hf wd wh L n q1 aSP x2 aSP m_wd m_aSP m_x2 m_aSP (by rw [e1]; exact settled_loose hx2.1) (settled_loose s1) _) (cwV 3 hts gX1_writeResult_X0_multiply rfl rfl rfl (by decide +kernel) ⟨Nat.le_of_ble_eq_true rfl, Nat.le_of_ble_eq_true rfl⟩) (z_preV _ hK hP hD (ci := 0) (q0 := 2) rfl rfl) rfl rfl hl.1 rfl (lv_room (Nat.le_of_ble_eq_true rfl)) dX1_writeResult_31 ⟨Nat.le_of_ble_eq_true rfl, Nat.le_of_ble_eq_true rfl⟩) hD hS hA (fun u H locs hu hP hD hS => ?_)
  obtain ⟨q2, k2, s2, v2, rfl⟩ := hu
  rw [e1] at v2
  have v2 := cg_trans v2 (cg_mul hx2.2 v1)
  refine lv_aload_n hx hb dX1_writeResult_34 rfl (lv_at hl 0 rfl) ?_
  refine va_get (D := D) (ci := 1) (v := .ref hf) (C := RX1) (T := TX1) (N := 18) hx hb hts (by decide +kernel) hown hK hP 1 rfl rfl 0 (by decide) (hts (.fieldLink RX1 12 "LadderDesk$Ladder" "field" "LLadderDesk$Field;") (by decide +kernel)) (fun _ h9 => h9) rfl dX1_writeResult_35 ?_
  refine lv_aload_n hx hb dX1_writeResult_38 rfl (lv_at hl 1 rfl) ?_
  refine lv_aload_n hx hb dX1_writeResult_39 rfl (lv_at hl 0 rfl) ?_
  refine va_get (D := D) (ci := 1) (v := .ref aSP) (C := RX1) (T := TX1) (N := 18) hx hb hts (by decide +kernel) hown hK hP 1 rfl rfl 15 (by decide) (hts (.fieldLink RX1 65 "LadderDesk$Ladder" "spare" "[J") (by decide +kernel)) (fun _ h9 => h9) rfl dX1_writeResult_40 ?_
  refine z_callv (va_runV (As := [.ref w, .ref aSP]) (rest := []) ⟨hx, hb, hml, hown, hts⟩ (c_write l D cA tys d0 (ol, .inr (1, [.ref hf, .ref aU, .ref x2, .ref z2, .ref x3, .ref z3, .ref aA, .ref aB, .ref aC, .ref aD, .ref aE, .ref aAA, .ref aBB, .ref aDA, .ref aCB, .ref aSP, .ref aLE, .ref aRI])) hf wd wh L n q2 w aSP m_wh hw m_aSP s2 _) (cwV 2 hts gX1_writeResult_X0_write rfl rfl rfl (by decide +kernel) ⟨Nat.le_of_ble_eq_true rfl, Nat.le_of_ble_eq_true rfl⟩) (z_preV _ hK hP hD (ci := 0) (q0 := 2) rfl rfl) rfl rfl hl.1 rfl (lv_room (Nat.le_of_ble_eq_true rfl)) dX1_writeResult_43 ⟨Nat.le_of_ble_eq_true rfl, Nat.le_of_ble_eq_true rfl⟩) hD hS hA (fun u H locs hu hP hD hS => ?_)
  obtain ⟨q3, k3, v3, rfl⟩ := hu
  exact z_vret hx hb hr hlocks dX1_writeResult_46 hK hP hD hS (⟨q3, fun b hb h1 => by rw [k3 b h1 (show b ≠ wh from fun h => by have := congrArg t h; omega), k2 b (show b ≠ aSP from fun h => by have := congrArg t h; omega) (show b ≠ wd from fun h => by have := congrArg t h; omega), k1 b (show b ≠ aSP from fun h => by have := congrArg t h; omega) (show b ≠ wd from fun h => by have := congrArg t h; omega)], by rw [v3, cg_emod v2], rfl⟩)
set_option maxRecDepth 100000 in
set_option maxHeartbeats 4000000 in
theorem c_isZero (l : Launch) (D : va_G) (cA : ClassId) (tys : List (ClassId × FieldType)) (X : va_W) (L : List Nat) (n : Nat → Nat) (q : Nat → Nat → Int64) (w : Nat) (hw : w ∈ L ∧ n w = 4) : zCi l D ((cA, .long) :: tys) yX1_isZero wsX1_isZero ({ frames := 0, cells := 0, slots := 0, locals := 0 }) [.ref w] (X ++ PL cA L n q) (fun r u => u = X ++ PL cA L n q ∧ ((r = 1 ∧ wv (q w) = 0) ∨ (r = 0 ∧ wv (q w) ≠ 0))) := by
  refine z_met (fun A => va_Qi (fun r u => u = X ++ PL cA L n q ∧ ((r = 1 ∧ wv (q w) = 0) ∨ (r = 0 ∧ wv (q w) ≠ 0))) (zB D ((cA, .long) :: tys) A) A) (by decide) rfl (Nat.le_of_ble_eq_true rfl) ?_
  intro p e s m below meth c hx hb hr hml hts hown hlocks hname A hA hP hK hD hS ls hl
  have hown : s.vm.findClass RX1 = some m.cls := hown
  have hl : lv_has ls 1 [(0, .ref w)] := hl
  refine lv_aload_n hx hb dX1_isZero_0 rfl (lv_at hl 0 rfl) ?_
  refine lv_iconst (v := nI 0) hx hb dX1_isZero_1 (by decide) ?_
  refine z_ld hx hb hK hP hw 0 rfl (by omega) (by omega) dX1_isZero_2 ?_
  refine lv_topl (fun v2 e2 => ?_)
  refine lv_aload_n hx hb dX1_isZero_3 rfl (lv_at hl 0 rfl) ?_
  refine lv_iconst (v := nI 1) hx hb dX1_isZero_4 (by decide) ?_
  refine z_ld hx hb hK hP hw 1 rfl (by omega) (by omega) dX1_isZero_5 ?_
  refine lv_topl (fun v5 e5 => ?_)
  refine lv_lor hx hb dX1_isZero_6 ?_
  refine lv_topl (fun v6 e6 => ?_)
  refine lv_aload_n hx hb dX1_isZero_7 rfl (lv_at hl 0 rfl) ?_
  refine lv_iconst (v := nI 2) hx hb dX1_isZero_8 (by decide) ?_
  refine z_ld hx hb hK hP hw 2 rfl (by omega) (by omega) dX1_isZero_9 ?_
  refine lv_topl (fun v9 e9 => ?_)
  refine lv_lor hx hb dX1_isZero_10 ?_
  refine lv_topl (fun v10 e10 => ?_)
  refine lv_aload_n hx hb dX1_isZero_11 rfl (lv_at hl 0 rfl) ?_
  refine lv_iconst (v := nI 3) hx hb dX1_isZero_12 (by decide) ?_
  refine z_ld hx hb hK hP hw 3 rfl (by omega) (by omega) dX1_isZero_13 ?_
  refine lv_topl (fun v13 e13 => ?_)
  refine lv_lor hx hb dX1_isZero_14 ?_
  refine lv_topl (fun v14 e14 => ?_)
  refine lv_lconst (v := 0) hx hb dX1_isZero_15 (by decide) ?_
  refine W.lcmp hx hb dX1_isZero_16 ?_
  refine lv_if_ne (tgt := 24) hx hb dX1_isZero_17 (by decide) (fun c17 => ?_) (fun c17 => ?_)
  · have hc := cmp_ne c17
    refine lv_iconst (v := nI 0) hx hb dX1_isZero_24 (by decide) ?_
    exact z_zret hx hb hr hlocks dX1_isZero_25 rfl hK hP hD hS (⟨rfl, Or.inr ⟨rfl, fun h => hc (by rw [e14, e10, e6, e2, e5, e9, e13]; exact wv_0.mpr h)⟩⟩)
  · have hc := (lg_cmp_eq _ _).mp c17
    refine lv_iconst (v := nI 1) hx hb dX1_isZero_20 (by decide) ?_
    refine lv_goto (tgt := 25) hx hb dX1_isZero_21 (by decide) ?_
    exact z_zret hx hb hr hlocks dX1_isZero_25 rfl hK hP hD hS (⟨rfl, Or.inl ⟨rfl, wv_0.mp (by rw [← e2, ← e5, ← e6, ← e9, ← e10, ← e13, ← e14]; exact hc)⟩⟩)
set_option maxRecDepth 100000 in
set_option maxHeartbeats 4000000 in
theorem c_areEqual (l : Launch) (D : va_G) (cA : ClassId) (tys : List (ClassId × FieldType)) (X : va_W) (L : List Nat) (n : Nat → Nat) (q : Nat → Nat → Int64) (w w2 : Nat) (hw : w ∈ L ∧ n w = 4) (hw2 : w2 ∈ L ∧ n w2 = 4) : zCi l D ((cA, .long) :: tys) yX1_areEqual wsX1_areEqual ({ frames := 0, cells := 0, slots := 0, locals := 0 }) [.ref w, .ref w2] (X ++ PL cA L n q) (fun r u => u = X ++ PL cA L n q ∧ ((r = 1 ∧ wv (q w) = wv (q w2)) ∨ (r = 0 ∧ wv (q w) ≠ wv (q w2)))) := by
  refine z_met (fun A => va_Qi (fun r u => u = X ++ PL cA L n q ∧ ((r = 1 ∧ wv (q w) = wv (q w2)) ∨ (r = 0 ∧ wv (q w) ≠ wv (q w2)))) (zB D ((cA, .long) :: tys) A) A) (by decide) rfl (Nat.le_of_ble_eq_true rfl) ?_
  intro p e s m below meth c hx hb hr hml hts hown hlocks hname A hA hP hK hD hS ls hl
  have hown : s.vm.findClass RX1 = some m.cls := hown
  have hl : lv_has ls 3 [(0, .ref w), (1, .ref w2)] := hl
  refine lv_iconst (v := nI 0) hx hb dX1_areEqual_0 (by decide) ?_
  refine lv_istore_n (lv' := [(2, .int (nI 0)), (0, .ref w), (1, .ref w2)]) hx hb dX1_areEqual_1 rfl hl (by decide) rfl (fun ls hl => ?_)
  refine z_loop (fun i H locs ls => (∀ k, k < i → q w k = q w2 k) ∧ zH D A s.heap (X ++ PL cA L n q) H locs ∧ lv_has ls 3 [(2, .int (nI i)), (0, .ref w), (1, .ref w2)]) 4 ?_ ?_ ?_
  · exact ⟨fun k h => by omega, ⟨hP, hD, hS⟩, hl⟩
  · rintro i H locs ls hi ⟨hI, ⟨hP, hD, hS⟩, hl⟩ ih
    refine lv_iload_n hx hb dX1_areEqual_2 rfl (lv_at hl 0 rfl) ?_
    refine lv_iconst (v := nI 4) hx hb dX1_areEqual_3 (by decide) ?_
    refine lv_icmp_ge (tgt := 25) hx hb dX1_areEqual_4 (by decide) (fun c4 => absurd ((nI_leI (by omega) (by omega)).mp c4) (by omega)) (fun c4 => ?_)
    refine lv_aload_n hx hb dX1_areEqual_7 rfl (lv_at hl 1 rfl) ?_
    refine lv_iload_n hx hb dX1_areEqual_8 rfl (lv_at hl 0 rfl) ?_
    refine z_ld hx hb hK hP hw i rfl (by omega) (by omega) dX1_areEqual_9 ?_
    refine lv_topl (fun v9 e9 => ?_)
    refine lv_aload_n hx hb dX1_areEqual_10 rfl (lv_at hl 2 rfl) ?_
    refine lv_iload_n hx hb dX1_areEqual_11 rfl (lv_at hl 0 rfl) ?_
    refine z_ld hx hb hK hP hw2 i rfl (by omega) (by omega) dX1_areEqual_12 ?_
    refine lv_topl (fun v12 e12 => ?_)
    refine W.lcmp hx hb dX1_areEqual_13 ?_
    refine lv_if_eq (tgt := 19) hx hb dX1_areEqual_14 (by decide) (fun c14 => ?_) (fun c14 => ?_)
    · have hc := (lg_cmp_eq _ _).mp c14
      refine lv_iinc (v := nI (i + 1)) (lv' := [(2, .int (nI (i + 1))), (0, .ref w), (1, .ref w2)]) hx hb dX1_areEqual_19 hl (k := 0) rfl (by show nI _ + nI 1 = _; exact nI_add _ _) (by decide) rfl (fun ls hl => ?_)
      refine lv_goto (tgt := 2) hx hb dX1_areEqual_22 (by decide) ?_
      exact ih _ _ _ ⟨fun k hk => by by_cases e : k = i; (subst e; rw [← e9, ← e12]; exact hc); exact hI k (by omega), ⟨hP, hD, hS⟩, hl⟩
    · have hc := cmp_ne c14
      refine lv_iconst (v := nI 0) hx hb dX1_areEqual_17 (by decide) ?_
      exact z_zret hx hb hr hlocks dX1_areEqual_18 rfl hK hP hD hS (⟨rfl, Or.inr ⟨rfl, fun h => hc (by rw [e9, e12]; exact wv_inj h i hi)⟩⟩)
  · rintro H locs ls ⟨hI, ⟨hP, hD, hS⟩, hl⟩
    refine lv_iload_n hx hb dX1_areEqual_2 rfl (lv_at hl 0 rfl) ?_
    refine lv_iconst (v := nI 4) hx hb dX1_areEqual_3 (by decide) ?_
    refine lv_icmp_ge (tgt := 25) hx hb dX1_areEqual_4 (by decide) (fun c4 => ?_) (fun c4 => absurd ((nI_leI (by omega) (by omega)).mpr (by omega)) c4)
    refine lv_iconst (v := nI 1) hx hb dX1_areEqual_25 (by decide) ?_
    exact z_zret hx hb hr hlocks dX1_areEqual_26 rfl hK hP hD hS (⟨rfl, Or.inl ⟨rfl, wv_congr hI⟩⟩)
