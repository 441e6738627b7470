/-- a desk, whole, at the address od, in the state (ph, st, rs, sc, pt) -/
def CI (cA : ClassId) (od ph st : Nat) (rs : Int32) (sc pt : Nat → Int64) (ws : va_W) : Prop := ∃ (ol hf : Nat) (L : List Nat) (n t : Nat → Nat) (q : Nat → Nat → Int64) (wd wh aU aA aB aC aD aE aAA aBB aDA aCB aSP aLE aRI x2 z2 x3 z3 aSC aPT aRS aAN : Nat), ws = [(od, .inr (2, [.ref aSC, .ref aPT, .ref aRS, .ref aAN, .ref ol, .int (nI ph), .int (nI st), .int rs])), (ol, .inr (1, [.ref hf, .ref aU, .ref x2, .ref z2, .ref x3, .ref z3, .ref aA, .ref aB, .ref aC, .ref aD, .ref aE, .ref aAA, .ref aBB, .ref aDA, .ref aCB, .ref aSP, .ref aLE, .ref aRI])), (hf, .inr (0, [.ref wd, .ref wh]))] ++ PL cA L n q ∧ LW L n t wd wh aU aA aB aC aD aE aAA aBB aDA aCB aSP aLE aRI x2 z2 x3 z3 ∧ DW L n t aSC aPT aRS aAN ∧ DV ph st sc pt q aU x2 z2 x3 z3 aSC aPT aRS
theorem DV_0 {st : Nat} {sc pt : Nat → Int64} {q : Nat → Nat → Int64} {aU x2 z2 x3 z3 aSC aPT aRS : Nat} (h1 : ∀ k, k < 4 → q aSC k = sc k) (h2 : ∀ k, k < 4 → q aPT k = pt k) (h3 : st ≤ 255) : DV 0 st sc pt q aU x2 z2 x3 z3 aSC aPT aRS := ⟨h1, h2, fun h => absurd rfl h, fun h => by omega, by omega, h3, fun h => by omega⟩
theorem DV_kp {ph st : Nat} {sc pt : Nat → Int64} {q q' : Nat → Nat → Int64} {aU x2 z2 x3 z3 aSC aPT aRS : Nat} (h : DV ph st sc pt q aU x2 z2 x3 z3 aSC aPT aRS) (e1 : q' aSC = q aSC) (e2 : q' aPT = q aPT) (e3 : q' aU = q aU) (e4 : q' x2 = q x2) (e5 : q' z2 = q z2) (e6 : q' x3 = q x3) (e7 : q' z3 = q z3) (e8 : q' aRS = q aRS) : DV ph st sc pt q' aU x2 z2 x3 z3 aSC aPT aRS := by
  unfold DV
  rw [e1, e2, e3, e4, e5, e6, e7, e8]
  exact h
theorem pb_congr {f g : Nat → Int64} (h : ∀ k, k < 4 → f k = g k) {i : Nat} (hi : i ≤ 254) : pb f i = pb g i := by
  unfold pb
  rw [h (i / 64) (by omega)]
theorem cl_congr {f g : Nat → Int64} (h : ∀ k, k < 4 → f k = g k) {j : Nat} (hj : j < 4) : cl f j = cl g j := by
  unfold cl
  rw [h 0 (by omega), h 3 (by omega), h j hj]
set_option maxRecDepth 100000 in
set_option maxHeartbeats 4000000 in
theorem C_scalar (l : Launch) (D : va_G) (cA : ClassId) (tys : List (ClassId × FieldType)) (od ph st : Nat) (rs : Int32) (sc pt : Nat → Int64) (ws : va_W) (hCI : CI cA od ph st rs sc pt ws) (k : Int32) (v : Int64) : zCi l D ((cA, .long) :: tys) yX2_scalar wsX2_scalar ({ frames := 2, cells := 0, slots := 0, locals := 44 }) [.ref od, .int k, .long v] (ws) (fun r u => r = aTell ph k ∧ CI cA od ph st rs (sTell ph k sc v) pt u) := by
  obtain ⟨ol, hf, L, n, t, q, wd, wh, aU, aA, aB, aC, aD, aE, aAA, aBB, aDA, aCB, aSP, aLE, aRI, x2, z2, x3, z3, aSC, aPT, aRS, aAN, rfl, hLW, hDW, hDV⟩ := hCI
  obtain ⟨v_sc, v_pt, v_lad, v_rs, v_ph, v_st, v_2⟩ := id hDV
  refine z_met (fun A => va_Qi (fun r u => r = aTell ph k ∧ CI cA od ph st rs (sTell ph k sc v) pt u) (zB D ((cA, .long) :: tys) A) A) (by decide) rfl (Nat.le_of_ble_eq_true rfl) ?_
  intro p e s m below meth c hx hb hr hml hts hown hlocks hname A hA hP hK hD hS ls hl
  have hown : s.vm.findClass RX2 = some m.cls := hown
  have hl : lv_has ls 4 [(0, .ref od), (1, .int k), (2, .long v)] := hl
  obtain ⟨⟨m_wd, m_wh, m_aU, m_aA, m_aB, m_aC, m_aD, m_aE, m_aAA, m_aBB, m_aDA, m_aCB, m_aSP, m_aLE, m_aRI, m_x2, m_z2, m_x3, m_z3⟩, ⟨t_wd, t_wh, t_aU, t_aA, t_aB, t_aC, t_aD, t_aE, t_aAA, t_aBB, t_aDA, t_aCB, t_aSP, t_aLE, t_aRI, t_x2, t_z2, t_x3, t_z3⟩, ⟨d_0, d_1, d_2, d_3, d_4, d_5⟩⟩ := id hLW
  obtain ⟨⟨m_aSC, m_aPT, m_aRS, m_aAN⟩, ⟨t_aSC, t_aPT, t_aRS, t_aAN⟩⟩ := id hDW
  refine lv_aload_n hx hb dX2_scalar_0 rfl (lv_at hl 0 rfl) ?_
  refine lv_aload_n hx hb dX2_scalar_1 rfl (lv_at hl 0 rfl) ?_
  refine va_get (D := D) (ci := 2) (v := .ref aSC) (C := RX2) (T := TX2) (N := 8) hx hb hts (by decide +kernel) hown hK hP 0 rfl rfl 0 (by decide) (hts (.fieldLink RX2 9 "LadderDesk" "scalarTold" "[J") (by decide +kernel)) (fun _ h9 => h9) rfl dX2_scalar_2 ?_
  refine lv_iload_n hx hb dX2_scalar_5 rfl (lv_at hl 1 rfl) ?_
  refine lv_lload_n hx hb dX2_scalar_6 rfl (lv_at hl 2 rfl) ?_
  refine z_calli (va_runV (As := [.ref aSC, .int k, .long v]) (rest := []) ⟨hx, hb, hml, hown, hts⟩ (c_tell l D cA tys (ol, .inr (1, [.ref hf, .ref aU, .ref x2, .ref z2, .ref x3, .ref z3, .ref aA, .ref aB, .ref aC, .ref aD, .ref aE, .ref aAA, .ref aBB, .ref aDA, .ref aCB, .ref aSP, .ref aLE, .ref aRI])) (hf, .inr (0, [.ref wd, .ref wh])) od aSC aPT aRS aAN ol ph st rs L n q aSC m_aSC k v v_ph _) (cwV 3 hts gX2_scalar_X2_tell rfl rfl rfl (by decide +kernel) ⟨Nat.le_of_ble_eq_true rfl, Nat.le_of_ble_eq_true rfl⟩) (z_preV _ hK hP hD (ci := 2) (q0 := 0) rfl rfl) rfl rfl hl.1 rfl (lv_room (Nat.le_of_ble_eq_true rfl)) dX2_scalar_7 ⟨Nat.le_of_ble_eq_true rfl, Nat.le_of_ble_eq_true rfl⟩) hD hS hA (fun r7 u H locs hu hP hD hS => ?_)
  rcases hu with ⟨rfl, j, hj, rfl, rfl, rfl⟩ | ⟨hn, rfl, rfl⟩
  · have e1 : sTell 0 (nI j) sc v = vp_updL sc j v := by unfold sTell; rw [if_pos ⟨rfl, isL_t hj⟩, nI_clamp (by omega)]
    have e2 : aTell 0 (nI j) = 1 := by unfold aTell; rw [if_pos ⟨rfl, isL_t hj⟩]
    exact z_iret hx hb hr hlocks dX2_scalar_10 hK hP hD hS ⟨e2.symm, by rw [e1]; exact ⟨ol, hf, L, n, t, _, wd, wh, aU, aA, aB, aC, aD, aE, aAA, aBB, aDA, aCB, aSP, aLE, aRI, x2, z2, x3, z3, aSC, aPT, aRS, aAN, rfl, hLW, hDW, DV_0 (fun k hk => by rw [va_up_self]; unfold vp_updL; rw [v_sc k hk]) (fun k hk => by rw [va_up_ne _ _ (show aPT ≠ aSC from fun h => by have := congrArg t h; omega)]; exact v_pt k hk) v_st⟩⟩
  · have hn2 : ¬ (ph = 0 ∧ isL k = true) := fun ⟨h1, h2⟩ => hn ⟨h1, by obtain ⟨h3, h4⟩ := of_decide_eq_true h2; exact in_of h3 h4 (by omega)⟩
    have e1 : sTell ph k sc v = sc := by unfold sTell; rw [if_neg hn2]
    have e2 : aTell ph k = 0 := by unfold aTell; rw [if_neg hn2]
    exact z_iret hx hb hr hlocks dX2_scalar_10 hK hP hD hS ⟨e2.symm, by rw [e1]; exact ⟨ol, hf, L, n, t, q, wd, wh, aU, aA, aB, aC, aD, aE, aAA, aBB, aDA, aCB, aSP, aLE, aRI, x2, z2, x3, z3, aSC, aPT, aRS, aAN, rfl, hLW, hDW, hDV⟩⟩
set_option maxRecDepth 100000 in
set_option maxHeartbeats 4000000 in
theorem C_point (l : Launch) (D : va_G) (cA : ClassId) (tys : List (ClassId × FieldType)) (od ph st : Nat) (rs : Int32) (sc pt : Nat → Int64) (ws : va_W) (hCI : CI cA od ph st rs sc pt ws) (k : Int32) (v : Int64) : zCi l D ((cA, .long) :: tys) yX2_point wsX2_point ({ frames := 2, cells := 0, slots := 0, locals := 44 }) [.ref od, .int k, .long v] (ws) (fun r u => r = aTell ph k ∧ CI cA od ph st rs sc (sTell ph k pt v) u) := by
  obtain ⟨ol, hf, L, n, t, q, wd, wh, aU, aA, aB, aC, aD, aE, aAA, aBB, aDA, aCB, aSP, aLE, aRI, x2, z2, x3, z3, aSC, aPT, aRS, aAN, rfl, hLW, hDW, hDV⟩ := hCI
  obtain ⟨v_sc, v_pt, v_lad, v_rs, v_ph, v_st, v_2⟩ := id hDV
  refine z_met (fun A => va_Qi (fun r u => r = aTell ph k ∧ CI cA od ph st rs sc (sTell ph k pt v) u) (zB D ((cA, .long) :: tys) A) A) (by decide) rfl (Nat.le_of_ble_eq_true rfl) ?_
  intro p e s m below meth c hx hb hr hml hts hown hlocks hname A hA hP hK hD hS ls hl
  have hown : s.vm.findClass RX2 = some m.cls := hown
  have hl : lv_has ls 4 [(0, .ref od), (1, .int k), (2, .long v)] := hl
  obtain ⟨⟨m_wd, m_wh, m_aU, m_aA, m_aB, m_aC, m_aD, m_aE, m_aAA, m_aBB, m_aDA, m_aCB, m_aSP, m_aLE, m_aRI, m_x2, m_z2, m_x3, m_z3⟩, ⟨t_wd, t_wh, t_aU, t_aA, t_aB, t_aC, t_aD, t_aE, t_aAA, t_aBB, t_aDA, t_aCB, t_aSP, t_aLE, t_aRI, t_x2, t_z2, t_x3, t_z3⟩, ⟨d_0, d_1, d_2, d_3, d_4, d_5⟩⟩ := id hLW
  obtain ⟨⟨m_aSC, m_aPT, m_aRS, m_aAN⟩, ⟨t_aSC, t_aPT, t_aRS, t_aAN⟩⟩ := id hDW
  refine lv_aload_n hx hb dX2_point_0 rfl (lv_at hl 0 rfl) ?_
  refine lv_aload_n hx hb dX2_point_1 rfl (lv_at hl 0 rfl) ?_
  refine va_get (D := D) (ci := 2) (v := .ref aPT) (C := RX2) (T := TX2) (N := 8) hx hb hts (by decide +kernel) hown hK hP 0 rfl rfl 1 (by decide) (hts (.fieldLink RX2 13 "LadderDesk" "pointTold" "[J") (by decide +kernel)) (fun _ h9 => h9) rfl dX2_point_2 ?_
  refine lv_iload_n hx hb dX2_point_5 rfl (lv_at hl 1 rfl) ?_
  refine lv_lload_n hx hb dX2_point_6 rfl (lv_at hl 2 rfl) ?_
  refine z_calli (va_runV (As := [.ref aPT, .int k, .long v]) (rest := []) ⟨hx, hb, hml, hown, hts⟩ (c_tell l D cA tys (ol, .inr (1, [.ref hf, .ref aU, .ref x2, .ref z2, .ref x3, .ref z3, .ref aA, .ref aB, .ref aC, .ref aD, .ref aE, .ref aAA, .ref aBB, .ref aDA, .ref aCB, .ref aSP, .ref aLE, .ref aRI])) (hf, .inr (0, [.ref wd, .ref wh])) od aSC aPT aRS aAN ol ph st rs L n q aPT m_aPT k v v_ph _) (cwV 3 hts gX2_point_X2_tell rfl rfl rfl (by decide +kernel) ⟨Nat.le_of_ble_eq_true rfl, Nat.le_of_ble_eq_true rfl⟩) (z_preV _ hK hP hD (ci := 2) (q0 := 0) rfl rfl) rfl rfl hl.1 rfl (lv_room (Nat.le_of_ble_eq_true rfl)) dX2_point_7 ⟨Nat.le_of_ble_eq_true rfl, Nat.le_of_ble_eq_true rfl⟩) hD hS hA (fun r7 u H locs hu hP hD hS => ?_)
  rcases hu with ⟨rfl, j, hj, rfl, rfl, rfl⟩ | ⟨hn, rfl, rfl⟩
  · have e1 : sTell 0 (nI j) pt v = vp_updL pt j v := by unfold sTell; rw [if_pos ⟨rfl, isL_t hj⟩, nI_clamp (by omega)]
    have e2 : aTell 0 (nI j) = 1 := by unfold aTell; rw [if_pos ⟨rfl, isL_t hj⟩]
    exact z_iret hx hb hr hlocks dX2_point_10 hK hP hD hS ⟨e2.symm, by rw [e1]; exact ⟨ol, hf, L, n, t, _, wd, wh, aU, aA, aB, aC, aD, aE, aAA, aBB, aDA, aCB, aSP, aLE, aRI, x2, z2, x3, z3, aSC, aPT, aRS, aAN, rfl, hLW, hDW, DV_0 (fun k hk => by rw [va_up_ne _ _ (show aSC ≠ aPT from fun h => by have := congrArg t h; omega)]; exact v_sc k hk) (fun k hk => by rw [va_up_self]; unfold vp_updL; rw [v_pt k hk]) v_st⟩⟩
  · have hn2 : ¬ (ph = 0 ∧ isL k = true) := fun ⟨h1, h2⟩ => hn ⟨h1, by obtain ⟨h3, h4⟩ := of_decide_eq_true h2; exact in_of h3 h4 (by omega)⟩
    have e1 : sTell ph k pt v = pt := by unfold sTell; rw [if_neg hn2]
    have e2 : aTell ph k = 0 := by unfold aTell; rw [if_neg hn2]
    exact z_iret hx hb hr hlocks dX2_point_10 hK hP hD hS ⟨e2.symm, by rw [e1]; exact ⟨ol, hf, L, n, t, q, wd, wh, aU, aA, aB, aC, aD, aE, aAA, aBB, aDA, aCB, aSP, aLE, aRI, x2, z2, x3, z3, aSC, aPT, aRS, aAN, rfl, hLW, hDW, hDV⟩⟩
set_option maxRecDepth 100000 in
set_option maxHeartbeats 4000000 in
theorem C_start (l : Launch) (D : va_G) (cA : ClassId) (tys : List (ClassId × FieldType)) (od ph st : Nat) (rs : Int32) (sc pt : Nat → Int64) (ws : va_W) (hCI : CI cA od ph st rs sc pt ws)  : zCi l D ((cA, .long) :: tys) yX2_start wsX2_start ({ frames := 3, cells := 0, slots := 0, locals := 67 }) [.ref od] (ws) (fun r u => (ph = 0 ∧ r = 1 ∧ CI cA od 1 0 rs sc pt u) ∨ (ph ≠ 0 ∧ r = 0 ∧ CI cA od ph st rs sc pt u)) := by
  obtain ⟨ol, hf, L, n, t, q, wd, wh, aU, aA, aB, aC, aD, aE, aAA, aBB, aDA, aCB, aSP, aLE, aRI, x2, z2, x3, z3, aSC, aPT, aRS, aAN, rfl, hLW, hDW, hDV⟩ := hCI
  obtain ⟨v_sc, v_pt, v_lad, v_rs, v_ph, v_st, v_2⟩ := id hDV
  refine z_met (fun A => va_Qi (fun r u => (ph = 0 ∧ r = 1 ∧ CI cA od 1 0 rs sc pt u) ∨ (ph ≠ 0 ∧ r = 0 ∧ CI cA od ph st rs sc pt u)) (zB D ((cA, .long) :: tys) A) A) (by decide) rfl (Nat.le_of_ble_eq_true rfl) ?_
  intro p e s m below meth c hx hb hr hml hts hown hlocks hname A hA hP hK hD hS ls hl
  have hown : s.vm.findClass RX2 = some m.cls := hown
  have hl : lv_has ls 1 [(0, .ref od)] := hl
  obtain ⟨⟨m_wd, m_wh, m_aU, m_aA, m_aB, m_aC, m_aD, m_aE, m_aAA, m_aBB, m_aDA, m_aCB, m_aSP, m_aLE, m_aRI, m_x2, m_z2, m_x3, m_z3⟩, ⟨t_wd, t_wh, t_aU, t_aA, t_aB, t_aC, t_aD, t_aE, t_aAA, t_aBB, t_aDA, t_aCB, t_aSP, t_aLE, t_aRI, t_x2, t_z2, t_x3, t_z3⟩, ⟨d_0, d_1, d_2, d_3, d_4, d_5⟩⟩ := id hLW
  obtain ⟨⟨m_aSC, m_aPT, m_aRS, m_aAN⟩, ⟨t_aSC, t_aPT, t_aRS, t_aAN⟩⟩ := id hDW
  refine lv_aload_n hx hb dX2_start_0 rfl (lv_at hl 0 rfl) ?_
  refine va_get (D := D) (ci := 2) (v := .int (nI ph)) (C := RX2) (T := TX2) (N := 8) hx hb hts (by decide +kernel) hown hK hP 0 rfl rfl 5 (by decide) (hts (.fieldLink RX2 29 "LadderDesk" "phaseNow" "I") (by decide +kernel)) (fun _ h9 => h9) rfl dX2_start_1 ?_
  refine lv_if_eq (tgt := 9) hx hb dX2_start_4 (by decide) (fun c4 => ?_) (fun c4 => ?_)
  · have hc : ph = 0 := (nI_eq (by omega) (by omega)).mp c4
    subst hc
    refine lv_aload_n hx hb dX2_start_9 rfl (lv_at hl 0 rfl) ?_
    refine lv_aload_n hx hb dX2_start_10 rfl (lv_at hl 0 rfl) ?_
    refine va_get (D := D) (ci := 2) (v := .ref aAN) (C := RX2) (T := TX2) (N := 8) hx hb hts (by decide +kernel) hown hK hP 0 rfl rfl 3 (by decide) (hts (.fieldLink RX2 19 "LadderDesk" "answer" "[J") (by decide +kernel)) (fun _ h9 => h9) rfl dX2_start_11 ?_
    refine z_callv (va_runV (As := [.ref aAN]) (rest := []) ⟨hx, hb, hml, hown, hts⟩ (c_writeU l D cA tys (ol, .inr (1, [.ref hf, .ref aU, .ref x2, .ref z2, .ref x3, .ref z3, .ref aA, .ref aB, .ref aC, .ref aD, .ref aE, .ref aAA, .ref aBB, .ref aDA, .ref aCB, .ref aSP, .ref aLE, .ref aRI])) (hf, .inr (0, [.ref wd, .ref wh])) od aSC aPT aRS aAN ol 0 st rs L n q m_aPT aAN m_aAN _) (cwV 1 hts gX2_start_X2_writeU rfl rfl rfl (by decide +kernel) ⟨Nat.le_of_ble_eq_true rfl, Nat.le_of_ble_eq_true rfl⟩) (z_preV _ hK hP hD (ci := 2) (q0 := 0) rfl rfl) rfl rfl hl.1 rfl (lv_room (Nat.le_of_ble_eq_true rfl)) dX2_start_14 ⟨Nat.le_of_ble_eq_true rfl, Nat.le_of_ble_eq_true rfl⟩) hD hS hA (fun u H locs hu hP hD hS => ?_)
    obtain ⟨g1, hg1, rfl⟩ := hu
    rw [uo_congr v_pt] at hg1
    obtain ⟨q1, hq1⟩ : ∃ z, z = va_up q aAN g1 := ⟨_, rfl⟩
    rw [← hq1] at hP hD
    have k1 : ∀ b, b ≠ aAN → q1 b = q b := fun b h => by rw [hq1, va_up_ne _ _ h]
    have e1 : q1 aAN = g1 := by rw [hq1, va_up_self]
    refine lv_aload_n hx hb dX2_start_17 rfl (lv_at hl 0 rfl) ?_
    refine va_get (D := D) (ci := 2) (v := .ref ol) (C := RX2) (T := TX2) (N := 8) hx hb hts (by decide +kernel) hown hK hP 0 rfl rfl 4 (by decide) (hts (.fieldLink RX2 25 "LadderDesk" "ladder" "LLadderDesk$Ladder;") (by decide +kernel)) (fun _ h9 => h9) rfl dX2_start_18 ?_
    refine lv_aload_n hx hb dX2_start_21 rfl (lv_at hl 0 rfl) ?_
    refine va_get (D := D) (ci := 2) (v := .ref aAN) (C := RX2) (T := TX2) (N := 8) hx hb hts (by decide +kernel) hown hK hP 0 rfl rfl 3 (by decide) (hts (.fieldLink RX2 19 "LadderDesk" "answer" "[J") (by decide +kernel)) (fun _ h9 => h9) rfl dX2_start_22 ?_
    refine z_callv (va_runV (As := [.ref aAN]) (rest := []) ⟨hx, hb, hml, hown, hts⟩ (c_begin l D cA tys (od, .inr (2, [.ref aSC, .ref aPT, .ref aRS, .ref aAN, .ref ol, .int (nI 0), .int (nI st), .int rs])) ol hf L n t q1 wd wh aU aA aB aC aD aE aAA aBB aDA aCB aSP aLE aRI x2 z2 x3 z3 hLW aAN m_aAN (by rw [e1]; exact wv_lt255 (by rw [hg1]; exact Nat.lt_of_lt_of_le (uo_lt pt) (by decide))) _) (cwV 1 hts gX2_start_X1_begin rfl rfl rfl (by decide +kernel) ⟨Nat.le_of_ble_eq_true rfl, Nat.le_of_ble_eq_true rfl⟩) (z_preV _ hK hP hD (ci := 1) (q0 := 1) rfl rfl) rfl rfl hl.1 rfl (lv_room (Nat.le_of_ble_eq_true rfl)) dX2_start_25 ⟨Nat.le_of_ble_eq_true rfl, Nat.le_of_ble_eq_true rfl⟩) hD hS hA (fun u H locs hu hP hD hS => ?_)
    obtain ⟨q2, k2, w1, w2, w3, w4, w5, rfl⟩ := hu
    rw [e1, hg1] at w1 w4
    have s_sc : q2 aSC = q aSC := by rw [k2 aSC (by omega) (by omega), k1 aSC (show aSC ≠ aAN from fun h => by have := congrArg t h; omega)]
    have s_pt : q2 aPT = q aPT := by rw [k2 aPT (by omega) (by omega), k1 aPT (show aPT ≠ aAN from fun h => by have := congrArg t h; omega)]
    refine lv_aload_n hx hb dX2_start_28 rfl (lv_at hl 0 rfl) ?_
    refine lv_iconst (v := nI 0) hx hb dX2_start_29 (by decide) ?_
    refine va_put (D := D) (ci := 2) (v := .int (nI 0)) (ty := .int) (C := RX2) (T := TX2) (N := 8) hx hb hts (by decide +kernel) tyX2 tyX2_ok nmX2 hown hK hP hD hS 0 rfl rfl 6 (by decide) (hts (.fieldLink RX2 33 "LadderDesk" "stepsMade" "I") (by decide +kernel)) (fun _ h9 => h9) rfl (by decide +kernel) rfl rfl (Nat.le_of_ble_eq_true rfl) dX2_start_30 (fun H locs hP hD hS => ?_)
    refine lv_aload_n hx hb dX2_start_33 rfl (lv_at hl 0 rfl) ?_
    refine lv_iconst (v := nI 1) hx hb dX2_start_34 (by decide) ?_
    refine va_put (D := D) (ci := 2) (v := .int (nI 1)) (ty := .int) (C := RX2) (T := TX2) (N := 8) hx hb hts (by decide +kernel) tyX2 tyX2_ok nmX2 hown hK hP hD hS 0 rfl rfl 5 (by decide) (hts (.fieldLink RX2 29 "LadderDesk" "phaseNow" "I") (by decide +kernel)) (fun _ h9 => h9) rfl (by decide +kernel) rfl rfl (Nat.le_of_ble_eq_true rfl) dX2_start_35 (fun H locs hP hD hS => ?_)
    refine lv_iconst (v := nI 1) hx hb dX2_start_38 (by decide) ?_
    exact z_iret hx hb hr hlocks dX2_start_39 hK hP hD hS (Or.inl ⟨rfl, rfl, ⟨ol, hf, L, n, t, q2, wd, wh, aU, aA, aB, aC, aD, aE, aAA, aBB, aDA, aCB, aSP, aLE, aRI, x2, z2, x3, z3, aSC, aPT, aRS, aAN, rfl, hLW, hDW, ⟨by rw [s_sc]; exact v_sc, by rw [s_pt]; exact v_pt, fun _ => ⟨w1, w2, w3, w4, w5⟩, fun h => by omega, by omega, by omega, fun h => by omega⟩⟩⟩)
  · have hc : ph ≠ 0 := fun e => c4 (by rw [e]; rfl)
    refine lv_iconst (v := nI 0) hx hb dX2_start_7 (by decide) ?_
    exact z_iret hx hb hr hlocks dX2_start_8 hK hP hD hS (Or.inr ⟨hc, rfl, ⟨ol, hf, L, n, t, q, wd, wh, aU, aA, aB, aC, aD, aE, aAA, aBB, aDA, aCB, aSP, aLE, aRI, x2, z2, x3, z3, aSC, aPT, aRS, aAN, rfl, hLW, hDW, hDV⟩⟩)
set_option maxRecDepth 100000 in
set_option maxHeartbeats 4000000 in
theorem C_step (l : Launch) (D : va_G) (cA : ClassId) (tys : List (ClassId × FieldType)) (od ph st : Nat) (rs : Int32) (sc pt : Nat → Int64) (ws : va_W) (hCI : CI cA od ph st rs sc pt ws) (k : Int32) : zCi l D ((cA, .long) :: tys) yX2_step wsX2_step ({ frames := 5, cells := 0, slots := 0, locals := 115 }) [.ref od, .int k] (ws) (fun r u => r = aStep ph st k ∧ CI cA od ph (sStep ph st k) rs sc pt u) := by
  obtain ⟨ol, hf, L, n, t, q, wd, wh, aU, aA, aB, aC, aD, aE, aAA, aBB, aDA, aCB, aSP, aLE, aRI, x2, z2, x3, z3, aSC, aPT, aRS, aAN, rfl, hLW, hDW, hDV⟩ := hCI
  obtain ⟨v_sc, v_pt, v_lad, v_rs, v_ph, v_st, v_2⟩ := id hDV
  refine z_met (fun A => va_Qi (fun r u => r = aStep ph st k ∧ CI cA od ph (sStep ph st k) rs sc pt u) (zB D ((cA, .long) :: tys) A) A) (by decide) rfl (Nat.le_of_ble_eq_true rfl) ?_
  intro p e s m below meth c hx hb hr hml hts hown hlocks hname A hA hP hK hD hS ls hl
  have hown : s.vm.findClass RX2 = some m.cls := hown
  have hl : lv_has ls 4 [(0, .ref od), (1, .int k)] := hl
  obtain ⟨⟨m_wd, m_wh, m_aU, m_aA, m_aB, m_aC, m_aD, m_aE, m_aAA, m_aBB, m_aDA, m_aCB, m_aSP, m_aLE, m_aRI, m_x2, m_z2, m_x3, m_z3⟩, ⟨t_wd, t_wh, t_aU, t_aA, t_aB, t_aC, t_aD, t_aE, t_aAA, t_aBB, t_aDA, t_aCB, t_aSP, t_aLE, t_aRI, t_x2, t_z2, t_x3, t_z3⟩, ⟨d_0, d_1, d_2, d_3, d_4, d_5⟩⟩ := id hLW
  obtain ⟨⟨m_aSC, m_aPT, m_aRS, m_aAN⟩, ⟨t_aSC, t_aPT, t_aRS, t_aAN⟩⟩ := id hDW
  refine lv_aload_n hx hb dX2_step_0 rfl (lv_at hl 0 rfl) ?_
  refine va_get (D := D) (ci := 2) (v := .int (nI ph)) (C := RX2) (T := TX2) (N := 8) hx hb hts (by decide +kernel) hown hK hP 0 rfl rfl 5 (by decide) (hts (.fieldLink RX2 29 "LadderDesk" "phaseNow" "I") (by decide +kernel)) (fun _ h9 => h9) rfl dX2_step_1 ?_
  refine lv_iconst (v := nI 1) hx hb dX2_step_4 (by decide) ?_
  refine lv_icmp_ne (tgt := 13) hx hb dX2_step_5 (by decide) (fun c5 => ?_) (fun c5 => ?_)
  · have hc : ¬ ph = 1 := fun e => c5 (by rw [e])
    refine lv_iconst (v := (-1)) hx hb dX2_step_13 (by decide) ?_
    have hn : ¬ (ph = 1 ∧ 1 ≤ k.toInt) := fun h => hc h.1
    exact z_iret hx hb hr hlocks dX2_step_14 hK hP hD hS (⟨by unfold aStep; rw [if_neg hn], by unfold sStep; rw [if_neg hn]; exact ⟨ol, hf, L, n, t, q, wd, wh, aU, aA, aB, aC, aD, aE, aAA, aBB, aDA, aCB, aSP, aLE, aRI, x2, z2, x3, z3, aSC, aPT, aRS, aAN, rfl, hLW, hDW, hDV⟩⟩)
  · have hc : ph = 1 := (nI_eq (by omega) (by omega)).mp c5
    subst hc
    refine lv_iload_n hx hb dX2_step_8 rfl (lv_at hl 1 rfl) ?_
    refine lv_iconst (v := nI 1) hx hb dX2_step_9 (by decide) ?_
    refine lv_icmp_ge (tgt := 15) hx hb dX2_step_10 (by decide) (fun c10 => ?_) (fun c10 => ?_)
    · have hk : 1 ≤ k.toInt := by
        have := Int32.le_iff_toInt_le.mp c10
        rwa [nI_toInt (by omega)] at this
      obtain ⟨kn, hkn, rfl⟩ := nI_of (x := k) (fun h => by have := Int32.lt_iff_toInt_lt.mp h; rw [show (0 : Int32).toInt = 0 from by decide] at this; omega)
      rw [nI_toInt hkn] at hk
      refine lv_iload_n hx hb dX2_step_15 rfl (lv_at hl 1 rfl) ?_
      refine lv_sipush (v := nI 255) hx hb dX2_step_16 (by decide) ?_
      refine lv_aload_n hx hb dX2_step_19 rfl (lv_at hl 0 rfl) ?_
      refine va_get (D := D) (ci := 2) (v := .int (nI st)) (C := RX2) (T := TX2) (N := 8) hx hb hts (by decide +kernel) hown hK hP 0 rfl rfl 6 (by decide) (hts (.fieldLink RX2 33 "LadderDesk" "stepsMade" "I") (by decide +kernel)) (fun _ h9 => h9) rfl dX2_step_20 ?_
      refine lv_isub hx hb dX2_step_23 ?_
      refine zi (y := nI (255 - st)) (pk_sub (by omega)) ?_
      refine va_mmin hx hb (hml.trans hl.1.symm) hown (hts (.methodLink RX2 50 Lib.Math.min.name) (by decide +kernel)) (hts (.static Lib.Math.min.name) (by decide +kernel)) (hts (.initialized "java/lang/Math") (by decide +kernel)) (hts (.code Lib.Math.min.name Lib.Math.min.code 2 (some .int)) (by decide +kernel)) (Nat.le_of_ble_eq_true rfl) (Nat.le_of_ble_eq_true rfl) (Nat.zero_le _) (Nat.zero_le _) dX2_step_24 ?_
      obtain ⟨mo, hmo⟩ : ∃ z, z = min kn (255 - st) := ⟨_, rfl⟩
      refine zi (y := nI mo) (by
        by_cases h : 255 - st < kn
        · rw [if_pos ((nI_ltI (by omega) hkn).mpr h), hmo, Nat.min_eq_right (by omega)]
        · rw [if_neg (fun h2 => h ((nI_ltI (by omega) hkn).mp h2)), hmo, Nat.min_eq_left (by omega)]) ?_
      refine lv_istore_n (lv' := [(2, .int (nI mo)), (0, .ref od), (1, .int (nI kn))]) hx hb dX2_step_27 rfl hl (by decide) rfl (fun ls hl => ?_)
      refine lv_iconst (v := nI 0) hx hb dX2_step_28 (by decide) ?_
      refine lv_istore_n (lv' := [(3, .int (nI 0)), (2, .int (nI mo)), (0, .ref od), (1, .int (nI kn))]) hx hb dX2_step_29 rfl hl (by decide) rfl (fun ls hl => ?_)
      refine z_loop (fun i H locs ls => ∃ q' : Nat → Nat → Int64, DV 1 (st + i) sc pt q' aU x2 z2 x3 z3 aSC aPT aRS ∧ zH D A s.heap ([(od, .inr (2, [.ref aSC, .ref aPT, .ref aRS, .ref aAN, .ref ol, .int (nI 1), .int (nI (st + i)), .int rs])), (ol, .inr (1, [.ref hf, .ref aU, .ref x2, .ref z2, .ref x3, .ref z3, .ref aA, .ref aB, .ref aC, .ref aD, .ref aE, .ref aAA, .ref aBB, .ref aDA, .ref aCB, .ref aSP, .ref aLE, .ref aRI])), (hf, .inr (0, [.ref wd, .ref wh]))] ++ PL cA L n q') H locs ∧ lv_has ls 4 [(3, .int (nI i)), (2, .int (nI mo)), (0, .ref od), (1, .int (nI kn))]) mo ?_ ?_ ?_
      · exact ⟨q, hDV, ⟨hP, hD, hS⟩, hl⟩
      · rintro i H locs ls hi ⟨q1, hI, ⟨hP, hD, hS⟩, hl⟩ ih
        obtain ⟨i_sc, i_pt, i_lad, -, -, i_st, -⟩ := id hI
        obtain ⟨hU, hX2, hZ2, hX3, hZ3⟩ := i_lad (by decide)
        refine lv_iload_n hx hb dX2_step_30 rfl (lv_at hl 0 rfl) ?_
        refine lv_iload_n hx hb dX2_step_31 rfl (lv_at hl 1 rfl) ?_
        refine lv_icmp_ge (tgt := 70) hx hb dX2_step_32 (by decide) (fun c32 => absurd ((nI_leI (by omega) (by omega)).mp c32) (by omega)) (fun c32 => ?_)
        refine lv_aload_n hx hb dX2_step_35 rfl (lv_at hl 2 rfl) ?_
        refine va_get (D := D) (ci := 2) (v := .ref ol) (C := RX2) (T := TX2) (N := 8) hx hb hts (by decide +kernel) hown hK hP 0 rfl rfl 4 (by decide) (hts (.fieldLink RX2 25 "LadderDesk" "ladder" "LLadderDesk$Ladder;") (by decide +kernel)) (fun _ h9 => h9) rfl dX2_step_36 ?_
        refine lv_aload_n hx hb dX2_step_39 rfl (lv_at hl 2 rfl) ?_
        refine lv_sipush (v := nI 254) hx hb dX2_step_40 (by decide) ?_
        refine lv_aload_n hx hb dX2_step_43 rfl (lv_at hl 2 rfl) ?_
        refine va_get (D := D) (ci := 2) (v := .int (nI (st + i))) (C := RX2) (T := TX2) (N := 8) hx hb hts (by decide +kernel) hown hK hP 0 rfl rfl 6 (by decide) (hts (.fieldLink RX2 33 "LadderDesk" "stepsMade" "I") (by decide +kernel)) (fun _ h9 => h9) rfl dX2_step_44 ?_
        refine lv_isub hx hb dX2_step_47 ?_
        refine zi (y := nI (254 - (st + i))) (pk_sub (by omega)) ?_
        refine z_calli (va_runV (As := [.int (nI (254 - (st + i)))]) (rest := [.ref ol]) ⟨hx, hb, hml, hown, hts⟩ (c_clampedBit l D cA tys (ol, .inr (1, [.ref hf, .ref aU, .ref x2, .ref z2, .ref x3, .ref z3, .ref aA, .ref aB, .ref aC, .ref aD, .ref aE, .ref aAA, .ref aBB, .ref aDA, .ref aCB, .ref aSP, .ref aLE, .ref aRI])) (hf, .inr (0, [.ref wd, .ref wh])) od aSC aPT aRS aAN ol 1 (st + i) rs L n q1 m_aSC (254 - (st + i)) (by omega) _) (cwV 1 hts gX2_step_X2_clampedBit rfl rfl rfl (by decide +kernel) ⟨Nat.le_of_ble_eq_true rfl, Nat.le_of_ble_eq_true rfl⟩) (z_preV _ hK hP hD (ci := 2) (q0 := 0) rfl rfl) rfl rfl hl.1 rfl (lv_room (Nat.le_of_ble_eq_true rfl)) dX2_step_48 ⟨Nat.le_of_ble_eq_true rfl, Nat.le_of_ble_eq_true rfl⟩) hD hS hA (fun r48 u H locs hu hP hD hS => ?_)
        obtain ⟨hbt, rfl⟩ := hu
        rw [pb_congr i_sc (by omega)] at hbt
        refine z_callv (va_runV (As := [.int r48]) (rest := []) ⟨hx, hb, hml, hown, hts⟩ (c_walk l D cA tys (od, .inr (2, [.ref aSC, .ref aPT, .ref aRS, .ref aAN, .ref ol, .int (nI 1), .int (nI (st + i)), .int rs])) ol hf L n t q1 wd wh aU aA aB aC aD aE aAA aBB aDA aCB aSP aLE aRI x2 z2 x3 z3 hLW r48 (pb sc (254 - (st + i))) hbt _ hU _ _ _ _ hX2 hZ2 hX3 hZ3 _) (cwV 1 hts gX2_step_X1_walk rfl rfl rfl (by decide +kernel) ⟨Nat.le_of_ble_eq_true rfl, Nat.le_of_ble_eq_true rfl⟩) (z_preV _ hK hP hD (ci := 1) (q0 := 1) rfl rfl) rfl rfl hl.1 rfl (lv_room (Nat.le_of_ble_eq_true rfl)) dX2_step_51 ⟨Nat.le_of_ble_eq_true rfl, Nat.le_of_ble_eq_true rfl⟩) hD hS hA (fun u H locs hu hP hD hS => ?_)
        obtain ⟨q2, k2, w2, w3, w4, w5, rfl⟩ := hu
        refine lv_aload_n hx hb dX2_step_54 rfl (lv_at hl 2 rfl) ?_
        refine lv_dup hx hb dX2_step_55 rfl ?_
        refine va_get (D := D) (ci := 2) (v := .int (nI (st + i))) (C := RX2) (T := TX2) (N := 8) hx hb hts (by decide +kernel) hown hK hP 0 rfl rfl 6 (by decide) (hts (.fieldLink RX2 33 "LadderDesk" "stepsMade" "I") (by decide +kernel)) (fun _ h9 => h9) rfl dX2_step_56 ?_
        refine lv_iconst (v := nI 1) hx hb dX2_step_59 (by decide) ?_
        refine lv_iadd hx hb dX2_step_60 ?_
        refine zi (y := nI (st + (i + 1))) (nI_add (st + i) 1) ?_
        refine va_put (D := D) (ci := 2) (v := .int (nI (st + (i + 1)))) (ty := .int) (C := RX2) (T := TX2) (N := 8) hx hb hts (by decide +kernel) tyX2 tyX2_ok nmX2 hown hK hP hD hS 0 rfl rfl 6 (by decide) (hts (.fieldLink RX2 33 "LadderDesk" "stepsMade" "I") (by decide +kernel)) (fun _ h9 => h9) rfl (by decide +kernel) rfl rfl (Nat.le_of_ble_eq_true rfl) dX2_step_61 (fun H locs hP hD hS => ?_)
        refine lv_iinc (v := nI (i + 1)) (lv' := [(3, .int (nI (i + 1))), (2, .int (nI mo)), (0, .ref od), (1, .int (nI kn))]) hx hb dX2_step_64 hl (k := 0) rfl (by show nI _ + nI 1 = _; exact nI_add _ _) (by decide) rfl (fun ls hl => ?_)
        refine lv_goto (tgt := 30) hx hb dX2_step_67 (by decide) ?_
        exact ih _ _ _ ⟨q2, ⟨by rw [k2 aSC (by omega)]; exact i_sc, by rw [k2 aPT (by omega)]; exact i_pt, fun _ => ⟨by rw [k2 aU (by omega)]; exact hU, holds_mod w2, holds_mod w3, holds_mod w4, holds_mod w5⟩, fun h => by omega, by omega, by omega, fun h => by omega⟩, ⟨hP, hD, hS⟩, hl⟩
      · rintro H locs ls ⟨q1, hI, ⟨hP, hD, hS⟩, hl⟩
        refine lv_iload_n hx hb dX2_step_30 rfl (lv_at hl 0 rfl) ?_
        refine lv_iload_n hx hb dX2_step_31 rfl (lv_at hl 1 rfl) ?_
        refine lv_icmp_ge (tgt := 70) hx hb dX2_step_32 (by decide) (fun c32 => ?_) (fun c32 => absurd (Int32.le_refl _) c32)
        refine lv_sipush (v := nI 255) hx hb dX2_step_70 (by decide) ?_
        refine lv_aload_n hx hb dX2_step_73 rfl (lv_at hl 2 rfl) ?_
        refine va_get (D := D) (ci := 2) (v := .int (nI (st + mo))) (C := RX2) (T := TX2) (N := 8) hx hb hts (by decide +kernel) hown hK hP 0 rfl rfl 6 (by decide) (hts (.fieldLink RX2 33 "LadderDesk" "stepsMade" "I") (by decide +kernel)) (fun _ h9 => h9) rfl dX2_step_74 ?_
        refine lv_isub hx hb dX2_step_77 ?_
        refine zi (y := nI (255 - (st + mo))) (pk_sub (by omega)) ?_
        have e1 : sStep 1 st (nI kn) = st + mo := by unfold sStep; rw [nI_toInt hkn, if_pos ⟨rfl, hk⟩]; omega
        exact z_iret hx hb hr hlocks dX2_step_78 hK hP hD hS (⟨by unfold aStep; rw [e1, if_pos ⟨rfl, by rw [nI_toInt hkn]; exact hk⟩], by rw [e1]; exact ⟨ol, hf, L, n, t, q1, wd, wh, aU, aA, aB, aC, aD, aE, aAA, aBB, aDA, aCB, aSP, aLE, aRI, x2, z2, x3, z3, aSC, aPT, aRS, aAN, rfl, hLW, hDW, hI⟩⟩)
    · have hk : ¬ 1 ≤ k.toInt := fun h => c10 (Int32.le_iff_toInt_le.mpr (by rw [nI_toInt (by omega)]; exact h))
      refine lv_iconst (v := (-1)) hx hb dX2_step_13 (by decide) ?_
      have hn : ¬ (1 = 1 ∧ 1 ≤ k.toInt) := fun h => hk h.2
      exact z_iret hx hb hr hlocks dX2_step_14 hK hP hD hS (⟨by unfold aStep; rw [if_neg hn], by unfold sStep; rw [if_neg hn]; exact ⟨ol, hf, L, n, t, q, wd, wh, aU, aA, aB, aC, aD, aE, aAA, aBB, aDA, aCB, aSP, aLE, aRI, x2, z2, x3, z3, aSC, aPT, aRS, aAN, rfl, hLW, hDW, hDV⟩⟩)
set_option maxRecDepth 100000 in
set_option maxHeartbeats 4000000 in
theorem C_finish (l : Launch) (D : va_G) (cA : ClassId) (tys : List (ClassId × FieldType)) (od ph st : Nat) (rs : Int32) (sc pt : Nat → Int64) (ws : va_W) (hCI : CI cA od ph st rs sc pt ws)  : zCi l D ((cA, .long) :: tys) yX2_finish wsX2_finish ({ frames := 5, cells := 0, slots := 0, locals := 118 }) [.ref od] (ws) (fun r u => (ph = 1 ∧ st = 255 ∧ r = 1 ∧ CI cA od 2 st (rs + 1) sc pt u) ∨ (¬ (ph = 1 ∧ st = 255) ∧ r = 0 ∧ CI cA od ph st rs sc pt u)) := by
  obtain ⟨ol, hf, L, n, t, q, wd, wh, aU, aA, aB, aC, aD, aE, aAA, aBB, aDA, aCB, aSP, aLE, aRI, x2, z2, x3, z3, aSC, aPT, aRS, aAN, rfl, hLW, hDW, hDV⟩ := hCI
  obtain ⟨v_sc, v_pt, v_lad, v_rs, v_ph, v_st, v_2⟩ := id hDV
  refine z_met (fun A => va_Qi (fun r u => (ph = 1 ∧ st = 255 ∧ r = 1 ∧ CI cA od 2 st (rs + 1) sc pt u) ∨ (¬ (ph = 1 ∧ st = 255) ∧ r = 0 ∧ CI cA od ph st rs sc pt u)) (zB D ((cA, .long) :: tys) A) A) (by decide) rfl (Nat.le_of_ble_eq_true rfl) ?_
  intro p e s m below meth c hx hb hr hml hts hown hlocks hname A hA hP hK hD hS ls hl
  have hown : s.vm.findClass RX2 = some m.cls := hown
  have hl : lv_has ls 1 [(0, .ref od)] := hl
  obtain ⟨⟨m_wd, m_wh, m_aU, m_aA, m_aB, m_aC, m_aD, m_aE, m_aAA, m_aBB, m_aDA, m_aCB, m_aSP, m_aLE, m_aRI, m_x2, m_z2, m_x3, m_z3⟩, ⟨t_wd, t_wh, t_aU, t_aA, t_aB, t_aC, t_aD, t_aE, t_aAA, t_aBB, t_aDA, t_aCB, t_aSP, t_aLE, t_aRI, t_x2, t_z2, t_x3, t_z3⟩, ⟨d_0, d_1, d_2, d_3, d_4, d_5⟩⟩ := id hLW
  obtain ⟨⟨m_aSC, m_aPT, m_aRS, m_aAN⟩, ⟨t_aSC, t_aPT, t_aRS, t_aAN⟩⟩ := id hDW
  refine lv_aload_n hx hb dX2_finish_0 rfl (lv_at hl 0 rfl) ?_
  refine va_get (D := D) (ci := 2) (v := .int (nI ph)) (C := RX2) (T := TX2) (N := 8) hx hb hts (by decide +kernel) hown hK hP 0 rfl rfl 5 (by decide) (hts (.fieldLink RX2 29 "LadderDesk" "phaseNow" "I") (by decide +kernel)) (fun _ h9 => h9) rfl dX2_finish_1 ?_
  refine lv_iconst (v := nI 1) hx hb dX2_finish_4 (by decide) ?_
  refine lv_icmp_ne (tgt := 18) hx hb dX2_finish_5 (by decide) (fun c5 => ?_) (fun c5 => ?_)
  · have hc : ¬ ph = 1 := fun e => c5 (by rw [e])
    refine lv_iconst (v := nI 0) hx hb dX2_finish_18 (by decide) ?_
    exact z_iret hx hb hr hlocks dX2_finish_19 hK hP hD hS (Or.inr ⟨fun h => hc h.1, rfl, ⟨ol, hf, L, n, t, q, wd, wh, aU, aA, aB, aC, aD, aE, aAA, aBB, aDA, aCB, aSP, aLE, aRI, x2, z2, x3, z3, aSC, aPT, aRS, aAN, rfl, hLW, hDW, hDV⟩⟩)
  · have hc : ph = 1 := (nI_eq (by omega) (by omega)).mp c5
    subst hc
    refine lv_aload_n hx hb dX2_finish_8 rfl (lv_at hl 0 rfl) ?_
    refine va_get (D := D) (ci := 2) (v := .int (nI st)) (C := RX2) (T := TX2) (N := 8) hx hb hts (by decide +kernel) hown hK hP 0 rfl rfl 6 (by decide) (hts (.fieldLink RX2 33 "LadderDesk" "stepsMade" "I") (by decide +kernel)) (fun _ h9 => h9) rfl dX2_finish_9 ?_
    refine lv_sipush (v := nI 255) hx hb dX2_finish_12 (by decide) ?_
    refine lv_icmp_eq (tgt := 20) hx hb dX2_finish_15 (by decide) (fun c15 => ?_) (fun c15 => ?_)
    · have hc2 : st = 255 := (nI_eq (by omega) (by omega)).mp c15
      subst hc2
      obtain ⟨hU, hX2, hZ2, hX3, hZ3⟩ := v_lad (by decide)
      refine lv_aload_n hx hb dX2_finish_20 rfl (lv_at hl 0 rfl) ?_
      refine va_get (D := D) (ci := 2) (v := .ref ol) (C := RX2) (T := TX2) (N := 8) hx hb hts (by decide +kernel) hown hK hP 0 rfl rfl 4 (by decide) (hts (.fieldLink RX2 25 "LadderDesk" "ladder" "LLadderDesk$Ladder;") (by decide +kernel)) (fun _ h9 => h9) rfl dX2_finish_21 ?_
      refine lv_aload_n hx hb dX2_finish_24 rfl (lv_at hl 0 rfl) ?_
      refine va_get (D := D) (ci := 2) (v := .ref aRS) (C := RX2) (T := TX2) (N := 8) hx hb hts (by decide +kernel) hown hK hP 0 rfl rfl 2 (by decide) (hts (.fieldLink RX2 16 "LadderDesk" "result" "[J") (by decide +kernel)) (fun _ h9 => h9) rfl dX2_finish_25 ?_
      refine z_callv (va_runV (As := [.ref aRS]) (rest := []) ⟨hx, hb, hml, hown, hts⟩ (c_writeResult l D cA tys (od, .inr (2, [.ref aSC, .ref aPT, .ref aRS, .ref aAN, .ref ol, .int (nI 1), .int (nI 255), .int rs])) ol hf L n t q wd wh aU aA aB aC aD aE aAA aBB aDA aCB aSP aLE aRI x2 z2 x3 z3 hLW aRS m_aRS _ _ hX2 hZ2 _) (cwV 1 hts gX2_finish_X1_writeResult rfl rfl rfl (by decide +kernel) ⟨Nat.le_of_ble_eq_true rfl, Nat.le_of_ble_eq_true rfl⟩) (z_preV _ hK hP hD (ci := 1) (q0 := 1) rfl rfl) rfl rfl hl.1 rfl (lv_room (Nat.le_of_ble_eq_true rfl)) dX2_finish_28 ⟨Nat.le_of_ble_eq_true rfl, Nat.le_of_ble_eq_true rfl⟩) hD hS hA (fun u H locs hu hP hD hS => ?_)
      obtain ⟨q1, k1, v1, rfl⟩ := hu
      rw [← res_int] at v1
      have hq1 : DV 2 255 sc pt q1 aU x2 z2 x3 z3 aSC aPT aRS := ⟨by rw [k1 aSC (by omega) (show aSC ≠ aRS from fun h => by have := congrArg t h; omega)]; exact v_sc, by rw [k1 aPT (by omega) (show aPT ≠ aRS from fun h => by have := congrArg t h; omega)]; exact v_pt, fun _ => ⟨by rw [k1 aU (by omega) (show aU ≠ aRS from fun h => by have := congrArg t h; omega)]; exact hU, by rw [k1 x2 (by omega) (show x2 ≠ aRS from fun e => by have h9 := m_x2.2; rw [e, m_aRS.2] at h9; omega)]; exact hX2, by rw [k1 z2 (by omega) (show z2 ≠ aRS from fun e => by have h9 := m_z2.2; rw [e, m_aRS.2] at h9; omega)]; exact hZ2, by rw [k1 x3 (by omega) (show x3 ≠ aRS from fun e => by have h9 := m_x3.2; rw [e, m_aRS.2] at h9; omega)]; exact hX3, by rw [k1 z3 (by omega) (show z3 ≠ aRS from fun e => by have h9 := m_z3.2; rw [e, m_aRS.2] at h9; omega)]; exact hZ3⟩, fun _ => by omega, by omega, by omega, fun _ => rfl⟩
      refine lv_aload_n hx hb dX2_finish_31 rfl (lv_at hl 0 rfl) ?_
      refine lv_dup hx hb dX2_finish_32 rfl ?_
      refine va_get (D := D) (ci := 2) (v := .int rs) (C := RX2) (T := TX2) (N := 8) hx hb hts (by decide +kernel) hown hK hP 0 rfl rfl 7 (by decide) (hts (.fieldLink RX2 36 "LadderDesk" "resultsHad" "I") (by decide +kernel)) (fun _ h9 => h9) rfl dX2_finish_33 ?_
      refine lv_iconst (v := nI 1) hx hb dX2_finish_36 (by decide) ?_
      refine lv_iadd hx hb dX2_finish_37 ?_
      refine zi (y := rs + 1) rfl ?_
      refine va_put (D := D) (ci := 2) (v := .int (rs + 1)) (ty := .int) (C := RX2) (T := TX2) (N := 8) hx hb hts (by decide +kernel) tyX2 tyX2_ok nmX2 hown hK hP hD hS 0 rfl rfl 7 (by decide) (hts (.fieldLink RX2 36 "LadderDesk" "resultsHad" "I") (by decide +kernel)) (fun _ h9 => h9) rfl (by decide +kernel) rfl rfl (Nat.le_of_ble_eq_true rfl) dX2_finish_38 (fun H locs hP hD hS => ?_)
      refine lv_aload_n hx hb dX2_finish_41 rfl (lv_at hl 0 rfl) ?_
      refine lv_iconst (v := nI 2) hx hb dX2_finish_42 (by decide) ?_
      refine va_put (D := D) (ci := 2) (v := .int (nI 2)) (ty := .int) (C := RX2) (T := TX2) (N := 8) hx hb hts (by decide +kernel) tyX2 tyX2_ok nmX2 hown hK hP hD hS 0 rfl rfl 5 (by decide) (hts (.fieldLink RX2 29 "LadderDesk" "phaseNow" "I") (by decide +kernel)) (fun _ h9 => h9) rfl (by decide +kernel) rfl rfl (Nat.le_of_ble_eq_true rfl) dX2_finish_43 (fun H locs hP hD hS => ?_)
      refine lv_iconst (v := nI 1) hx hb dX2_finish_46 (by decide) ?_
      exact z_iret hx hb hr hlocks dX2_finish_47 hK hP hD hS (Or.inl ⟨rfl, rfl, rfl, ⟨ol, hf, L, n, t, q1, wd, wh, aU, aA, aB, aC, aD, aE, aAA, aBB, aDA, aCB, aSP, aLE, aRI, x2, z2, x3, z3, aSC, aPT, aRS, aAN, rfl, hLW, hDW, hq1⟩⟩)
    · have hc2 : ¬ st = 255 := fun e => c15 (by rw [e])
      refine lv_iconst (v := nI 0) hx hb dX2_finish_18 (by decide) ?_
      exact z_iret hx hb hr hlocks dX2_finish_19 hK hP hD hS (Or.inr ⟨fun h => hc2 h.2, rfl, ⟨ol, hf, L, n, t, q, wd, wh, aU, aA, aB, aC, aD, aE, aAA, aBB, aDA, aCB, aSP, aLE, aRI, x2, z2, x3, z3, aSC, aPT, aRS, aAN, rfl, hLW, hDW, hDV⟩⟩)
set_option maxRecDepth 100000 in
set_option maxHeartbeats 4000000 in
theorem C_again (l : Launch) (D : va_G) (cA : ClassId) (tys : List (ClassId × FieldType)) (od ph st : Nat) (rs : Int32) (sc pt : Nat → Int64) (ws : va_W) (hCI : CI cA od ph st rs sc pt ws)  : zCi l D ((cA, .long) :: tys) yX2_again wsX2_again ({ frames := 1, cells := 0, slots := 0, locals := 19 }) [.ref od] (ws) (fun r u => (ph = 2 ∧ r = 1 ∧ CI cA od 0 st rs sc (ow (res sc pt)) u) ∨ (ph ≠ 2 ∧ r = 0 ∧ CI cA od ph st rs sc pt u)) := by
  obtain ⟨ol, hf, L, n, t, q, wd, wh, aU, aA, aB, aC, aD, aE, aAA, aBB, aDA, aCB, aSP, aLE, aRI, x2, z2, x3, z3, aSC, aPT, aRS, aAN, rfl, hLW, hDW, hDV⟩ := hCI
  obtain ⟨v_sc, v_pt, v_lad, v_rs, v_ph, v_st, v_2⟩ := id hDV
  refine z_met (fun A => va_Qi (fun r u => (ph = 2 ∧ r = 1 ∧ CI cA od 0 st rs sc (ow (res sc pt)) u) ∨ (ph ≠ 2 ∧ r = 0 ∧ CI cA od ph st rs sc pt u)) (zB D ((cA, .long) :: tys) A) A) (by decide) rfl (Nat.le_of_ble_eq_true rfl) ?_
  intro p e s m below meth c hx hb hr hml hts hown hlocks hname A hA hP hK hD hS ls hl
  have hown : s.vm.findClass RX2 = some m.cls := hown
  have hl : lv_has ls 1 [(0, .ref od)] := hl
  obtain ⟨⟨m_wd, m_wh, m_aU, m_aA, m_aB, m_aC, m_aD, m_aE, m_aAA, m_aBB, m_aDA, m_aCB, m_aSP, m_aLE, m_aRI, m_x2, m_z2, m_x3, m_z3⟩, ⟨t_wd, t_wh, t_aU, t_aA, t_aB, t_aC, t_aD, t_aE, t_aAA, t_aBB, t_aDA, t_aCB, t_aSP, t_aLE, t_aRI, t_x2, t_z2, t_x3, t_z3⟩, ⟨d_0, d_1, d_2, d_3, d_4, d_5⟩⟩ := id hLW
  obtain ⟨⟨m_aSC, m_aPT, m_aRS, m_aAN⟩, ⟨t_aSC, t_aPT, t_aRS, t_aAN⟩⟩ := id hDW
  refine lv_aload_n hx hb dX2_again_0 rfl (lv_at hl 0 rfl) ?_
  refine va_get (D := D) (ci := 2) (v := .int (nI ph)) (C := RX2) (T := TX2) (N := 8) hx hb hts (by decide +kernel) hown hK hP 0 rfl rfl 5 (by decide) (hts (.fieldLink RX2 29 "LadderDesk" "phaseNow" "I") (by decide +kernel)) (fun _ h9 => h9) rfl dX2_again_1 ?_
  refine lv_iconst (v := nI 2) hx hb dX2_again_4 (by decide) ?_
  refine lv_icmp_eq (tgt := 10) hx hb dX2_again_5 (by decide) (fun c5 => ?_) (fun c5 => ?_)
  · have hc : ph = 2 := (nI_eq (by omega) (by omega)).mp c5
    subst hc
    refine lv_aload_n hx hb dX2_again_10 rfl (lv_at hl 0 rfl) ?_
    refine va_get (D := D) (ci := 2) (v := .ref aRS) (C := RX2) (T := TX2) (N := 8) hx hb hts (by decide +kernel) hown hK hP 0 rfl rfl 2 (by decide) (hts (.fieldLink RX2 16 "LadderDesk" "result" "[J") (by decide +kernel)) (fun _ h9 => h9) rfl dX2_again_11 ?_
    refine lv_iconst (v := nI 0) hx hb dX2_again_14 (by decide) ?_
    refine lv_aload_n hx hb dX2_again_15 rfl (lv_at hl 0 rfl) ?_
    refine va_get (D := D) (ci := 2) (v := .ref aPT) (C := RX2) (T := TX2) (N := 8) hx hb hts (by decide +kernel) hown hK hP 0 rfl rfl 1 (by decide) (hts (.fieldLink RX2 13 "LadderDesk" "pointTold" "[J") (by decide +kernel)) (fun _ h9 => h9) rfl dX2_again_16 ?_
    refine lv_iconst (v := nI 0) hx hb dX2_again_19 (by decide) ?_
    refine lv_iconst (v := nI 4) hx hb dX2_again_20 (by decide) ?_
    refine z_cp hx hb (hml.trans hl.1.symm) hown (hts (.methodLink RX2 67 arraycopyName) (by decide +kernel)) (hts (.native arraycopyName) (by decide +kernel)) (hts (.static arraycopyName) (by decide +kernel)) (hts (.initialized "java/lang/System") (by decide +kernel)) hK hP hD hS m_aRS m_aPT 4 (by decide) (by decide) (by decide) (Nat.le_of_ble_eq_true rfl) (Nat.le_of_ble_eq_true rfl) dX2_again_21 (fun H locs hP hD hS => ?_)
    refine lv_aload_n hx hb dX2_again_24 rfl (lv_at hl 0 rfl) ?_
    refine lv_iconst (v := nI 0) hx hb dX2_again_25 (by decide) ?_
    refine va_put (D := D) (ci := 2) (v := .int (nI 0)) (ty := .int) (C := RX2) (T := TX2) (N := 8) hx hb hts (by decide +kernel) tyX2 tyX2_ok nmX2 hown hK hP hD hS 0 rfl rfl 5 (by decide) (hts (.fieldLink RX2 29 "LadderDesk" "phaseNow" "I") (by decide +kernel)) (fun _ h9 => h9) rfl (by decide +kernel) rfl rfl (Nat.le_of_ble_eq_true rfl) dX2_again_26 (fun H locs hP hD hS => ?_)
    refine lv_iconst (v := nI 1) hx hb dX2_again_29 (by decide) ?_
    exact z_iret hx hb hr hlocks dX2_again_30 hK hP hD hS (Or.inl ⟨rfl, rfl, ⟨ol, hf, L, n, t, _, wd, wh, aU, aA, aB, aC, aD, aE, aAA, aBB, aDA, aCB, aSP, aLE, aRI, x2, z2, x3, z3, aSC, aPT, aRS, aAN, rfl, hLW, hDW, DV_0 (fun k hk => by rw [mpq_ne (show aSC ≠ aPT from fun h => by have := congrArg t h; omega)]; exact v_sc k hk) (fun k hk => by rw [mpq_to, if_pos hk, ow_wv (q aRS) hk, v_rs rfl]) v_st⟩⟩)
  · have hc : ph ≠ 2 := fun e => c5 (by rw [e])
    refine lv_iconst (v := nI 0) hx hb dX2_again_8 (by decide) ?_
    exact z_iret hx hb hr hlocks dX2_again_9 hK hP hD hS (Or.inr ⟨hc, rfl, ⟨ol, hf, L, n, t, q, wd, wh, aU, aA, aB, aC, aD, aE, aAA, aBB, aDA, aCB, aSP, aLE, aRI, x2, z2, x3, z3, aSC, aPT, aRS, aAN, rfl, hLW, hDW, hDV⟩⟩)
set_option maxRecDepth 100000 in
set_option maxHeartbeats 4000000 in
theorem C_reset (l : Launch) (D : va_G) (cA : ClassId) (tys : List (ClassId × FieldType)) (od ph st : Nat) (rs : Int32) (sc pt : Nat → Int64) (ws : va_W) (hCI : CI cA od ph st rs sc pt ws)  : zCi l D ((cA, .long) :: tys) yX2_reset wsX2_reset ({ frames := 0, cells := 0, slots := 0, locals := 0 }) [.ref od] (ws) (fun r u => r = nI ph ∧ CI cA od 0 st rs sc pt u) := by
  obtain ⟨ol, hf, L, n, t, q, wd, wh, aU, aA, aB, aC, aD, aE, aAA, aBB, aDA, aCB, aSP, aLE, aRI, x2, z2, x3, z3, aSC, aPT, aRS, aAN, rfl, hLW, hDW, hDV⟩ := hCI
  obtain ⟨v_sc, v_pt, v_lad, v_rs, v_ph, v_st, v_2⟩ := id hDV
  refine z_met (fun A => va_Qi (fun r u => r = nI ph ∧ CI cA od 0 st rs sc pt u) (zB D ((cA, .long) :: tys) A) A) (by decide) rfl (Nat.le_of_ble_eq_true rfl) ?_
  intro p e s m below meth c hx hb hr hml hts hown hlocks hname A hA hP hK hD hS ls hl
  have hown : s.vm.findClass RX2 = some m.cls := hown
  have hl : lv_has ls 2 [(0, .ref od)] := hl
  obtain ⟨⟨m_wd, m_wh, m_aU, m_aA, m_aB, m_aC, m_aD, m_aE, m_aAA, m_aBB, m_aDA, m_aCB, m_aSP, m_aLE, m_aRI, m_x2, m_z2, m_x3, m_z3⟩, ⟨t_wd, t_wh, t_aU, t_aA, t_aB, t_aC, t_aD, t_aE, t_aAA, t_aBB, t_aDA, t_aCB, t_aSP, t_aLE, t_aRI, t_x2, t_z2, t_x3, t_z3⟩, ⟨d_0, d_1, d_2, d_3, d_4, d_5⟩⟩ := id hLW
  obtain ⟨⟨m_aSC, m_aPT, m_aRS, m_aAN⟩, ⟨t_aSC, t_aPT, t_aRS, t_aAN⟩⟩ := id hDW
  refine lv_aload_n hx hb dX2_reset_0 rfl (lv_at hl 0 rfl) ?_
  refine va_get (D := D) (ci := 2) (v := .int (nI ph)) (C := RX2) (T := TX2) (N := 8) hx hb hts (by decide +kernel) hown hK hP 0 rfl rfl 5 (by decide) (hts (.fieldLink RX2 29 "LadderDesk" "phaseNow" "I") (by decide +kernel)) (fun _ h9 => h9) rfl dX2_reset_1 ?_
  refine lv_istore_n (lv' := [(1, .int (nI ph)), (0, .ref od)]) hx hb dX2_reset_4 rfl hl (by decide) rfl (fun ls hl => ?_)
  refine lv_aload_n hx hb dX2_reset_5 rfl (lv_at hl 1 rfl) ?_
  refine lv_iconst (v := nI 0) hx hb dX2_reset_6 (by decide) ?_
  refine va_put (D := D) (ci := 2) (v := .int (nI 0)) (ty := .int) (C := RX2) (T := TX2) (N := 8) hx hb hts (by decide +kernel) tyX2 tyX2_ok nmX2 hown hK hP hD hS 0 rfl rfl 5 (by decide) (hts (.fieldLink RX2 29 "LadderDesk" "phaseNow" "I") (by decide +kernel)) (fun _ h9 => h9) rfl (by decide +kernel) rfl rfl (Nat.le_of_ble_eq_true rfl) dX2_reset_7 (fun H locs hP hD hS => ?_)
  refine lv_iload_n hx hb dX2_reset_10 rfl (lv_at hl 0 rfl) ?_
  exact z_iret hx hb hr hlocks dX2_reset_11 hK hP hD hS (⟨rfl, ⟨ol, hf, L, n, t, q, wd, wh, aU, aA, aB, aC, aD, aE, aAA, aBB, aDA, aCB, aSP, aLE, aRI, x2, z2, x3, z3, aSC, aPT, aRS, aAN, rfl, hLW, hDW, DV_0 v_sc v_pt v_st⟩⟩)
set_option maxRecDepth 100000 in
set_option maxHeartbeats 4000000 in
theorem C_phase (l : Launch) (D : va_G) (cA : ClassId) (tys : List (ClassId × FieldType)) (od ph st : Nat) (rs : Int32) (sc pt : Nat → Int64) (ws : va_W) (hCI : CI cA od ph st rs sc pt ws)  : zCi l D ((cA, .long) :: tys) yX2_phase wsX2_phase ({ frames := 0, cells := 0, slots := 0, locals := 0 }) [.ref od] (ws) (fun r u => r = nI ph ∧ CI cA od ph st rs sc pt u) := by
  obtain ⟨ol, hf, L, n, t, q, wd, wh, aU, aA, aB, aC, aD, aE, aAA, aBB, aDA, aCB, aSP, aLE, aRI, x2, z2, x3, z3, aSC, aPT, aRS, aAN, rfl, hLW, hDW, hDV⟩ := hCI
  obtain ⟨v_sc, v_pt, v_lad, v_rs, v_ph, v_st, v_2⟩ := id hDV
  refine z_met (fun A => va_Qi (fun r u => r = nI ph ∧ CI cA od ph st rs sc pt u) (zB D ((cA, .long) :: tys) A) A) (by decide) rfl (Nat.le_of_ble_eq_true rfl) ?_
  intro p e s m below meth c hx hb hr hml hts hown hlocks hname A hA hP hK hD hS ls hl
  have hown : s.vm.findClass RX2 = some m.cls := hown
  have hl : lv_has ls 1 [(0, .ref od)] := hl
  obtain ⟨⟨m_wd, m_wh, m_aU, m_aA, m_aB, m_aC, m_aD, m_aE, m_aAA, m_aBB, m_aDA, m_aCB, m_aSP, m_aLE, m_aRI, m_x2, m_z2, m_x3, m_z3⟩, ⟨t_wd, t_wh, t_aU, t_aA, t_aB, t_aC, t_aD, t_aE, t_aAA, t_aBB, t_aDA, t_aCB, t_aSP, t_aLE, t_aRI, t_x2, t_z2, t_x3, t_z3⟩, ⟨d_0, d_1, d_2, d_3, d_4, d_5⟩⟩ := id hLW
  obtain ⟨⟨m_aSC, m_aPT, m_aRS, m_aAN⟩, ⟨t_aSC, t_aPT, t_aRS, t_aAN⟩⟩ := id hDW
  refine lv_aload_n hx hb dX2_phase_0 rfl (lv_at hl 0 rfl) ?_
  refine va_get (D := D) (ci := 2) (v := .int (nI ph)) (C := RX2) (T := TX2) (N := 8) hx hb hts (by decide +kernel) hown hK hP 0 rfl rfl 5 (by decide) (hts (.fieldLink RX2 29 "LadderDesk" "phaseNow" "I") (by decide +kernel)) (fun _ h9 => h9) rfl dX2_phase_1 ?_
  exact z_iret hx hb hr hlocks dX2_phase_4 hK hP hD hS (⟨rfl, ⟨ol, hf, L, n, t, q, wd, wh, aU, aA, aB, aC, aD, aE, aAA, aBB, aDA, aCB, aSP, aLE, aRI, x2, z2, x3, z3, aSC, aPT, aRS, aAN, rfl, hLW, hDW, hDV⟩⟩)
