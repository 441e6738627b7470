set_option maxRecDepth 100000 in
set_option maxHeartbeats 4000000 in
theorem c_takeRest (l : Launch) (D : va_G) (cA : ClassId) (tys : List (ClassId × FieldType)) (X : va_W) (L : List Nat) (n : Nat → Nat) (q : Nat → Nat → Int64) (w : Nat) (hw : w ∈ L ∧ n w = 4) (hq : uw (q w 3) < 9223372036854775808) : zCv l D ((cA, .long) :: tys) yX0_takeRest wsX0_takeRest ({ frames := 0, cells := 0, slots := 0, locals := 0 }) [.ref w] (X ++ PL cA L n q) (fun u => ∃ g, wv g = wv (q w) % nP ∧ u = X ++ PL cA L n (va_up q w g)) := by
  refine z_met (fun A => va_Qv (fun u => ∃ g, wv g = wv (q w) % nP ∧ u = X ++ PL cA L n (va_up q w g)) (zB D ((cA, .long) :: tys) A) A) (by decide) rfl (Nat.le_of_ble_eq_true rfl) ?_
  intro p e s m below meth c hx hb hr hml hts hown hlocks hname A hA hP hK hD hS ls hl
  have hown : s.vm.findClass RX0 = some m.cls := hown
  have hl : lv_has ls 2 [(0, .ref w)] := hl
  refine lv_aload_n hx hb dX0_takeRest_0 rfl (lv_at hl 0 rfl) ?_
  refine lv_iconst (v := nI 3) hx hb dX0_takeRest_1 (by decide) ?_
  refine z_ld hx hb hK hP hw 3 rfl (by omega) (by omega) dX0_takeRest_2 ?_
  refine lv_topl (fun v2 e2 => ?_)
  refine lv_ldc2 (v := 9223372036854775807) hx hb hown (hts (.constantLong RX0 68 (9223372036854775807)) (by decide +kernel)) dX0_takeRest_3 ?_
  refine W.lcmp hx hb dX0_takeRest_6 ?_
  refine lv_if_ne (tgt := 34) hx hb dX0_takeRest_7 (by decide) (fun c7 => ?_) (fun c7 => ?_)
  · have hc := cmp_ne c7
    refine lv_iconst (v := nI 0) hx hb dX0_takeRest_34 (by decide) ?_
    refine lv_istore_n (lv' := [(1, .int (nI 0)), (0, .ref w)]) hx hb dX0_takeRest_35 rfl hl (by decide) rfl (fun ls hl => ?_)
    refine lv_iload_n hx hb dX0_takeRest_36 rfl (lv_at hl 0 rfl) ?_
    refine lv_if_eq (tgt := 79) hx hb dX0_takeRest_37 (by decide) (fun c37 => ?_) (fun c37 => absurd rfl c37)
    exact z_vret hx hb hr hlocks dX0_takeRest_79 hK hP hD hS (⟨q w, rest_lo hq (fun h => hc (by rw [e2]; exact h.1)), by rw [up_id]⟩)
  · have k3 := (lg_cmp_eq _ _).mp c7
    refine lv_aload_n hx hb dX0_takeRest_10 rfl (lv_at hl 0 rfl) ?_
    refine lv_iconst (v := nI 2) hx hb dX0_takeRest_11 (by decide) ?_
    refine z_ld hx hb hK hP hw 2 rfl (by omega) (by omega) dX0_takeRest_12 ?_
    refine lv_topl (fun v12 e12 => ?_)
    refine lv_ldc2 (v := (-1)) hx hb hown (hts (.constantLong RX0 70 (-1)) (by decide +kernel)) dX0_takeRest_13 ?_
    refine W.lcmp hx hb dX0_takeRest_16 ?_
    refine lv_if_ne (tgt := 34) hx hb dX0_takeRest_17 (by decide) (fun c17 => ?_) (fun c17 => ?_)
    · have hc := cmp_ne c17
      refine lv_iconst (v := nI 0) hx hb dX0_takeRest_34 (by decide) ?_
      refine lv_istore_n (lv' := [(1, .int (nI 0)), (0, .ref w)]) hx hb dX0_takeRest_35 rfl hl (by decide) rfl (fun ls hl => ?_)
      refine lv_iload_n hx hb dX0_takeRest_36 rfl (lv_at hl 0 rfl) ?_
      refine lv_if_eq (tgt := 79) hx hb dX0_takeRest_37 (by decide) (fun c37 => ?_) (fun c37 => absurd rfl c37)
      exact z_vret hx hb hr hlocks dX0_takeRest_79 hK hP hD hS (⟨q w, rest_lo hq (fun h => hc (by rw [e12]; exact h.2.1)), by rw [up_id]⟩)
    · have k2 := (lg_cmp_eq _ _).mp c17
      refine lv_aload_n hx hb dX0_takeRest_20 rfl (lv_at hl 0 rfl) ?_
      refine lv_iconst (v := nI 1) hx hb dX0_takeRest_21 (by decide) ?_
      refine z_ld hx hb hK hP hw 1 rfl (by omega) (by omega) dX0_takeRest_22 ?_
      refine lv_topl (fun v22 e22 => ?_)
      refine lv_ldc2 (v := (-1)) hx hb hown (hts (.constantLong RX0 70 (-1)) (by decide +kernel)) dX0_takeRest_23 ?_
      refine W.lcmp hx hb dX0_takeRest_26 ?_
      refine lv_if_ne (tgt := 34) hx hb dX0_takeRest_27 (by decide) (fun c27 => ?_) (fun c27 => ?_)
      · have hc := cmp_ne c27
        refine lv_iconst (v := nI 0) hx hb dX0_takeRest_34 (by decide) ?_
        refine lv_istore_n (lv' := [(1, .int (nI 0)), (0, .ref w)]) hx hb dX0_takeRest_35 rfl hl (by decide) rfl (fun ls hl => ?_)
        refine lv_iload_n hx hb dX0_takeRest_36 rfl (lv_at hl 0 rfl) ?_
        refine lv_if_eq (tgt := 79) hx hb dX0_takeRest_37 (by decide) (fun c37 => ?_) (fun c37 => absurd rfl c37)
        exact z_vret hx hb hr hlocks dX0_takeRest_79 hK hP hD hS (⟨q w, rest_lo hq (fun h => hc (by rw [e22]; exact h.2.2.1)), by rw [up_id]⟩)
      · have k1 := (lg_cmp_eq _ _).mp c27
        refine lv_iconst (v := nI 1) hx hb dX0_takeRest_30 (by decide) ?_
        refine lv_goto (tgt := 35) hx hb dX0_takeRest_31 (by decide) ?_
        refine lv_istore_n (lv' := [(1, .int (nI 1)), (0, .ref w)]) hx hb dX0_takeRest_35 rfl hl (by decide) rfl (fun ls hl => ?_)
        refine lv_iload_n hx hb dX0_takeRest_36 rfl (lv_at hl 0 rfl) ?_
        refine lv_if_eq (tgt := 79) hx hb dX0_takeRest_37 (by decide) (fun c37 => absurd c37 (by decide)) (fun c37 => ?_)
        refine lv_aload_n hx hb dX0_takeRest_40 rfl (lv_at hl 1 rfl) ?_
        refine lv_iconst (v := nI 0) hx hb dX0_takeRest_41 (by decide) ?_
        refine z_ld hx hb hK hP hw 0 rfl (by omega) (by omega) dX0_takeRest_42 ?_
        refine lv_topl (fun v42 e42 => ?_)
        refine lv_ldc2 (v := (-19)) hx hb hown (hts (.constantLong RX0 72 (-19)) (by decide +kernel)) dX0_takeRest_43 ?_
        refine W.lcmp hx hb dX0_takeRest_46 ?_
        refine lv_if_lt (tgt := 79) hx hb dX0_takeRest_47 (by decide) (fun c47 => ?_) (fun c47 => ?_)
        · have hc := (lg_cmp_lt _ _).mp c47
          exact z_vret hx hb hr hlocks dX0_takeRest_79 hK hP hD hS (⟨q w, rest_lo hq (fun h => h.2.2.2.1 (by rw [← e42]; exact hc)), by rw [up_id]⟩)
        · have k0 := fun h => c47 ((lg_cmp_lt _ _).mpr h)
          refine lv_aload_n hx hb dX0_takeRest_50 rfl (lv_at hl 1 rfl) ?_
          refine lv_iconst (v := nI 0) hx hb dX0_takeRest_51 (by decide) ?_
          refine z_ld hx hb hK hP hw 0 rfl (by omega) (by omega) dX0_takeRest_52 ?_
          refine lv_topl (fun v52 e52 => ?_)
          refine lv_lconst (v := 0) hx hb dX0_takeRest_53 (by decide) ?_
          refine W.lcmp hx hb dX0_takeRest_54 ?_
          refine lv_if_ge (tgt := 79) hx hb dX0_takeRest_55 (by decide) (fun c55 => ?_) (fun c55 => ?_)
          · have hc := (lg_cmp_ge _ _).mp c55
            exact z_vret hx hb hr hlocks dX0_takeRest_79 hK hP hD hS (⟨q w, rest_lo hq (fun h => absurd h.2.2.2.2 (by rw [← e52]; exact Int64.not_lt.mpr hc)), by rw [up_id]⟩)
          · have k00 : v52 < 0 := Int64.not_le.mp fun h => c55 ((lg_cmp_ge _ _).mpr h)
            refine lv_aload_n hx hb dX0_takeRest_58 rfl (lv_at hl 1 rfl) ?_
            refine lv_iconst (v := nI 0) hx hb dX0_takeRest_59 (by decide) ?_
            refine lv_dup2_11 hx hb dX0_takeRest_60 rfl rfl ?_
            refine z_ld hx hb hK hP hw 0 rfl (by omega) (by omega) dX0_takeRest_61 ?_
            refine lv_topl (fun v61 e61 => ?_)
            refine lv_ldc2 (v := 19) hx hb hown (hts (.constantLong RX0 74 (19)) (by decide +kernel)) dX0_takeRest_62 ?_
            refine lv_ladd hx hb dX0_takeRest_65 ?_
            refine lv_topl (fun v65 e65 => ?_)
            refine z_st hx hb hK hP hD hS hw 0 rfl (by omega) (by omega) dX0_takeRest_66 (fun H locs hP hD hS => ?_)
            refine lv_aload_n hx hb dX0_takeRest_67 rfl (lv_at hl 1 rfl) ?_
            refine lv_iconst (v := nI 1) hx hb dX0_takeRest_68 (by decide) ?_
            refine lv_lconst (v := 0) hx hb dX0_takeRest_69 (by decide) ?_
            refine z_st hx hb hK hP hD hS hw 1 rfl (by omega) (by omega) dX0_takeRest_70 (fun H locs hP hD hS => ?_)
            refine lv_aload_n hx hb dX0_takeRest_71 rfl (lv_at hl 1 rfl) ?_
            refine lv_iconst (v := nI 2) hx hb dX0_takeRest_72 (by decide) ?_
            refine lv_lconst (v := 0) hx hb dX0_takeRest_73 (by decide) ?_
            refine z_st hx hb hK hP hD hS hw 2 rfl (by omega) (by omega) dX0_takeRest_74 (fun H locs hP hD hS => ?_)
            refine lv_aload_n hx hb dX0_takeRest_75 rfl (lv_at hl 1 rfl) ?_
            refine lv_iconst (v := nI 3) hx hb dX0_takeRest_76 (by decide) ?_
            refine lv_lconst (v := 0) hx hb dX0_takeRest_77 (by decide) ?_
            refine z_st hx hb hK hP hD hS hw 3 rfl (by omega) (by omega) dX0_takeRest_78 (fun H locs hP hD hS => ?_)
            simp only [up_uu, va_up_self] at hP hD
            have hz := rest_hi (f := q w) (y := v65) (by rw [← e2]; exact k3) (by rw [← e12]; exact k2) (by rw [← e22]; exact k1) (by rw [← e42]; exact k0) (by rw [← e52]; exact k00) (by rw [e65, e61])
            exact z_vret hx hb hr hlocks dX0_takeRest_79 hK hP hD hS (⟨_, by rw [← hz]; exact wv_congr (fun k hk => by rcases (show k = 0 ∨ k = 1 ∨ k = 2 ∨ k = 3 by omega) with rfl | rfl | rfl | rfl <;> simp [vp_updL]), rfl⟩)
set_option maxRecDepth 100000 in
set_option maxHeartbeats 4000000 in
theorem c_write (l : Launch) (D : va_G) (cA : ClassId) (tys : List (ClassId × FieldType)) (d0 l0 : Nat × va_E) (hf wd wh : Nat) (L : List Nat) (n : Nat → Nat) (q : Nat → Nat → Int64) (w a : Nat) (hwh : wh ∈ L ∧ n wh = 10) (hw : w ∈ L ∧ n w = 4) (ha : a ∈ L ∧ n a = 10) (hq : settled (q a)) : zCv l D ((cA, .long) :: tys) yX0_write wsX0_write ({ frames := 2, cells := 0, slots := 0, locals := 48 }) [.ref hf, .ref w, .ref a] ([d0, l0, (hf, .inr (0, [.ref wd, .ref wh]))] ++ PL cA L n q) (fun u => ∃ q' : Nat → Nat → Int64, (∀ b, b ≠ w → b ≠ wh → q' b = q b) ∧ (wv (q' w) : Int) = fv (q a) % pP ∧ u = [d0, l0, (hf, .inr (0, [.ref wd, .ref wh]))] ++ PL cA L n q') := by
  refine z_met (fun A => va_Qv (fun u => ∃ q' : Nat → Nat → Int64, (∀ b, b ≠ w → b ≠ wh → q' b = q b) ∧ (wv (q' w) : Int) = fv (q a) % pP ∧ u = [d0, l0, (hf, .inr (0, [.ref wd, .ref wh]))] ++ PL cA L n q') (zB D ((cA, .long) :: tys) A) A) (by decide) rfl (Nat.le_of_ble_eq_true rfl) ?_
  intro p e s m below meth c hx hb hr hml hts hown hlocks hname A hA hP hK hD hS ls hl
  have hown : s.vm.findClass RX0 = some m.cls := hown
  have hl : lv_has ls 3 [(0, .ref hf), (1, .ref w), (2, .ref a)] := hl
  have nw : wh ≠ w := fun e => by rw [e, hw.2] at hwh; omega
  refine lv_aload_n hx hb dX0_write_0 rfl (lv_at hl 2 rfl) ?_
  refine lv_iconst (v := nI 0) hx hb dX0_write_1 (by decide) ?_
  refine lv_aload_n hx hb dX0_write_2 rfl (lv_at hl 0 rfl) ?_
  refine va_get (D := D) (ci := 0) (v := .ref wh) (C := RX0) (T := TX0) (N := 2) hx hb hts (by decide +kernel) hown hK hP 2 rfl rfl 1 (by decide) (hts (.fieldLink RX0 19 "LadderDesk$Field" "whole" "[J") (by decide +kernel)) (fun _ h9 => h9) rfl dX0_write_3 ?_
  refine lv_iconst (v := nI 0) hx hb dX0_write_6 (by decide) ?_
  refine lv_bipush (v := nI 10) hx hb dX0_write_7 (by decide) ?_
  refine z_cp hx hb (hml.trans hl.1.symm) hown (hts (.methodLink RX0 47 arraycopyName) (by decide +kernel)) (hts (.native arraycopyName) (by decide +kernel)) (hts (.static arraycopyName) (by decide +kernel)) (hts (.initialized "java/lang/System") (by decide +kernel)) hK hP hD hS ha hwh 10 (by decide) (by decide) (by decide) (Nat.le_of_ble_eq_true rfl) (Nat.le_of_ble_eq_true rfl) dX0_write_9 (fun H locs hP hD hS => ?_)
  have s1 : settled (mpq q wh (q a) 10 wh) := settled_congr (fun j hj => by rw [mpq_to, if_pos hj]) hq
  have f1 : fv (mpq q wh (q a) 10 wh) = fv (q a) := fv_congr (fun j hj => by rw [mpq_to, if_pos hj])
  refine lv_aload_n hx hb dX0_write_12 rfl (lv_at hl 0 rfl) ?_
  refine va_get (D := D) (ci := 0) (v := .ref wh) (C := RX0) (T := TX0) (N := 2) hx hb hts (by decide +kernel) hown hK hP 2 rfl rfl 1 (by decide) (hts (.fieldLink RX0 19 "LadderDesk$Field" "whole" "[J") (by decide +kernel)) (fun _ h9 => h9) rfl dX0_write_13 ?_
  refine z_callv (va_runS (As := [.ref wh]) (rest := []) ⟨hx, hb, hml, hown, hts⟩ (c_foldTop l D cA tys [d0, l0, (hf, .inr (0, [.ref wd, .ref wh]))] L n (mpq q wh (q a) 10) wh hwh (fun j hj => by have := settled_at s1 hj; omega) _) (va_cwS 1 hts gX0_write_X0_foldTop rfl rfl rfl (by decide +kernel) ⟨Nat.le_of_ble_eq_true rfl, Nat.le_of_ble_eq_true rfl⟩) (z_preS _ hK hP hD) rfl rfl hl.1 rfl (lv_room (Nat.le_of_ble_eq_true rfl)) dX0_write_16 ⟨Nat.le_of_ble_eq_true rfl, Nat.le_of_ble_eq_true rfl⟩) hD hS hA (fun u H locs hu hP hD hS => ?_)
  obtain ⟨g1, hg1, rfl⟩ := hu
  refine lv_aload_n hx hb dX0_write_19 rfl (lv_at hl 0 rfl) ?_
  refine va_get (D := D) (ci := 0) (v := .ref wh) (C := RX0) (T := TX0) (N := 2) hx hb hts (by decide +kernel) hown hK hP 2 rfl rfl 1 (by decide) (hts (.fieldLink RX0 19 "LadderDesk$Field" "whole" "[J") (by decide +kernel)) (fun _ h9 => h9) rfl dX0_write_20 ?_
  refine z_callv (va_runS (As := [.ref wh]) (rest := []) ⟨hx, hb, hml, hown, hts⟩ (c_foldTop l D cA tys [d0, l0, (hf, .inr (0, [.ref wd, .ref wh]))] L n (va_up (mpq q wh (q a) 10) wh g1) wh hwh (fun j hj => by rw [va_up_self]; exact FoldP_lim s1 hg1 hj) _) (va_cwS 1 hts gX0_write_X0_foldTop rfl rfl rfl (by decide +kernel) ⟨Nat.le_of_ble_eq_true rfl, Nat.le_of_ble_eq_true rfl⟩) (z_preS _ hK hP hD) rfl rfl hl.1 rfl (lv_room (Nat.le_of_ble_eq_true rfl)) dX0_write_23 ⟨Nat.le_of_ble_eq_true rfl, Nat.le_of_ble_eq_true rfl⟩) hD hS hA (fun u H locs hu hP hD hS => ?_)
  obtain ⟨g2, hg2, rfl⟩ := hu
  rw [up_uu] at hP hD
  rw [va_up_self] at hg2
  obtain ⟨k1, k2, k3, k4, k5⟩ := fold_2 s1 hg1 hg2
  refine lv_aload_n hx hb dX0_write_26 rfl (lv_at hl 1 rfl) ?_
  refine lv_aload_n hx hb dX0_write_27 rfl (lv_at hl 0 rfl) ?_
  refine va_get (D := D) (ci := 0) (v := .ref wh) (C := RX0) (T := TX0) (N := 2) hx hb hts (by decide +kernel) hown hK hP 2 rfl rfl 1 (by decide) (hts (.fieldLink RX0 19 "LadderDesk$Field" "whole" "[J") (by decide +kernel)) (fun _ h9 => h9) rfl dX0_write_28 ?_
  refine z_callv (va_runS (As := [.ref w, .ref wh]) (rest := []) ⟨hx, hb, hml, hown, hts⟩ (c_join l D cA tys [d0, l0, (hf, .inr (0, [.ref wd, .ref wh]))] L n (va_up (mpq q wh (q a) 10) wh g2) w wh hw hwh (by rw [va_up_self]; exact k1) (by rw [va_up_self]; exact k2) _) (va_cwS 2 hts gX0_write_X0_join rfl rfl rfl (by decide +kernel) ⟨Nat.le_of_ble_eq_true rfl, Nat.le_of_ble_eq_true rfl⟩) (z_preS _ hK hP hD) rfl rfl hl.1 rfl (lv_room (Nat.le_of_ble_eq_true rfl)) dX0_write_31 ⟨Nat.le_of_ble_eq_true rfl, Nat.le_of_ble_eq_true rfl⟩) hD hS hA (fun u H locs hu hP hD hS => ?_)
  obtain ⟨g3, hg3, rfl⟩ := hu
  rw [va_up_self] at hg3
  refine lv_aload_n hx hb dX0_write_34 rfl (lv_at hl 1 rfl) ?_
  refine z_callv (va_runS (As := [.ref w]) (rest := []) ⟨hx, hb, hml, hown, hts⟩ (c_takeRest l D cA tys [d0, l0, (hf, .inr (0, [.ref wd, .ref wh]))] L n (va_up (va_up (mpq q wh (q a) 10) wh g2) w g3) w hw (by rw [va_up_self]; exact wv_lt255 (by omega)) _) (va_cwS 1 hts gX0_write_X0_takeRest rfl rfl rfl (by decide +kernel) ⟨Nat.le_of_ble_eq_true rfl, Nat.le_of_ble_eq_true rfl⟩) (z_preS _ hK hP hD) rfl rfl hl.1 rfl (lv_room (Nat.le_of_ble_eq_true rfl)) dX0_write_35 ⟨Nat.le_of_ble_eq_true rfl, Nat.le_of_ble_eq_true rfl⟩) hD hS hA (fun u H locs hu hP hD hS => ?_)
  obtain ⟨g4, hg4, rfl⟩ := hu
  rw [up_uu] at hP hD
  rw [va_up_self] at hg4
  exact z_vret hx hb hr hlocks dX0_write_38 hK hP hD hS (⟨_, fun b h1 h2 => by rw [va_up_ne _ _ h1, va_up_ne _ _ h2, mpq_ne h2], by rw [va_up_self, hg4, Int.natCast_emod, nP_pP, hg3, cg_emod k3, f1], rfl⟩)
set_option maxRecDepth 100000 in
set_option maxHeartbeats 4000000 in
theorem c_invert (l : Launch) (D : va_G) (cA : ClassId) (tys : List (ClassId × FieldType)) (d0 l0 : Nat × va_E) (hf wd wh : Nat) (L : List Nat) (n : Nat → Nat) (q : Nat → Nat → Int64) (to f : Nat) (z : Int) (hw : wd ∈ L ∧ n wd = 20) (hto : to ∈ L ∧ n to = 10) (hf1 : f ∈ L ∧ n f = 10) (hne : f ≠ to) (hf2 : settled (q f)) (hz : cg (fv (q f)) z) : zCv l D ((cA, .long) :: tys) yX0_invert wsX0_invert ({ frames := 3, cells := 0, slots := 0, locals := 74 }) [.ref hf, .ref to, .ref f] ([d0, l0, (hf, .inr (0, [.ref wd, .ref wh]))] ++ PL cA L n q) (fun u => ∃ q' : Nat → Nat → Int64, (∀ b, b ≠ to → b ≠ wd → q' b = q b) ∧ settled (q' to) ∧ cg (fv (q' to)) (pw z 255) ∧ u = [d0, l0, (hf, .inr (0, [.ref wd, .ref wh]))] ++ PL cA L n q') := by
  refine z_met (fun A => va_Qv (fun u => ∃ q' : Nat → Nat → Int64, (∀ b, b ≠ to → b ≠ wd → q' b = q b) ∧ settled (q' to) ∧ cg (fv (q' to)) (pw z 255) ∧ u = [d0, l0, (hf, .inr (0, [.ref wd, .ref wh]))] ++ PL cA L n q') (zB D ((cA, .long) :: tys) A) A) (by decide) rfl (Nat.le_of_ble_eq_true rfl) ?_
  intro p e s m below meth c hx hb hr hml hts hown hlocks hname A hA hP hK hD hS ls hl
  have hown : s.vm.findClass RX0 = some m.cls := hown
  have hl : lv_has ls 4 [(0, .ref hf), (1, .ref to), (2, .ref f)] := hl
  have nf : f ≠ wd := fun e => by rw [e, hw.2] at hf1; omega
  refine lv_aload_n hx hb dX0_invert_0 rfl (lv_at hl 2 rfl) ?_
  refine lv_iconst (v := nI 0) hx hb dX0_invert_1 (by decide) ?_
  refine lv_aload_n hx hb dX0_invert_2 rfl (lv_at hl 1 rfl) ?_
  refine lv_iconst (v := nI 0) hx hb dX0_invert_3 (by decide) ?_
  refine lv_bipush (v := nI 10) hx hb dX0_invert_4 (by decide) ?_
  refine z_cp hx hb (hml.trans hl.1.symm) hown (hts (.methodLink RX0 47 arraycopyName) (by decide +kernel)) (hts (.native arraycopyName) (by decide +kernel)) (hts (.static arraycopyName) (by decide +kernel)) (hts (.initialized "java/lang/System") (by decide +kernel)) hK hP hD hS hf1 hto 10 (by decide) (by decide) (by decide) (Nat.le_of_ble_eq_true rfl) (Nat.le_of_ble_eq_true rfl) dX0_invert_6 (fun H locs hP hD hS => ?_)
  refine lv_sipush (v := nI 253) hx hb dX0_invert_9 (by decide) ?_
  refine lv_istore_n (lv' := [(3, .int (nI 253)), (0, .ref hf), (1, .ref to), (2, .ref f)]) hx hb dX0_invert_12 rfl hl (by decide) rfl (fun ls hl => ?_)
  refine z_loop (fun i H locs ls => ∃ q' : Nat → Nat → Int64, (∀ b, b ≠ to → b ≠ wd → q' b = q b) ∧ settled (q' to) ∧ cg (fv (q' to)) (pw z (i + 1)) ∧ zH D A s.heap ([d0, l0, (hf, .inr (0, [.ref wd, .ref wh]))] ++ PL cA L n q') H locs ∧ lv_has ls 4 [(3, .int (nI 253 - nI i)), (0, .ref hf), (1, .ref to), (2, .ref f)]) 254 ?_ ?_ ?_
  · exact ⟨_, fun b h1 h2 => mpq_ne h1, settled_congr (fun j hj => by rw [mpq_to, if_pos hj]) hf2, by rw [pw_1, ← fv_congr (f := q f) (fun j hj => by rw [mpq_to, if_pos hj])]; exact hz, ⟨hP, hD, hS⟩, lv_eq (by rw [show nI 253 - nI 0 = nI 253 from by decide]) hl⟩
  · rintro i H locs ls hi ⟨q1, h1, h2, h3, ⟨hP, hD, hS⟩, hl⟩ ih
    have hl : lv_has ls 4 [(3, .int (nI (253 - i))), (0, .ref hf), (1, .ref to), (2, .ref f)] := by rw [← pk_sub (show i ≤ 253 by omega)]; exact hl
    refine lv_iload_n hx hb dX0_invert_13 rfl (lv_at hl 0 rfl) ?_
    refine lv_if_lt (tgt := 47) hx hb dX0_invert_14 (by decide) (fun c14 => absurd c14 (nI_pos (by omega))) (fun c14 => ?_)
    refine lv_aload_n hx hb dX0_invert_17 rfl (lv_at hl 1 rfl) ?_
    refine lv_aload_n hx hb dX0_invert_18 rfl (lv_at hl 2 rfl) ?_
    refine lv_aload_n hx hb dX0_invert_19 rfl (lv_at hl 2 rfl) ?_
    refine lv_aload_n hx hb dX0_invert_20 rfl (lv_at hl 2 rfl) ?_
    refine z_callv (va_runV (As := [.ref to, .ref to, .ref to]) (rest := []) ⟨hx, hb, hml, hown, hts⟩ (c_multiply l D cA tys d0 l0 hf wd wh L n q1 to to to hw hto hto hto (settled_loose h2) (settled_loose h2) _) (cwV 3 hts gX0_invert_X0_multiply rfl rfl rfl (by decide +kernel) ⟨Nat.le_of_ble_eq_true rfl, Nat.le_of_ble_eq_true rfl⟩) (z_preV _ hK hP hD (ci := 0) (q0 := 2) rfl rfl) rfl rfl hl.1 rfl (lv_room (Nat.le_of_ble_eq_true rfl)) dX0_invert_21 ⟨Nat.le_of_ble_eq_true rfl, Nat.le_of_ble_eq_true rfl⟩) hD hS hA (fun u H locs hu hP hD hS => ?_)
    obtain ⟨q2, j1, j2, j3, rfl⟩ := hu
    have j3 := cg_trans j3 (cg_mul h3 h3)
    have jf : q2 f = q f := by rw [j1 f hne nf, h1 f hne nf]
    refine lv_iload_n hx hb dX0_invert_24 rfl (lv_at hl 0 rfl) ?_
    refine lv_iconst (v := nI 4) hx hb dX0_invert_25 (by decide) ?_
    refine lv_icmp_eq (tgt := 41) hx hb dX0_invert_26 (by decide) (fun c26 => ?_) (fun c26 => ?_)
    · have c := (nI_eq (by omega) (by omega)).mp c26
      refine lv_iinc (v := nI 253 - nI (i + 1)) (lv' := [(3, .int (nI 253 - nI (i + 1))), (0, .ref hf), (1, .ref to), (2, .ref f)]) hx hb dX0_invert_41 hl (k := 0) rfl (dn_step i hi) (by decide) rfl (fun ls hl => ?_)
      refine lv_goto (tgt := 13) hx hb dX0_invert_44 (by decide) ?_
      exact ih _ _ _ ⟨q2, fun b k1 k2 => by rw [j1 b k1 k2, h1 b k1 k2], j2, by rw [pw_a (Or.inl (by omega))]; exact j3, ⟨hP, hD, hS⟩, hl⟩
    · have c : ¬ 253 - i = 4 := fun h => c26 (by rw [h])
      refine lv_iload_n hx hb dX0_invert_29 rfl (lv_at hl 0 rfl) ?_
      refine lv_iconst (v := nI 2) hx hb dX0_invert_30 (by decide) ?_
      refine lv_icmp_eq (tgt := 41) hx hb dX0_invert_31 (by decide) (fun c31 => ?_) (fun c31 => ?_)
      · have c2 := (nI_eq (by omega) (by omega)).mp c31
        refine lv_iinc (v := nI 253 - nI (i + 1)) (lv' := [(3, .int (nI 253 - nI (i + 1))), (0, .ref hf), (1, .ref to), (2, .ref f)]) hx hb dX0_invert_41 hl (k := 0) rfl (dn_step i hi) (by decide) rfl (fun ls hl => ?_)
        refine lv_goto (tgt := 13) hx hb dX0_invert_44 (by decide) ?_
        exact ih _ _ _ ⟨q2, fun b k1 k2 => by rw [j1 b k1 k2, h1 b k1 k2], j2, by rw [pw_a (Or.inr (by omega))]; exact j3, ⟨hP, hD, hS⟩, hl⟩
      · have c2 : ¬ 253 - i = 2 := fun h => c31 (by rw [h])
        refine lv_aload_n hx hb dX0_invert_34 rfl (lv_at hl 1 rfl) ?_
        refine lv_aload_n hx hb dX0_invert_35 rfl (lv_at hl 2 rfl) ?_
        refine lv_aload_n hx hb dX0_invert_36 rfl (lv_at hl 2 rfl) ?_
        refine lv_aload_n hx hb dX0_invert_37 rfl (lv_at hl 3 rfl) ?_
        refine z_callv (va_runV (As := [.ref to, .ref to, .ref f]) (rest := []) ⟨hx, hb, hml, hown, hts⟩ (c_multiply l D cA tys d0 l0 hf wd wh L n q2 to to f hw hto hto hf1 (settled_loose j2) (by rw [jf]; exact settled_loose hf2) _) (cwV 3 hts gX0_invert_X0_multiply rfl rfl rfl (by decide +kernel) ⟨Nat.le_of_ble_eq_true rfl, Nat.le_of_ble_eq_true rfl⟩) (z_preV _ hK hP hD (ci := 0) (q0 := 2) rfl rfl) rfl rfl hl.1 rfl (lv_room (Nat.le_of_ble_eq_true rfl)) dX0_invert_38 ⟨Nat.le_of_ble_eq_true rfl, Nat.le_of_ble_eq_true rfl⟩) hD hS hA (fun u H locs hu hP hD hS => ?_)
        obtain ⟨q3, m1, m2, m3, rfl⟩ := hu
        rw [jf] at m3
        have m3 := cg_trans m3 (cg_mul j3 hz)
        refine lv_iinc (v := nI 253 - nI (i + 1)) (lv' := [(3, .int (nI 253 - nI (i + 1))), (0, .ref hf), (1, .ref to), (2, .ref f)]) hx hb dX0_invert_41 hl (k := 0) rfl (dn_step i hi) (by decide) rfl (fun ls hl => ?_)
        refine lv_goto (tgt := 13) hx hb dX0_invert_44 (by decide) ?_
        exact ih _ _ _ ⟨q3, fun b k1 k2 => by rw [m1 b k1 k2, j1 b k1 k2, h1 b k1 k2], m2, by rw [pw_b (by omega)]; exact m3, ⟨hP, hD, hS⟩, hl⟩
  · rintro H locs ls ⟨q1, h1, h2, h3, ⟨hP, hD, hS⟩, hl⟩
    refine lv_iload_n hx hb dX0_invert_13 rfl (lv_at hl 0 rfl) ?_
    refine lv_if_lt (tgt := 47) hx hb dX0_invert_14 (by decide) (fun c14 => ?_) (fun c14 => absurd (by decide) c14)
    exact z_vret hx hb hr hlocks dX0_invert_47 hK hP hD hS (⟨q1, h1, h2, h3, rfl⟩)
