set_option maxRecDepth 100000 in
set_option maxHeartbeats 4000000 in
theorem m_add (l : Launch) (D : va_G) (cA cI : ClassId) (tys : List (ClassId × FieldType)) (om aSc aPt aDg aSu : Nat) (fp fs fr : Int32) (scf ptf : Nat → Int64) (dg : Nat → Int32) (su : Nat → Int64) (to a b : Nat) (hto : to < 13) (ha13 : a < 13) (hb13 : b < 13) (x y : Int) (hxa : dc dg a x) (hyb : dc dg b y) : zCv l D ((cA, .long) :: (cI, .int) :: tys) yX3_add wsX3_add ({ frames := 3, cells := 0, slots := 0, locals := 70 }) [.ref om, .int (nI to), .int (nI a), .int (nI b)] ([(om, .inr (3, [.int fp, .int fs, .int fr, .ref aSc, .ref aPt, .ref aDg, .ref aSu])), (aSc, .inl (cA, 4, .inr (.inl scf))), (aPt, .inl (cA, 4, .inr (.inl ptf))), (aDg, .inl (cI, 208, .inl dg)), (aSu, .inl (cA, 32, .inr (.inl su)))]) (fun (u : va_W) => ∃ (dg' : Nat → Int32) (su' : Nat → Int64), (∀ i, i / 16 ≠ to → dg' i = dg i) ∧ dc dg' to (x + y) ∧ u = [(om, .inr (3, [.int fp, .int fs, .int fr, .ref aSc, .ref aPt, .ref aDg, .ref aSu])), (aSc, .inl (cA, 4, .inr (.inl scf))), (aPt, .inl (cA, 4, .inr (.inl ptf))), (aDg, .inl (cI, 208, .inl dg')), (aSu, .inl (cA, 32, .inr (.inl su')))]) := by
  refine z_met (fun A => va_Qv (fun (u : va_W) => ∃ (dg' : Nat → Int32) (su' : Nat → Int64), (∀ i, i / 16 ≠ to → dg' i = dg i) ∧ dc dg' to (x + y) ∧ u = [(om, .inr (3, [.int fp, .int fs, .int fr, .ref aSc, .ref aPt, .ref aDg, .ref aSu])), (aSc, .inl (cA, 4, .inr (.inl scf))), (aPt, .inl (cA, 4, .inr (.inl ptf))), (aDg, .inl (cI, 208, .inl dg')), (aSu, .inl (cA, 32, .inr (.inl su')))]) (zB D ((cA, .long) :: (cI, .int) :: tys) A) A) (by decide) rfl (Nat.le_of_ble_eq_true rfl) ?_
  intro p e s m below meth c hx hb hr hml hts hown hlocks hname A hA hP hK hD hS ls hl
  have hown : s.vm.findClass RX3 = some m.cls := hown
  have hl : lv_has ls 5 [(0, .ref om), (1, .int (nI to)), (2, .int (nI a)), (3, .int (nI b))] := hl
  refine lv_iconst (v := nI 0) hx hb dX3_add_0 (by decide) ?_
  refine lv_istore (lv' := [(4, .int (nI 0)), (0, .ref om), (1, .int (nI to)), (2, .int (nI a)), (3, .int (nI b))]) hx hb dX3_add_1 hl (by decide) rfl (fun ls hl => ?_)
  refine z_loop (fun i H locs ls => ∃ f : Nat → Int64, (∀ j, j < i → fI f j = dd dg a j + dd dg b j) ∧ zH D A s.heap ([(om, .inr (3, [.int fp, .int fs, .int fr, .ref aSc, .ref aPt, .ref aDg, .ref aSu])), (aSc, .inl (cA, 4, .inr (.inl scf))), (aPt, .inl (cA, 4, .inr (.inl ptf))), (aDg, .inl (cI, 208, .inl dg)), (aSu, .inl (cA, 32, .inr (.inl f)))]) H locs ∧ lv_has ls 5 [(4, .int (nI i)), (0, .ref om), (1, .int (nI to)), (2, .int (nI a)), (3, .int (nI b))]) 16 ?_ ?_ ?_
  · exact ⟨su, fun j h => by omega, ⟨hP, hD, hS⟩, hl⟩
  · rintro i H locs ls hi ⟨f, h1, ⟨hP, hD, hS⟩, hl⟩ ih
    refine lv_iload hx hb dX3_add_3 (lv_at hl 0 rfl) ?_
    refine lv_bipush (v := nI 16) hx hb dX3_add_5 (by decide) ?_
    refine lv_icmp_ge (tgt := 50) hx hb dX3_add_7 (by decide) (fun c7 => absurd ((nI_leI (by omega) (by omega)).mp c7) (by omega)) (fun c7 => ?_)
    refine lv_aload_n hx hb dX3_add_10 rfl (lv_at hl 1 rfl) ?_
    refine va_get (D := D) (ci := 3) (v := .ref aSu) (C := RX3) (T := TX3) (N := 7) hx hb hts (by decide +kernel) hown hK hP 0 rfl rfl 6 (by decide) (hts (.fieldLink RX3 20 "LadderDeskModel" "sums" "[J") (by decide +kernel)) (fun _ h9 => h9) rfl dX3_add_11 ?_
    refine lv_iload hx hb dX3_add_14 (lv_at hl 0 rfl) ?_
    refine lv_aload_n hx hb dX3_add_16 rfl (lv_at hl 1 rfl) ?_
    refine va_get (D := D) (ci := 3) (v := .ref aDg) (C := RX3) (T := TX3) (N := 7) hx hb hts (by decide +kernel) hown hK hP 0 rfl rfl 5 (by decide) (hts (.fieldLink RX3 16 "LadderDeskModel" "digits" "[I") (by decide +kernel)) (fun _ h9 => h9) rfl dX3_add_17 ?_
    refine lv_bipush (v := nI 16) hx hb dX3_add_20 (by decide) ?_
    refine lv_iload_n hx hb dX3_add_22 rfl (lv_at hl 3 rfl) ?_
    refine lv_imul hx hb dX3_add_23 ?_
    refine zi (pk_mul _ _) ?_
    refine lv_iload hx hb dX3_add_24 (lv_at hl 0 rfl) ?_
    refine lv_iadd hx hb dX3_add_26 ?_
    refine zi (nI_add _ _) ?_
    refine y_ldi hx hb hK hP 3 1 rfl rfl ((16 * a) + i) rfl (by omega) (by omega) dX3_add_27 ?_
    refine lv_topi (fun v27 e27 => ?_)
    refine lv_i2l hx hb dX3_add_28 rfl ?_
    refine lv_topl (fun v28 e28 => ?_)
    refine lv_aload_n hx hb dX3_add_29 rfl (lv_at hl 1 rfl) ?_
    refine va_get (D := D) (ci := 3) (v := .ref aDg) (C := RX3) (T := TX3) (N := 7) hx hb hts (by decide +kernel) hown hK hP 0 rfl rfl 5 (by decide) (hts (.fieldLink RX3 16 "LadderDeskModel" "digits" "[I") (by decide +kernel)) (fun _ h9 => h9) rfl dX3_add_30 ?_
    refine lv_bipush (v := nI 16) hx hb dX3_add_33 (by decide) ?_
    refine lv_iload_n hx hb dX3_add_35 rfl (lv_at hl 4 rfl) ?_
    refine lv_imul hx hb dX3_add_36 ?_
    refine zi (pk_mul _ _) ?_
    refine lv_iload hx hb dX3_add_37 (lv_at hl 0 rfl) ?_
    refine lv_iadd hx hb dX3_add_39 ?_
    refine zi (nI_add _ _) ?_
    refine y_ldi hx hb hK hP 3 1 rfl rfl ((16 * b) + i) rfl (by omega) (by omega) dX3_add_40 ?_
    refine lv_topi (fun v40 e40 => ?_)
    refine lv_i2l hx hb dX3_add_41 rfl ?_
    refine lv_topl (fun v41 e41 => ?_)
    refine lv_ladd hx hb dX3_add_42 ?_
    refine lv_topl (fun v42 e42 => ?_)
    refine y_st hx hb hK hP hD hS 4 0 rfl rfl i rfl (by omega) (by omega) dX3_add_43 (fun H locs hP hD hS => ?_)
    have hP : va_P D vwCl ([(om, .inr (3, [.int fp, .int fs, .int fr, .ref aSc, .ref aPt, .ref aDg, .ref aSu])), (aSc, .inl (cA, 4, .inr (.inl scf))), (aPt, .inl (cA, 4, .inr (.inl ptf))), (aDg, .inl (cI, 208, .inl dg)), (aSu, .inl (cA, 32, .inr (.inl (vp_updL f i v42))))]) H := hP
    have hD : va_D A ([(om, .inr (3, [.int fp, .int fs, .int fr, .ref aSc, .ref aPt, .ref aDg, .ref aSu])), (aSc, .inl (cA, 4, .inr (.inl scf))), (aPt, .inl (cA, 4, .inr (.inl ptf))), (aDg, .inl (cI, 208, .inl dg)), (aSu, .inl (cA, 32, .inr (.inl (vp_updL f i v42))))]) := hD
    refine lv_iinc (v := nI (i + 1)) (lv' := [(4, .int (nI (i + 1))), (0, .ref om), (1, .int (nI to)), (2, .int (nI a)), (3, .int (nI b))]) hx hb dX3_add_44 hl (k := 0) rfl (by show nI _ + nI 1 = _; exact nI_add _ _) (by decide) rfl (fun ls hl => ?_)
    refine lv_goto (tgt := 3) hx hb dX3_add_47 (by decide) ?_
    have a1 := hxa.1 i hi
    have a2 := hyb.1 i hi
    have hB : (cB : Int) = 65536 := rfl
    have i1 : v28.toInt = dd dg a i := by rw [e28, tl_i2l, e27]; rfl
    have i2 : v41.toInt = dd dg b i := by rw [e41, tl_i2l, e40]; rfl
    have i3 : v42.toInt = dd dg a i + dd dg b i := by rw [e42, tl_add (by omega) (by omega), i1, i2]
    exact ih _ _ _ ⟨_, fun j hj => by
      by_cases e : j = i
      · subst e; rw [fI_us, i3]
      · rw [fI_un e]; exact h1 j (by omega), ⟨hP, hD, hS⟩, hl⟩
  · rintro H locs ls ⟨f, h1, ⟨hP, hD, hS⟩, hl⟩
    obtain ⟨k1, k2⟩ := add_m hxa hyb h1
    refine lv_iload hx hb dX3_add_3 (lv_at hl 0 rfl) ?_
    refine lv_bipush (v := nI 16) hx hb dX3_add_5 (by decide) ?_
    refine lv_icmp_ge (tgt := 50) hx hb dX3_add_7 (by decide) (fun c7 => ?_) (fun c7 => absurd ((nI_leI (by omega) (by omega)).mpr (by omega)) c7)
    refine lv_aload_n hx hb dX3_add_50 rfl (lv_at hl 1 rfl) ?_
    refine lv_iload_n hx hb dX3_add_51 rfl (lv_at hl 2 rfl) ?_
    refine z_callv (va_runV (As := [.int (nI to)]) (rest := []) ⟨hx, hb, hml, hown, hts⟩ (m_store l D cA cI tys om aSc aPt aDg aSu fp fs fr scf ptf dg f to hto k1 _) (cwV 1 hts gX3_add_X3_store rfl rfl rfl (by decide +kernel) ⟨Nat.le_of_ble_eq_true rfl, Nat.le_of_ble_eq_true rfl⟩) (z_preV _ hK hP hD (ci := 3) (q0 := 0) rfl rfl) rfl rfl hl.1 rfl (lv_room (Nat.le_of_ble_eq_true rfl)) dX3_add_52 ⟨Nat.le_of_ble_eq_true rfl, Nat.le_of_ble_eq_true rfl⟩) hD hS hA (fun u H locs hu hP hD hS => ?_)
    obtain ⟨dg', su', k3, k4, rfl⟩ := hu
    rw [k2] at k4
    exact z_vret hx hb hr hlocks dX3_add_55 hK hP hD hS (⟨dg', su', k3, by unfold dc; rw [Int.add_emod]; exact k4, rfl⟩)
set_option maxRecDepth 100000 in
set_option maxHeartbeats 4000000 in
theorem m_subtract (l : Launch) (D : va_G) (cA cI : ClassId) (tys : List (ClassId × FieldType)) (om aSc aPt aDg aSu : Nat) (fp fs fr : Int32) (scf ptf : Nat → Int64) (dg : Nat → Int32) (su : Nat → Int64) (to a b : Nat) (hto : to < 13) (ha13 : a < 13) (hb13 : b < 13) (x y : Int) (hxa : dc dg a x) (hyb : dc dg b y) : zCv l D ((cA, .long) :: (cI, .int) :: tys) yX3_subtract wsX3_subtract ({ frames := 3, cells := 0, slots := 0, locals := 70 }) [.ref om, .int (nI to), .int (nI a), .int (nI b)] ([(om, .inr (3, [.int fp, .int fs, .int fr, .ref aSc, .ref aPt, .ref aDg, .ref aSu])), (aSc, .inl (cA, 4, .inr (.inl scf))), (aPt, .inl (cA, 4, .inr (.inl ptf))), (aDg, .inl (cI, 208, .inl dg)), (aSu, .inl (cA, 32, .inr (.inl su)))]) (fun (u : va_W) => ∃ (dg' : Nat → Int32) (su' : Nat → Int64), (∀ i, i / 16 ≠ to → dg' i = dg i) ∧ dc dg' to (x - y) ∧ u = [(om, .inr (3, [.int fp, .int fs, .int fr, .ref aSc, .ref aPt, .ref aDg, .ref aSu])), (aSc, .inl (cA, 4, .inr (.inl scf))), (aPt, .inl (cA, 4, .inr (.inl ptf))), (aDg, .inl (cI, 208, .inl dg')), (aSu, .inl (cA, 32, .inr (.inl su')))]) := by
  refine z_met (fun A => va_Qv (fun (u : va_W) => ∃ (dg' : Nat → Int32) (su' : Nat → Int64), (∀ i, i / 16 ≠ to → dg' i = dg i) ∧ dc dg' to (x - y) ∧ u = [(om, .inr (3, [.int fp, .int fs, .int fr, .ref aSc, .ref aPt, .ref aDg, .ref aSu])), (aSc, .inl (cA, 4, .inr (.inl scf))), (aPt, .inl (cA, 4, .inr (.inl ptf))), (aDg, .inl (cI, 208, .inl dg')), (aSu, .inl (cA, 32, .inr (.inl su')))]) (zB D ((cA, .long) :: (cI, .int) :: tys) A) A) (by decide) rfl (Nat.le_of_ble_eq_true rfl) ?_
  intro p e s m below meth c hx hb hr hml hts hown hlocks hname A hA hP hK hD hS ls hl
  have hown : s.vm.findClass RX3 = some m.cls := hown
  have hl : lv_has ls 9 [(0, .ref om), (1, .int (nI to)), (2, .int (nI a)), (3, .int (nI b))] := hl
  refine lv_lconst (v := 0) hx hb dX3_subtract_0 (by decide) ?_
  refine lv_lstore (lv' := [(4, .long 0), (0, .ref om), (1, .int (nI to)), (2, .int (nI a)), (3, .int (nI b))]) hx hb dX3_subtract_1 hl (by decide) rfl (fun ls hl => ?_)
  refine lv_iconst (v := nI 0) hx hb dX3_subtract_3 (by decide) ?_
  refine lv_istore (lv' := [(6, .int (nI 0)), (4, .long 0), (0, .ref om), (1, .int (nI to)), (2, .int (nI a)), (3, .int (nI b))]) hx hb dX3_subtract_4 hl (by decide) rfl (fun ls hl => ?_)
  refine z_loop (fun i H locs ls => ∃ (f : Nat → Int64) (o : Int64), Jsu dg a b f i o ∧ zH D A s.heap ([(om, .inr (3, [.int fp, .int fs, .int fr, .ref aSc, .ref aPt, .ref aDg, .ref aSu])), (aSc, .inl (cA, 4, .inr (.inl scf))), (aPt, .inl (cA, 4, .inr (.inl ptf))), (aDg, .inl (cI, 208, .inl dg)), (aSu, .inl (cA, 32, .inr (.inl f)))]) H locs ∧ lv_has ls 9 [(6, .int (nI i)), (4, .long o), (0, .ref om), (1, .int (nI to)), (2, .int (nI a)), (3, .int (nI b))]) 16 ?_ ?_ ?_
  · exact ⟨su, 0, Jsu_0 dg a b su, ⟨hP, hD, hS⟩, hl⟩
  · rintro i H locs ls hi ⟨f, o, h1, ⟨hP, hD, hS⟩, hl⟩ ih
    refine lv_iload hx hb dX3_subtract_6 (lv_at hl 0 rfl) ?_
    refine lv_bipush (v := nI 16) hx hb dX3_subtract_8 (by decide) ?_
    refine lv_icmp_ge (tgt := 78) hx hb dX3_subtract_10 (by decide) (fun c10 => absurd ((nI_leI (by omega) (by omega)).mp c10) (by omega)) (fun c10 => ?_)
    refine lv_aload_n hx hb dX3_subtract_13 rfl (lv_at hl 2 rfl) ?_
    refine va_get (D := D) (ci := 3) (v := .ref aDg) (C := RX3) (T := TX3) (N := 7) hx hb hts (by decide +kernel) hown hK hP 0 rfl rfl 5 (by decide) (hts (.fieldLink RX3 16 "LadderDeskModel" "digits" "[I") (by decide +kernel)) (fun _ h9 => h9) rfl dX3_subtract_14 ?_
    refine lv_bipush (v := nI 16) hx hb dX3_subtract_17 (by decide) ?_
    refine lv_iload_n hx hb dX3_subtract_19 rfl (lv_at hl 4 rfl) ?_
    refine lv_imul hx hb dX3_subtract_20 ?_
    refine zi (pk_mul _ _) ?_
    refine lv_iload hx hb dX3_subtract_21 (lv_at hl 0 rfl) ?_
    refine lv_iadd hx hb dX3_subtract_23 ?_
    refine zi (nI_add _ _) ?_
    refine y_ldi hx hb hK hP 3 1 rfl rfl ((16 * a) + i) rfl (by omega) (by omega) dX3_subtract_24 ?_
    refine lv_topi (fun v24 e24 => ?_)
    refine lv_i2l hx hb dX3_subtract_25 rfl ?_
    refine lv_topl (fun v25 e25 => ?_)
    refine lv_iload hx hb dX3_subtract_26 (lv_at hl 0 rfl) ?_
    refine z_calli (va_runS (As := [.int (nI i)]) (rest := [.long v25]) ⟨hx, hb, hml, hown, hts⟩ (c_ofP l D ((cA, .long) :: (cI, .int) :: tys) _ i (by omega) _) (va_cwS 1 hts gX3_subtract_X3_ofP rfl rfl rfl (by decide +kernel) ⟨Nat.le_of_ble_eq_true rfl, Nat.le_of_ble_eq_true rfl⟩) (z_preS _ hK hP hD) rfl rfl hl.1 rfl (lv_room (Nat.le_of_ble_eq_true rfl)) dX3_subtract_28 ⟨Nat.le_of_ble_eq_true rfl, Nat.le_of_ble_eq_true rfl⟩) hD hS hA (fun r28 u H locs hu hP hD hS => ?_)
    obtain ⟨rfl, ho28⟩ := hu
    refine lv_i2l hx hb dX3_subtract_31 rfl ?_
    refine lv_topl (fun v31 e31 => ?_)
    refine lv_ladd hx hb dX3_subtract_32 ?_
    refine lv_topl (fun v32 e32 => ?_)
    refine lv_aload_n hx hb dX3_subtract_33 rfl (lv_at hl 2 rfl) ?_
    refine va_get (D := D) (ci := 3) (v := .ref aDg) (C := RX3) (T := TX3) (N := 7) hx hb hts (by decide +kernel) hown hK hP 0 rfl rfl 5 (by decide) (hts (.fieldLink RX3 16 "LadderDeskModel" "digits" "[I") (by decide +kernel)) (fun _ h9 => h9) rfl dX3_subtract_34 ?_
    refine lv_bipush (v := nI 16) hx hb dX3_subtract_37 (by decide) ?_
    refine lv_iload_n hx hb dX3_subtract_39 rfl (lv_at hl 5 rfl) ?_
    refine lv_imul hx hb dX3_subtract_40 ?_
    refine zi (pk_mul _ _) ?_
    refine lv_iload hx hb dX3_subtract_41 (lv_at hl 0 rfl) ?_
    refine lv_iadd hx hb dX3_subtract_43 ?_
    refine zi (nI_add _ _) ?_
    refine y_ldi hx hb hK hP 3 1 rfl rfl ((16 * b) + i) rfl (by omega) (by omega) dX3_subtract_44 ?_
    refine lv_topi (fun v44 e44 => ?_)
    refine lv_i2l hx hb dX3_subtract_45 rfl ?_
    refine lv_topl (fun v45 e45 => ?_)
    refine lv_lsub hx hb dX3_subtract_46 ?_
    refine lv_topl (fun v46 e46 => ?_)
    refine lv_lload hx hb dX3_subtract_47 (lv_at hl 1 rfl) ?_
    refine lv_ladd hx hb dX3_subtract_49 ?_
    refine lv_topl (fun v49 e49 => ?_)
    refine lv_lstore (lv' := [(7, .long v49), (6, .int (nI i)), (4, .long o), (0, .ref om), (1, .int (nI to)), (2, .int (nI a)), (3, .int (nI b))]) hx hb dX3_subtract_50 hl (by decide) rfl (fun ls hl => ?_)
    refine lv_aload_n hx hb dX3_subtract_52 rfl (lv_at hl 3 rfl) ?_
    refine va_get (D := D) (ci := 3) (v := .ref aSu) (C := RX3) (T := TX3) (N := 7) hx hb hts (by decide +kernel) hown hK hP 0 rfl rfl 6 (by decide) (hts (.fieldLink RX3 20 "LadderDeskModel" "sums" "[J") (by decide +kernel)) (fun _ h9 => h9) rfl dX3_subtract_53 ?_
    refine lv_iload hx hb dX3_subtract_56 (lv_at hl 1 rfl) ?_
    refine lv_lload hx hb dX3_subtract_58 (lv_at hl 0 rfl) ?_
    refine lv_ldc2 (v := 65535) hx hb hown (hts (.constantLong RX3 33 (65535)) (by decide +kernel)) dX3_subtract_60 ?_
    refine lv_land hx hb dX3_subtract_63 ?_
    refine lv_topl (fun v63 e63 => ?_)
    refine y_st hx hb hK hP hD hS 4 0 rfl rfl i rfl (by omega) (by omega) dX3_subtract_64 (fun H locs hP hD hS => ?_)
    have hP : va_P D vwCl ([(om, .inr (3, [.int fp, .int fs, .int fr, .ref aSc, .ref aPt, .ref aDg, .ref aSu])), (aSc, .inl (cA, 4, .inr (.inl scf))), (aPt, .inl (cA, 4, .inr (.inl ptf))), (aDg, .inl (cI, 208, .inl dg)), (aSu, .inl (cA, 32, .inr (.inl (vp_updL f i v63))))]) H := hP
    have hD : va_D A ([(om, .inr (3, [.int fp, .int fs, .int fr, .ref aSc, .ref aPt, .ref aDg, .ref aSu])), (aSc, .inl (cA, 4, .inr (.inl scf))), (aPt, .inl (cA, 4, .inr (.inl ptf))), (aDg, .inl (cI, 208, .inl dg)), (aSu, .inl (cA, 32, .inr (.inl (vp_updL f i v63))))]) := hD
    refine lv_lload hx hb dX3_subtract_65 (lv_at hl 0 rfl) ?_
    refine lv_bipush (v := nI 16) hx hb dX3_subtract_67 (by decide) ?_
    refine lv_lshr hx hb dX3_subtract_69 rfl ?_
    refine lv_topl (fun v69 e69 => ?_)
    refine lv_lstore (lv' := [(4, .long v69), (7, .long v49), (6, .int (nI i)), (0, .ref om), (1, .int (nI to)), (2, .int (nI a)), (3, .int (nI b))]) hx hb dX3_subtract_70 hl (by decide) rfl (fun ls hl => ?_)
    refine lv_iinc (v := nI (i + 1)) (lv' := [(6, .int (nI (i + 1))), (4, .long v69), (7, .long v49), (0, .ref om), (1, .int (nI to)), (2, .int (nI a)), (3, .int (nI b))]) hx hb dX3_subtract_72 hl (k := 2) rfl (by show nI _ + nI 1 = _; exact nI_add _ _) (by decide) rfl (fun ls hl => ?_)
    refine lv_goto (tgt := 6) hx hb dX3_subtract_75 (by decide) ?_
    exact ih _ _ _ ⟨_, _, Jsu_s (x1 := v25) (x2 := v31) (x3 := v32) (x4 := v45) (x5 := v46) (x6 := v49) h1 (hxa.1 i hi) (hyb.1 i hi) (by rw [e25, tl_i2l, e24]; rfl) (by rw [e31, tl_i2l]; exact ho28) e32 (by rw [e45, tl_i2l, e44]; rfl) e46 e49 e63 e69, ⟨hP, hD, hS⟩, lv_sub hl [0, 1, 3, 4, 5, 6] rfl⟩
  · rintro H locs ls ⟨f, o, h1, ⟨hP, hD, hS⟩, hl⟩
    refine lv_iload hx hb dX3_subtract_6 (lv_at hl 0 rfl) ?_
    refine lv_bipush (v := nI 16) hx hb dX3_subtract_8 (by decide) ?_
    refine lv_icmp_ge (tgt := 78) hx hb dX3_subtract_10 (by decide) (fun c10 => ?_) (fun c10 => absurd ((nI_leI (by omega) (by omega)).mpr (by omega)) c10)
    refine lv_aload_n hx hb dX3_subtract_78 rfl (lv_at hl 2 rfl) ?_
    refine va_get (D := D) (ci := 3) (v := .ref aSu) (C := RX3) (T := TX3) (N := 7) hx hb hts (by decide +kernel) hown hK hP 0 rfl rfl 6 (by decide) (hts (.fieldLink RX3 20 "LadderDeskModel" "sums" "[J") (by decide +kernel)) (fun _ h9 => h9) rfl dX3_subtract_79 ?_
    refine lv_bipush (v := nI 15) hx hb dX3_subtract_82 (by decide) ?_
    refine lv_aload_n hx hb dX3_subtract_84 rfl (lv_at hl 2 rfl) ?_
    refine va_get (D := D) (ci := 3) (v := .ref aSu) (C := RX3) (T := TX3) (N := 7) hx hb hts (by decide +kernel) hown hK hP 0 rfl rfl 6 (by decide) (hts (.fieldLink RX3 20 "LadderDeskModel" "sums" "[J") (by decide +kernel)) (fun _ h9 => h9) rfl dX3_subtract_85 ?_
    refine lv_bipush (v := nI 15) hx hb dX3_subtract_88 (by decide) ?_
    refine y_ld hx hb hK hP 4 0 rfl rfl 15 rfl (by omega) (by omega) dX3_subtract_90 ?_
    refine lv_topl (fun v90 e90 => ?_)
    refine lv_lload hx hb dX3_subtract_91 (lv_at hl 1 rfl) ?_
    refine lv_ldc2 (v := 65536) hx hb hown (hts (.constantLong RX3 49 (65536)) (by decide +kernel)) dX3_subtract_93 ?_
    refine lv_lmul hx hb dX3_subtract_96 ?_
    refine lv_topl (fun v96 e96 => ?_)
    refine lv_ladd hx hb dX3_subtract_97 ?_
    refine lv_topl (fun v97 e97 => ?_)
    refine y_st hx hb hK hP hD hS 4 0 rfl rfl 15 rfl (by omega) (by omega) dX3_subtract_98 (fun H locs hP hD hS => ?_)
    have hP : va_P D vwCl ([(om, .inr (3, [.int fp, .int fs, .int fr, .ref aSc, .ref aPt, .ref aDg, .ref aSu])), (aSc, .inl (cA, 4, .inr (.inl scf))), (aPt, .inl (cA, 4, .inr (.inl ptf))), (aDg, .inl (cI, 208, .inl dg)), (aSu, .inl (cA, 32, .inr (.inl (vp_updL f 15 v97))))]) H := hP
    have hD : va_D A ([(om, .inr (3, [.int fp, .int fs, .int fr, .ref aSc, .ref aPt, .ref aDg, .ref aSu])), (aSc, .inl (cA, 4, .inr (.inl scf))), (aPt, .inl (cA, 4, .inr (.inl ptf))), (aDg, .inl (cI, 208, .inl dg)), (aSu, .inl (cA, 32, .inr (.inl (vp_updL f 15 v97))))]) := hD
    refine lv_aload_n hx hb dX3_subtract_99 rfl (lv_at hl 2 rfl) ?_
    refine lv_iload_n hx hb dX3_subtract_100 rfl (lv_at hl 3 rfl) ?_
    obtain ⟨k1, k2⟩ := Jsu_e (m := v96) (z := v97) h1 hxa hyb e96 (by rw [e97, e90])
    refine z_callv (va_runV (As := [.int (nI to)]) (rest := []) ⟨hx, hb, hml, hown, hts⟩ (m_store l D cA cI tys om aSc aPt aDg aSu fp fs fr scf ptf dg (vp_updL f 15 v97) to hto k1 _) (cwV 1 hts gX3_subtract_X3_store rfl rfl rfl (by decide +kernel) ⟨Nat.le_of_ble_eq_true rfl, Nat.le_of_ble_eq_true rfl⟩) (z_preV _ hK hP hD (ci := 3) (q0 := 0) rfl rfl) rfl rfl hl.1 rfl (lv_room (Nat.le_of_ble_eq_true rfl)) dX3_subtract_101 ⟨Nat.le_of_ble_eq_true rfl, Nat.le_of_ble_eq_true rfl⟩) hD hS hA (fun u H locs hu hP hD hS => ?_)
    obtain ⟨dg', su', k3, k4, rfl⟩ := hu
    rw [k2] at k4
    exact z_vret hx hb hr hlocks dX3_subtract_104 hK hP hD hS (⟨dg', su', k3, by unfold dc; rw [Int.sub_emod]; exact k4, rfl⟩)
set_option maxRecDepth 100000 in
set_option maxHeartbeats 4000000 in
theorem m_multiply (l : Launch) (D : va_G) (cA cI : ClassId) (tys : List (ClassId × FieldType)) (om aSc aPt aDg aSu : Nat) (fp fs fr : Int32) (scf ptf : Nat → Int64) (dg : Nat → Int32) (su : Nat → Int64) (to a b : Nat) (hto : to < 13) (ha13 : a < 13) (hb13 : b < 13) (x y : Int) (hxa : dc dg a x) (hyb : dc dg b y) : zCv l D ((cA, .long) :: (cI, .int) :: tys) yX3_multiply wsX3_multiply ({ frames := 3, cells := 0, slots := 0, locals := 70 }) [.ref om, .int (nI to), .int (nI a), .int (nI b)] ([(om, .inr (3, [.int fp, .int fs, .int fr, .ref aSc, .ref aPt, .ref aDg, .ref aSu])), (aSc, .inl (cA, 4, .inr (.inl scf))), (aPt, .inl (cA, 4, .inr (.inl ptf))), (aDg, .inl (cI, 208, .inl dg)), (aSu, .inl (cA, 32, .inr (.inl su)))]) (fun (u : va_W) => ∃ (dg' : Nat → Int32) (su' : Nat → Int64), (∀ i, i / 16 ≠ to → dg' i = dg i) ∧ dc dg' to (x * y) ∧ u = [(om, .inr (3, [.int fp, .int fs, .int fr, .ref aSc, .ref aPt, .ref aDg, .ref aSu])), (aSc, .inl (cA, 4, .inr (.inl scf))), (aPt, .inl (cA, 4, .inr (.inl ptf))), (aDg, .inl (cI, 208, .inl dg')), (aSu, .inl (cA, 32, .inr (.inl su')))]) := by
  refine z_met (fun A => va_Qv (fun (u : va_W) => ∃ (dg' : Nat → Int32) (su' : Nat → Int64), (∀ i, i / 16 ≠ to → dg' i = dg i) ∧ dc dg' to (x * y) ∧ u = [(om, .inr (3, [.int fp, .int fs, .int fr, .ref aSc, .ref aPt, .ref aDg, .ref aSu])), (aSc, .inl (cA, 4, .inr (.inl scf))), (aPt, .inl (cA, 4, .inr (.inl ptf))), (aDg, .inl (cI, 208, .inl dg')), (aSu, .inl (cA, 32, .inr (.inl su')))]) (zB D ((cA, .long) :: (cI, .int) :: tys) A) A) (by decide) rfl (Nat.le_of_ble_eq_true rfl) ?_
  intro p e s m below meth c hx hb hr hml hts hown hlocks hname A hA hP hK hD hS ls hl
  have hown : s.vm.findClass RX3 = some m.cls := hown
  have hl : lv_has ls 6 [(0, .ref om), (1, .int (nI to)), (2, .int (nI a)), (3, .int (nI b))] := hl
  refine lv_iconst (v := nI 0) hx hb dX3_multiply_0 (by decide) ?_
  refine lv_istore (lv' := [(4, .int (nI 0)), (0, .ref om), (1, .int (nI to)), (2, .int (nI a)), (3, .int (nI b))]) hx hb dX3_multiply_1 hl (by decide) rfl (fun ls hl => ?_)
  refine z_loop (fun i H locs ls => ∃ f : Nat → Int64, (∀ j, j < i → f j = 0) ∧ zH D A s.heap ([(om, .inr (3, [.int fp, .int fs, .int fr, .ref aSc, .ref aPt, .ref aDg, .ref aSu])), (aSc, .inl (cA, 4, .inr (.inl scf))), (aPt, .inl (cA, 4, .inr (.inl ptf))), (aDg, .inl (cI, 208, .inl dg)), (aSu, .inl (cA, 32, .inr (.inl f)))]) H locs ∧ lv_has ls 6 [(4, .int (nI i)), (0, .ref om), (1, .int (nI to)), (2, .int (nI a)), (3, .int (nI b))]) 32 ?_ ?_ ?_
  · exact ⟨su, fun j h => by omega, ⟨hP, hD, hS⟩, hl⟩
  · rintro i H locs ls hi ⟨f, h1, ⟨hP, hD, hS⟩, hl⟩ ih
    refine lv_iload hx hb dX3_multiply_3 (lv_at hl 0 rfl) ?_
    refine lv_bipush (v := nI 32) hx hb dX3_multiply_5 (by decide) ?_
    refine lv_icmp_ge (tgt := 24) hx hb dX3_multiply_7 (by decide) (fun c7 => absurd ((nI_leI (by omega) (by omega)).mp c7) (by omega)) (fun c7 => ?_)
    refine lv_aload_n hx hb dX3_multiply_10 rfl (lv_at hl 1 rfl) ?_
    refine va_get (D := D) (ci := 3) (v := .ref aSu) (C := RX3) (T := TX3) (N := 7) hx hb hts (by decide +kernel) hown hK hP 0 rfl rfl 6 (by decide) (hts (.fieldLink RX3 20 "LadderDeskModel" "sums" "[J") (by decide +kernel)) (fun _ h9 => h9) rfl dX3_multiply_11 ?_
    refine lv_iload hx hb dX3_multiply_14 (lv_at hl 0 rfl) ?_
    refine lv_lconst (v := 0) hx hb dX3_multiply_16 (by decide) ?_
    refine y_st hx hb hK hP hD hS 4 0 rfl rfl i rfl (by omega) (by omega) dX3_multiply_17 (fun H locs hP hD hS => ?_)
    have hP : va_P D vwCl ([(om, .inr (3, [.int fp, .int fs, .int fr, .ref aSc, .ref aPt, .ref aDg, .ref aSu])), (aSc, .inl (cA, 4, .inr (.inl scf))), (aPt, .inl (cA, 4, .inr (.inl ptf))), (aDg, .inl (cI, 208, .inl dg)), (aSu, .inl (cA, 32, .inr (.inl (vp_updL f i 0))))]) H := hP
    have hD : va_D A ([(om, .inr (3, [.int fp, .int fs, .int fr, .ref aSc, .ref aPt, .ref aDg, .ref aSu])), (aSc, .inl (cA, 4, .inr (.inl scf))), (aPt, .inl (cA, 4, .inr (.inl ptf))), (aDg, .inl (cI, 208, .inl dg)), (aSu, .inl (cA, 32, .inr (.inl (vp_updL f i 0))))]) := hD
    refine lv_iinc (v := nI (i + 1)) (lv' := [(4, .int (nI (i + 1))), (0, .ref om), (1, .int (nI to)), (2, .int (nI a)), (3, .int (nI b))]) hx hb dX3_multiply_18 hl (k := 0) rfl (by show nI _ + nI 1 = _; exact nI_add _ _) (by decide) rfl (fun ls hl => ?_)
    refine lv_goto (tgt := 3) hx hb dX3_multiply_21 (by decide) ?_
    exact ih _ _ _ ⟨_, fun j hj => by
      unfold vp_updL
      by_cases e : j = i
      · rw [if_pos e]
      · rw [if_neg e]; exact h1 j (by omega), ⟨hP, hD, hS⟩, hl⟩
  · rintro H locs ls ⟨f0, h0, ⟨hP, hD, hS⟩, hl⟩
    refine lv_iload hx hb dX3_multiply_3 (lv_at hl 0 rfl) ?_
    refine lv_bipush (v := nI 32) hx hb dX3_multiply_5 (by decide) ?_
    refine lv_icmp_ge (tgt := 24) hx hb dX3_multiply_7 (by decide) (fun c7 => ?_) (fun c7 => absurd ((nI_leI (by omega) (by omega)).mpr (by omega)) c7)
    refine lv_iconst (v := nI 0) hx hb dX3_multiply_24 (by decide) ?_
    refine lv_istore (lv' := [(4, .int (nI 0)), (0, .ref om), (1, .int (nI to)), (2, .int (nI a)), (3, .int (nI b))]) hx hb dX3_multiply_25 hl (by decide) rfl (fun ls hl => ?_)
    refine z_loop (fun i H locs ls => ∃ f : Nat → Int64, Kgo dg a b f i ∧ zH D A s.heap ([(om, .inr (3, [.int fp, .int fs, .int fr, .ref aSc, .ref aPt, .ref aDg, .ref aSu])), (aSc, .inl (cA, 4, .inr (.inl scf))), (aPt, .inl (cA, 4, .inr (.inl ptf))), (aDg, .inl (cI, 208, .inl dg)), (aSu, .inl (cA, 32, .inr (.inl f)))]) H locs ∧ lv_has ls 6 [(4, .int (nI i)), (0, .ref om), (1, .int (nI to)), (2, .int (nI a)), (3, .int (nI b))]) 16 ?_ ?_ ?_
    · exact ⟨f0, Kgo_0 h0, ⟨hP, hD, hS⟩, hl⟩
    · rintro i H locs ls hi ⟨f, hI, ⟨hP, hD, hS⟩, hl⟩ ih
      refine lv_iload hx hb dX3_multiply_27 (lv_at hl 0 rfl) ?_
      refine lv_bipush (v := nI 16) hx hb dX3_multiply_29 (by decide) ?_
      refine lv_icmp_ge (tgt := 104) hx hb dX3_multiply_31 (by decide) (fun c31 => absurd ((nI_leI (by omega) (by omega)).mp c31) (by omega)) (fun c31 => ?_)
      refine lv_iconst (v := nI 0) hx hb dX3_multiply_34 (by decide) ?_
      refine lv_istore (lv' := [(5, .int (nI 0)), (4, .int (nI i)), (0, .ref om), (1, .int (nI to)), (2, .int (nI a)), (3, .int (nI b))]) hx hb dX3_multiply_35 hl (by decide) rfl (fun ls hl => ?_)
      refine z_loop (fun j H locs ls => ∃ f : Nat → Int64, Kgi dg a b f i j ∧ zH D A s.heap ([(om, .inr (3, [.int fp, .int fs, .int fr, .ref aSc, .ref aPt, .ref aDg, .ref aSu])), (aSc, .inl (cA, 4, .inr (.inl scf))), (aPt, .inl (cA, 4, .inr (.inl ptf))), (aDg, .inl (cI, 208, .inl dg)), (aSu, .inl (cA, 32, .inr (.inl f)))]) H locs ∧ lv_has ls 6 [(5, .int (nI j)), (4, .int (nI i)), (0, .ref om), (1, .int (nI to)), (2, .int (nI a)), (3, .int (nI b))]) 16 ?_ ?_ ?_
      · exact ⟨f, Kgi_0 hI, ⟨hP, hD, hS⟩, lv_sub hl [0, 1, 2, 3, 4, 5] rfl⟩
      · rintro j H locs ls hj ⟨f, hI, ⟨hP, hD, hS⟩, hl⟩ ih2
        refine lv_iload hx hb dX3_multiply_37 (lv_at hl 0 rfl) ?_
        refine lv_bipush (v := nI 16) hx hb dX3_multiply_39 (by decide) ?_
        refine lv_icmp_ge (tgt := 98) hx hb dX3_multiply_41 (by decide) (fun c41 => absurd ((nI_leI (by omega) (by omega)).mp c41) (by omega)) (fun c41 => ?_)
        refine lv_aload_n hx hb dX3_multiply_44 rfl (lv_at hl 2 rfl) ?_
        refine va_get (D := D) (ci := 3) (v := .ref aSu) (C := RX3) (T := TX3) (N := 7) hx hb hts (by decide +kernel) hown hK hP 0 rfl rfl 6 (by decide) (hts (.fieldLink RX3 20 "LadderDeskModel" "sums" "[J") (by decide +kernel)) (fun _ h9 => h9) rfl dX3_multiply_45 ?_
        refine lv_iload hx hb dX3_multiply_48 (lv_at hl 1 rfl) ?_
        refine lv_iload hx hb dX3_multiply_50 (lv_at hl 0 rfl) ?_
        refine lv_iadd hx hb dX3_multiply_52 ?_
        refine zi (nI_add _ _) ?_
        refine lv_aload_n hx hb dX3_multiply_53 rfl (lv_at hl 2 rfl) ?_
        refine va_get (D := D) (ci := 3) (v := .ref aSu) (C := RX3) (T := TX3) (N := 7) hx hb hts (by decide +kernel) hown hK hP 0 rfl rfl 6 (by decide) (hts (.fieldLink RX3 20 "LadderDeskModel" "sums" "[J") (by decide +kernel)) (fun _ h9 => h9) rfl dX3_multiply_54 ?_
        refine lv_iload hx hb dX3_multiply_57 (lv_at hl 1 rfl) ?_
        refine lv_iload hx hb dX3_multiply_59 (lv_at hl 0 rfl) ?_
        refine lv_iadd hx hb dX3_multiply_61 ?_
        refine zi (nI_add _ _) ?_
        refine y_ld hx hb hK hP 4 0 rfl rfl (i + j) rfl (by omega) (by omega) dX3_multiply_62 ?_
        refine lv_topl (fun v62 e62 => ?_)
        refine lv_aload_n hx hb dX3_multiply_63 rfl (lv_at hl 2 rfl) ?_
        refine va_get (D := D) (ci := 3) (v := .ref aDg) (C := RX3) (T := TX3) (N := 7) hx hb hts (by decide +kernel) hown hK hP 0 rfl rfl 5 (by decide) (hts (.fieldLink RX3 16 "LadderDeskModel" "digits" "[I") (by decide +kernel)) (fun _ h9 => h9) rfl dX3_multiply_64 ?_
        refine lv_bipush (v := nI 16) hx hb dX3_multiply_67 (by decide) ?_
        refine lv_iload_n hx hb dX3_multiply_69 rfl (lv_at hl 4 rfl) ?_
        refine lv_imul hx hb dX3_multiply_70 ?_
        refine zi (pk_mul _ _) ?_
        refine lv_iload hx hb dX3_multiply_71 (lv_at hl 1 rfl) ?_
        refine lv_iadd hx hb dX3_multiply_73 ?_
        refine zi (nI_add _ _) ?_
        refine y_ldi hx hb hK hP 3 1 rfl rfl ((16 * a) + i) rfl (by omega) (by omega) dX3_multiply_74 ?_
        refine lv_topi (fun v74 e74 => ?_)
        refine lv_i2l hx hb dX3_multiply_75 rfl ?_
        refine lv_topl (fun v75 e75 => ?_)
        refine lv_aload_n hx hb dX3_multiply_76 rfl (lv_at hl 2 rfl) ?_
        refine va_get (D := D) (ci := 3) (v := .ref aDg) (C := RX3) (T := TX3) (N := 7) hx hb hts (by decide +kernel) hown hK hP 0 rfl rfl 5 (by decide) (hts (.fieldLink RX3 16 "LadderDeskModel" "digits" "[I") (by decide +kernel)) (fun _ h9 => h9) rfl dX3_multiply_77 ?_
        refine lv_bipush (v := nI 16) hx hb dX3_multiply_80 (by decide) ?_
        refine lv_iload_n hx hb dX3_multiply_82 rfl (lv_at hl 5 rfl) ?_
        refine lv_imul hx hb dX3_multiply_83 ?_
        refine zi (pk_mul _ _) ?_
        refine lv_iload hx hb dX3_multiply_84 (lv_at hl 0 rfl) ?_
        refine lv_iadd hx hb dX3_multiply_86 ?_
        refine zi (nI_add _ _) ?_
        refine y_ldi hx hb hK hP 3 1 rfl rfl ((16 * b) + j) rfl (by omega) (by omega) dX3_multiply_87 ?_
        refine lv_topi (fun v87 e87 => ?_)
        refine lv_i2l hx hb dX3_multiply_88 rfl ?_
        refine lv_topl (fun v88 e88 => ?_)
        refine lv_lmul hx hb dX3_multiply_89 ?_
        refine lv_topl (fun v89 e89 => ?_)
        refine lv_ladd hx hb dX3_multiply_90 ?_
        refine lv_topl (fun v90 e90 => ?_)
        refine y_st hx hb hK hP hD hS 4 0 rfl rfl (i + j) rfl (by omega) (by omega) dX3_multiply_91 (fun H locs hP hD hS => ?_)
        have hP : va_P D vwCl ([(om, .inr (3, [.int fp, .int fs, .int fr, .ref aSc, .ref aPt, .ref aDg, .ref aSu])), (aSc, .inl (cA, 4, .inr (.inl scf))), (aPt, .inl (cA, 4, .inr (.inl ptf))), (aDg, .inl (cI, 208, .inl dg)), (aSu, .inl (cA, 32, .inr (.inl (vp_updL f (i + j) v90))))]) H := hP
        have hD : va_D A ([(om, .inr (3, [.int fp, .int fs, .int fr, .ref aSc, .ref aPt, .ref aDg, .ref aSu])), (aSc, .inl (cA, 4, .inr (.inl scf))), (aPt, .inl (cA, 4, .inr (.inl ptf))), (aDg, .inl (cI, 208, .inl dg)), (aSu, .inl (cA, 32, .inr (.inl (vp_updL f (i + j) v90))))]) := hD
        refine lv_iinc (v := nI (j + 1)) (lv' := [(5, .int (nI (j + 1))), (4, .int (nI i)), (0, .ref om), (1, .int (nI to)), (2, .int (nI a)), (3, .int (nI b))]) hx hb dX3_multiply_92 hl (k := 0) rfl (by show nI _ + nI 1 = _; exact nI_add _ _) (by decide) rfl (fun ls hl => ?_)
        refine lv_goto (tgt := 37) hx hb dX3_multiply_95 (by decide) ?_
        exact ih2 _ _ _ ⟨_, Kgi_s (x1 := v75) (x2 := v88) (x := v89) (y := v90) hI hi hj (hxa.1 i hi) (hyb.1 j hj) (by rw [e75, tl_i2l, e74]; rfl) (by rw [e88, tl_i2l, e87]; rfl) e89 (by rw [e90, e62]), ⟨hP, hD, hS⟩, hl⟩
      · rintro H locs ls ⟨f, hI, ⟨hP, hD, hS⟩, hl⟩
        refine lv_iload hx hb dX3_multiply_37 (lv_at hl 0 rfl) ?_
        refine lv_bipush (v := nI 16) hx hb dX3_multiply_39 (by decide) ?_
        refine lv_icmp_ge (tgt := 98) hx hb dX3_multiply_41 (by decide) (fun c41 => ?_) (fun c41 => absurd ((nI_leI (by omega) (by omega)).mpr (by omega)) c41)
        refine lv_iinc (v := nI (i + 1)) (lv' := [(4, .int (nI (i + 1))), (5, .int (nI 16)), (0, .ref om), (1, .int (nI to)), (2, .int (nI a)), (3, .int (nI b))]) hx hb dX3_multiply_98 hl (k := 1) rfl (by show nI _ + nI 1 = _; exact nI_add _ _) (by decide) rfl (fun ls hl => ?_)
        refine lv_goto (tgt := 27) hx hb dX3_multiply_101 (by decide) ?_
        exact ih _ _ _ ⟨_, Kgi_e hI, ⟨hP, hD, hS⟩, lv_sub hl [0, 2, 3, 4, 5] rfl⟩
    · rintro H locs ls ⟨w0, hI, ⟨hP, hD, hS⟩, hl⟩
      refine lv_iload hx hb dX3_multiply_27 (lv_at hl 0 rfl) ?_
      refine lv_bipush (v := nI 16) hx hb dX3_multiply_29 (by decide) ?_
      refine lv_icmp_ge (tgt := 104) hx hb dX3_multiply_31 (by decide) (fun c31 => ?_) (fun c31 => absurd ((nI_leI (by omega) (by omega)).mpr (by omega)) c31)
      refine lv_iconst (v := nI 0) hx hb dX3_multiply_104 (by decide) ?_
      refine lv_istore (lv' := [(4, .int (nI 0)), (0, .ref om), (1, .int (nI to)), (2, .int (nI a)), (3, .int (nI b))]) hx hb dX3_multiply_105 hl (by decide) rfl (fun ls hl => ?_)
      refine z_loop (fun i H locs ls => ∃ f : Nat → Int64, (∀ j, j < i → f j = w0 j + 38 * w0 (16 + j)) ∧ (∀ j, i ≤ j → f j = w0 j) ∧ zH D A s.heap ([(om, .inr (3, [.int fp, .int fs, .int fr, .ref aSc, .ref aPt, .ref aDg, .ref aSu])), (aSc, .inl (cA, 4, .inr (.inl scf))), (aPt, .inl (cA, 4, .inr (.inl ptf))), (aDg, .inl (cI, 208, .inl dg)), (aSu, .inl (cA, 32, .inr (.inl f)))]) H locs ∧ lv_has ls 6 [(4, .int (nI i)), (0, .ref om), (1, .int (nI to)), (2, .int (nI a)), (3, .int (nI b))]) 16 ?_ ?_ ?_
      · exact ⟨w0, fun j h => by omega, fun j _ => rfl, ⟨hP, hD, hS⟩, hl⟩
      · rintro i H locs ls hi ⟨f, h1, h2, ⟨hP, hD, hS⟩, hl⟩ ih
        refine lv_iload hx hb dX3_multiply_107 (lv_at hl 0 rfl) ?_
        refine lv_bipush (v := nI 16) hx hb dX3_multiply_109 (by decide) ?_
        refine lv_icmp_ge (tgt := 149) hx hb dX3_multiply_111 (by decide) (fun c111 => absurd ((nI_leI (by omega) (by omega)).mp c111) (by omega)) (fun c111 => ?_)
        refine lv_aload_n hx hb dX3_multiply_114 rfl (lv_at hl 1 rfl) ?_
        refine va_get (D := D) (ci := 3) (v := .ref aSu) (C := RX3) (T := TX3) (N := 7) hx hb hts (by decide +kernel) hown hK hP 0 rfl rfl 6 (by decide) (hts (.fieldLink RX3 20 "LadderDeskModel" "sums" "[J") (by decide +kernel)) (fun _ h9 => h9) rfl dX3_multiply_115 ?_
        refine lv_iload hx hb dX3_multiply_118 (lv_at hl 0 rfl) ?_
        refine lv_aload_n hx hb dX3_multiply_120 rfl (lv_at hl 1 rfl) ?_
        refine va_get (D := D) (ci := 3) (v := .ref aSu) (C := RX3) (T := TX3) (N := 7) hx hb hts (by decide +kernel) hown hK hP 0 rfl rfl 6 (by decide) (hts (.fieldLink RX3 20 "LadderDeskModel" "sums" "[J") (by decide +kernel)) (fun _ h9 => h9) rfl dX3_multiply_121 ?_
        refine lv_iload hx hb dX3_multiply_124 (lv_at hl 0 rfl) ?_
        refine y_ld hx hb hK hP 4 0 rfl rfl i rfl (by omega) (by omega) dX3_multiply_126 ?_
        refine lv_topl (fun v126 e126 => ?_)
        refine lv_ldc2 (v := 38) hx hb hown (hts (.constantLong RX3 51 (38)) (by decide +kernel)) dX3_multiply_127 ?_
        refine lv_aload_n hx hb dX3_multiply_130 rfl (lv_at hl 1 rfl) ?_
        refine va_get (D := D) (ci := 3) (v := .ref aSu) (C := RX3) (T := TX3) (N := 7) hx hb hts (by decide +kernel) hown hK hP 0 rfl rfl 6 (by decide) (hts (.fieldLink RX3 20 "LadderDeskModel" "sums" "[J") (by decide +kernel)) (fun _ h9 => h9) rfl dX3_multiply_131 ?_
        refine lv_bipush (v := nI 16) hx hb dX3_multiply_134 (by decide) ?_
        refine lv_iload hx hb dX3_multiply_136 (lv_at hl 0 rfl) ?_
        refine lv_iadd hx hb dX3_multiply_138 ?_
        refine zi (nI_add _ _) ?_
        refine y_ld hx hb hK hP 4 0 rfl rfl (16 + i) rfl (by omega) (by omega) dX3_multiply_139 ?_
        refine lv_topl (fun v139 e139 => ?_)
        refine lv_lmul hx hb dX3_multiply_140 ?_
        refine lv_topl (fun v140 e140 => ?_)
        refine lv_ladd hx hb dX3_multiply_141 ?_
        refine lv_topl (fun v141 e141 => ?_)
        refine y_st hx hb hK hP hD hS 4 0 rfl rfl i rfl (by omega) (by omega) dX3_multiply_142 (fun H locs hP hD hS => ?_)
        have hP : va_P D vwCl ([(om, .inr (3, [.int fp, .int fs, .int fr, .ref aSc, .ref aPt, .ref aDg, .ref aSu])), (aSc, .inl (cA, 4, .inr (.inl scf))), (aPt, .inl (cA, 4, .inr (.inl ptf))), (aDg, .inl (cI, 208, .inl dg)), (aSu, .inl (cA, 32, .inr (.inl (vp_updL f i v141))))]) H := hP
        have hD : va_D A ([(om, .inr (3, [.int fp, .int fs, .int fr, .ref aSc, .ref aPt, .ref aDg, .ref aSu])), (aSc, .inl (cA, 4, .inr (.inl scf))), (aPt, .inl (cA, 4, .inr (.inl ptf))), (aDg, .inl (cI, 208, .inl dg)), (aSu, .inl (cA, 32, .inr (.inl (vp_updL f i v141))))]) := hD
        refine lv_iinc (v := nI (i + 1)) (lv' := [(4, .int (nI (i + 1))), (0, .ref om), (1, .int (nI to)), (2, .int (nI a)), (3, .int (nI b))]) hx hb dX3_multiply_143 hl (k := 0) rfl (by show nI _ + nI 1 = _; exact nI_add _ _) (by decide) rfl (fun ls hl => ?_)
        refine lv_goto (tgt := 107) hx hb dX3_multiply_146 (by decide) ?_
        exact ih _ _ _ ⟨_, fun j hj => by
          unfold vp_updL
          by_cases e : j = i
          · subst e; rw [if_pos rfl, e141, e140, e126, e139, h2 j (by omega), h2 (16 + j) (by omega)]
          · rw [if_neg e]; exact h1 j (by omega), fun j hj => by unfold vp_updL; rw [if_neg (by omega)]; exact h2 j (by omega), ⟨hP, hD, hS⟩, hl⟩
      · rintro H locs ls ⟨f, h1, h2, ⟨hP, hD, hS⟩, hl⟩
        obtain ⟨k1, k2⟩ := Kgo_e hI hxa hyb h1
        refine lv_iload hx hb dX3_multiply_107 (lv_at hl 0 rfl) ?_
        refine lv_bipush (v := nI 16) hx hb dX3_multiply_109 (by decide) ?_
        refine lv_icmp_ge (tgt := 149) hx hb dX3_multiply_111 (by decide) (fun c111 => ?_) (fun c111 => absurd ((nI_leI (by omega) (by omega)).mpr (by omega)) c111)
        refine lv_aload_n hx hb dX3_multiply_149 rfl (lv_at hl 1 rfl) ?_
        refine lv_iload_n hx hb dX3_multiply_150 rfl (lv_at hl 2 rfl) ?_
        refine z_callv (va_runV (As := [.int (nI to)]) (rest := []) ⟨hx, hb, hml, hown, hts⟩ (m_store l D cA cI tys om aSc aPt aDg aSu fp fs fr scf ptf dg f to hto k1 _) (cwV 1 hts gX3_multiply_X3_store rfl rfl rfl (by decide +kernel) ⟨Nat.le_of_ble_eq_true rfl, Nat.le_of_ble_eq_true rfl⟩) (z_preV _ hK hP hD (ci := 3) (q0 := 0) rfl rfl) rfl rfl hl.1 rfl (lv_room (Nat.le_of_ble_eq_true rfl)) dX3_multiply_151 ⟨Nat.le_of_ble_eq_true rfl, Nat.le_of_ble_eq_true rfl⟩) hD hS hA (fun u H locs hu hP hD hS => ?_)
        obtain ⟨dg', su', k3, k4, rfl⟩ := hu
        rw [k2] at k4
        exact z_vret hx hb hr hlocks dX3_multiply_154 hK hP hD hS (⟨dg', su', k3, by unfold dc; rw [Int.mul_emod]; exact k4, rfl⟩)
set_option maxRecDepth 100000 in
set_option maxHeartbeats 4000000 in
theorem m_multiplySmall (l : Launch) (D : va_G) (cA cI : ClassId) (tys : List (ClassId × FieldType)) (om aSc aPt aDg aSu : Nat) (fp fs fr : Int32) (scf ptf : Nat → Int64) (dg : Nat → Int32) (su : Nat → Int64) (to a : Nat) (hto : to < 13) (ha13 : a < 13) (x : Int) (hxa : dc dg a x) : zCv l D ((cA, .long) :: (cI, .int) :: tys) yX3_multiplySmall wsX3_multiplySmall ({ frames := 3, cells := 0, slots := 0, locals := 70 }) [.ref om, .int (nI to), .int (nI a), .int 121665] ([(om, .inr (3, [.int fp, .int fs, .int fr, .ref aSc, .ref aPt, .ref aDg, .ref aSu])), (aSc, .inl (cA, 4, .inr (.inl scf))), (aPt, .inl (cA, 4, .inr (.inl ptf))), (aDg, .inl (cI, 208, .inl dg)), (aSu, .inl (cA, 32, .inr (.inl su)))]) (fun (u : va_W) => ∃ (dg' : Nat → Int32) (su' : Nat → Int64), (∀ i, i / 16 ≠ to → dg' i = dg i) ∧ dc dg' to (121665 * x) ∧ u = [(om, .inr (3, [.int fp, .int fs, .int fr, .ref aSc, .ref aPt, .ref aDg, .ref aSu])), (aSc, .inl (cA, 4, .inr (.inl scf))), (aPt, .inl (cA, 4, .inr (.inl ptf))), (aDg, .inl (cI, 208, .inl dg')), (aSu, .inl (cA, 32, .inr (.inl su')))]) := by
  refine z_met (fun A => va_Qv (fun (u : va_W) => ∃ (dg' : Nat → Int32) (su' : Nat → Int64), (∀ i, i / 16 ≠ to → dg' i = dg i) ∧ dc dg' to (121665 * x) ∧ u = [(om, .inr (3, [.int fp, .int fs, .int fr, .ref aSc, .ref aPt, .ref aDg, .ref aSu])), (aSc, .inl (cA, 4, .inr (.inl scf))), (aPt, .inl (cA, 4, .inr (.inl ptf))), (aDg, .inl (cI, 208, .inl dg')), (aSu, .inl (cA, 32, .inr (.inl su')))]) (zB D ((cA, .long) :: (cI, .int) :: tys) A) A) (by decide) rfl (Nat.le_of_ble_eq_true rfl) ?_
  intro p e s m below meth c hx hb hr hml hts hown hlocks hname A hA hP hK hD hS ls hl
  have hown : s.vm.findClass RX3 = some m.cls := hown
  have hl : lv_has ls 5 [(0, .ref om), (1, .int (nI to)), (2, .int (nI a)), (3, .int 121665)] := hl
  refine lv_iconst (v := nI 0) hx hb dX3_multiplySmall_0 (by decide) ?_
  refine lv_istore (lv' := [(4, .int (nI 0)), (0, .ref om), (1, .int (nI to)), (2, .int (nI a)), (3, .int 121665)]) hx hb dX3_multiplySmall_1 hl (by decide) rfl (fun ls hl => ?_)
  refine z_loop (fun i H locs ls => ∃ f : Nat → Int64, (∀ j, j < i → fI f j = 121665 * dd dg a j) ∧ zH D A s.heap ([(om, .inr (3, [.int fp, .int fs, .int fr, .ref aSc, .ref aPt, .ref aDg, .ref aSu])), (aSc, .inl (cA, 4, .inr (.inl scf))), (aPt, .inl (cA, 4, .inr (.inl ptf))), (aDg, .inl (cI, 208, .inl dg)), (aSu, .inl (cA, 32, .inr (.inl f)))]) H locs ∧ lv_has ls 5 [(4, .int (nI i)), (0, .ref om), (1, .int (nI to)), (2, .int (nI a)), (3, .int 121665)]) 16 ?_ ?_ ?_
  · exact ⟨su, fun j h => by omega, ⟨hP, hD, hS⟩, hl⟩
  · rintro i H locs ls hi ⟨f, h1, ⟨hP, hD, hS⟩, hl⟩ ih
    refine lv_iload hx hb dX3_multiplySmall_3 (lv_at hl 0 rfl) ?_
    refine lv_bipush (v := nI 16) hx hb dX3_multiplySmall_5 (by decide) ?_
    refine lv_icmp_ge (tgt := 39) hx hb dX3_multiplySmall_7 (by decide) (fun c7 => absurd ((nI_leI (by omega) (by omega)).mp c7) (by omega)) (fun c7 => ?_)
    refine lv_aload_n hx hb dX3_multiplySmall_10 rfl (lv_at hl 1 rfl) ?_
    refine va_get (D := D) (ci := 3) (v := .ref aSu) (C := RX3) (T := TX3) (N := 7) hx hb hts (by decide +kernel) hown hK hP 0 rfl rfl 6 (by decide) (hts (.fieldLink RX3 20 "LadderDeskModel" "sums" "[J") (by decide +kernel)) (fun _ h9 => h9) rfl dX3_multiplySmall_11 ?_
    refine lv_iload hx hb dX3_multiplySmall_14 (lv_at hl 0 rfl) ?_
    refine lv_aload_n hx hb dX3_multiplySmall_16 rfl (lv_at hl 1 rfl) ?_
    refine va_get (D := D) (ci := 3) (v := .ref aDg) (C := RX3) (T := TX3) (N := 7) hx hb hts (by decide +kernel) hown hK hP 0 rfl rfl 5 (by decide) (hts (.fieldLink RX3 16 "LadderDeskModel" "digits" "[I") (by decide +kernel)) (fun _ h9 => h9) rfl dX3_multiplySmall_17 ?_
    refine lv_bipush (v := nI 16) hx hb dX3_multiplySmall_20 (by decide) ?_
    refine lv_iload_n hx hb dX3_multiplySmall_22 rfl (lv_at hl 3 rfl) ?_
    refine lv_imul hx hb dX3_multiplySmall_23 ?_
    refine zi (pk_mul _ _) ?_
    refine lv_iload hx hb dX3_multiplySmall_24 (lv_at hl 0 rfl) ?_
    refine lv_iadd hx hb dX3_multiplySmall_26 ?_
    refine zi (nI_add _ _) ?_
    refine y_ldi hx hb hK hP 3 1 rfl rfl ((16 * a) + i) rfl (by omega) (by omega) dX3_multiplySmall_27 ?_
    refine lv_topi (fun v27 e27 => ?_)
    refine lv_i2l hx hb dX3_multiplySmall_28 rfl ?_
    refine lv_topl (fun v28 e28 => ?_)
    refine lv_iload_n hx hb dX3_multiplySmall_29 rfl (lv_at hl 4 rfl) ?_
    refine lv_i2l hx hb dX3_multiplySmall_30 rfl ?_
    refine lv_topl (fun v30 e30 => ?_)
    refine lv_lmul hx hb dX3_multiplySmall_31 ?_
    refine lv_topl (fun v31 e31 => ?_)
    refine y_st hx hb hK hP hD hS 4 0 rfl rfl i rfl (by omega) (by omega) dX3_multiplySmall_32 (fun H locs hP hD hS => ?_)
    have hP : va_P D vwCl ([(om, .inr (3, [.int fp, .int fs, .int fr, .ref aSc, .ref aPt, .ref aDg, .ref aSu])), (aSc, .inl (cA, 4, .inr (.inl scf))), (aPt, .inl (cA, 4, .inr (.inl ptf))), (aDg, .inl (cI, 208, .inl dg)), (aSu, .inl (cA, 32, .inr (.inl (vp_updL f i v31))))]) H := hP
    have hD : va_D A ([(om, .inr (3, [.int fp, .int fs, .int fr, .ref aSc, .ref aPt, .ref aDg, .ref aSu])), (aSc, .inl (cA, 4, .inr (.inl scf))), (aPt, .inl (cA, 4, .inr (.inl ptf))), (aDg, .inl (cI, 208, .inl dg)), (aSu, .inl (cA, 32, .inr (.inl (vp_updL f i v31))))]) := hD
    refine lv_iinc (v := nI (i + 1)) (lv' := [(4, .int (nI (i + 1))), (0, .ref om), (1, .int (nI to)), (2, .int (nI a)), (3, .int 121665)]) hx hb dX3_multiplySmall_33 hl (k := 0) rfl (by show nI _ + nI 1 = _; exact nI_add _ _) (by decide) rfl (fun ls hl => ?_)
    refine lv_goto (tgt := 3) hx hb dX3_multiplySmall_36 (by decide) ?_
    have a1 := hxa.1 i hi
    have hB : (cB : Int) = 65536 := rfl
    have i1 : v28.toInt = dd dg a i := by rw [e28, tl_i2l, e27]; rfl
    have i2 : v30.toInt = 121665 := by rw [e30, tl_i2l]; decide
    have i3 : v31.toInt = 121665 * dd dg a i := by rw [e31, tl_mul (by rw [i1, i2]; omega) (by rw [i1, i2]; omega), i1, i2]; omega
    exact ih _ _ _ ⟨_, fun j hj => by
      by_cases e : j = i
      · subst e; rw [fI_us, i3]
      · rw [fI_un e]; exact h1 j (by omega), ⟨hP, hD, hS⟩, hl⟩
  · rintro H locs ls ⟨f, h1, ⟨hP, hD, hS⟩, hl⟩
    obtain ⟨k1, k2⟩ := small_m hxa h1
    refine lv_iload hx hb dX3_multiplySmall_3 (lv_at hl 0 rfl) ?_
    refine lv_bipush (v := nI 16) hx hb dX3_multiplySmall_5 (by decide) ?_
    refine lv_icmp_ge (tgt := 39) hx hb dX3_multiplySmall_7 (by decide) (fun c7 => ?_) (fun c7 => absurd ((nI_leI (by omega) (by omega)).mpr (by omega)) c7)
    refine lv_aload_n hx hb dX3_multiplySmall_39 rfl (lv_at hl 1 rfl) ?_
    refine lv_iload_n hx hb dX3_multiplySmall_40 rfl (lv_at hl 2 rfl) ?_
    refine z_callv (va_runV (As := [.int (nI to)]) (rest := []) ⟨hx, hb, hml, hown, hts⟩ (m_store l D cA cI tys om aSc aPt aDg aSu fp fs fr scf ptf dg f to hto k1 _) (cwV 1 hts gX3_multiplySmall_X3_store rfl rfl rfl (by decide +kernel) ⟨Nat.le_of_ble_eq_true rfl, Nat.le_of_ble_eq_true rfl⟩) (z_preV _ hK hP hD (ci := 3) (q0 := 0) rfl rfl) rfl rfl hl.1 rfl (lv_room (Nat.le_of_ble_eq_true rfl)) dX3_multiplySmall_41 ⟨Nat.le_of_ble_eq_true rfl, Nat.le_of_ble_eq_true rfl⟩) hD hS hA (fun u H locs hu hP hD hS => ?_)
    obtain ⟨dg', su', k3, k4, rfl⟩ := hu
    rw [k2, cg_emod (cg_mul (cg_refl 121665) (cg_mod x))] at k4
    exact z_vret hx hb hr hlocks dX3_multiplySmall_44 hK hP hD hS (⟨dg', su', k3, k4, rfl⟩)
set_option maxRecDepth 100000 in
set_option maxHeartbeats 4000000 in
theorem m_isZero (l : Launch) (D : va_G) (cA cI : ClassId) (tys : List (ClassId × FieldType)) (om aSc aPt aDg aSu : Nat) (fp fs fr : Int32) (scf ptf : Nat → Int64) (dg : Nat → Int32) (su : Nat → Int64) (a : Nat) (ha13 : a < 13) (x : Int) (hxa : dh dg a x) : zCi l D ((cA, .long) :: (cI, .int) :: tys) yX3_isZero wsX3_isZero ({ frames := 0, cells := 0, slots := 0, locals := 0 }) [.ref om, .int (nI a)] ([(om, .inr (3, [.int fp, .int fs, .int fr, .ref aSc, .ref aPt, .ref aDg, .ref aSu])), (aSc, .inl (cA, 4, .inr (.inl scf))), (aPt, .inl (cA, 4, .inr (.inl ptf))), (aDg, .inl (cI, 208, .inl dg)), (aSu, .inl (cA, 32, .inr (.inl su)))]) (fun r (u : va_W) => ((r = 1 ∧ x = 0) ∨ (r = 0 ∧ x ≠ 0)) ∧ u = [(om, .inr (3, [.int fp, .int fs, .int fr, .ref aSc, .ref aPt, .ref aDg, .ref aSu])), (aSc, .inl (cA, 4, .inr (.inl scf))), (aPt, .inl (cA, 4, .inr (.inl ptf))), (aDg, .inl (cI, 208, .inl dg)), (aSu, .inl (cA, 32, .inr (.inl su)))]) := by
  refine z_met (fun A => va_Qi (fun r (u : va_W) => ((r = 1 ∧ x = 0) ∨ (r = 0 ∧ x ≠ 0)) ∧ u = [(om, .inr (3, [.int fp, .int fs, .int fr, .ref aSc, .ref aPt, .ref aDg, .ref aSu])), (aSc, .inl (cA, 4, .inr (.inl scf))), (aPt, .inl (cA, 4, .inr (.inl ptf))), (aDg, .inl (cI, 208, .inl dg)), (aSu, .inl (cA, 32, .inr (.inl su)))]) (zB D ((cA, .long) :: (cI, .int) :: tys) A) A) (by decide) rfl (Nat.le_of_ble_eq_true rfl) ?_
  intro p e s m below meth c hx hb hr hml hts hown hlocks hname A hA hP hK hD hS ls hl
  have hown : s.vm.findClass RX3 = some m.cls := hown
  have hl : lv_has ls 4 [(0, .ref om), (1, .int (nI a))] := hl
  refine lv_iconst (v := nI 1) hx hb dX3_isZero_0 (by decide) ?_
  refine lv_istore_n (lv' := [(2, .int (nI 1)), (0, .ref om), (1, .int (nI a))]) hx hb dX3_isZero_1 rfl hl (by decide) rfl (fun ls hl => ?_)
  refine lv_iconst (v := nI 0) hx hb dX3_isZero_2 (by decide) ?_
  refine lv_istore_n (lv' := [(3, .int (nI 0)), (2, .int (nI 1)), (0, .ref om), (1, .int (nI a))]) hx hb dX3_isZero_3 rfl hl (by decide) rfl (fun ls hl => ?_)
  refine z_loop (fun i H locs ls => ∃ z : Int32, ((z = 1 ∧ ∀ j, j < i → dd dg a j = 0) ∨ (z = 0 ∧ ¬ ∀ j, j < 16 → dd dg a j = 0)) ∧ zH D A s.heap ([(om, .inr (3, [.int fp, .int fs, .int fr, .ref aSc, .ref aPt, .ref aDg, .ref aSu])), (aSc, .inl (cA, 4, .inr (.inl scf))), (aPt, .inl (cA, 4, .inr (.inl ptf))), (aDg, .inl (cI, 208, .inl dg)), (aSu, .inl (cA, 32, .inr (.inl su)))]) H locs ∧ lv_has ls 4 [(3, .int (nI i)), (2, .int z), (0, .ref om), (1, .int (nI a))]) 16 ?_ ?_ ?_
  · exact ⟨nI 1, Or.inl ⟨rfl, fun j h => by omega⟩, ⟨hP, hD, hS⟩, hl⟩
  · rintro i H locs ls hi ⟨z, h1, ⟨hP, hD, hS⟩, hl⟩ ih
    refine lv_iload_n hx hb dX3_isZero_4 rfl (lv_at hl 0 rfl) ?_
    refine lv_bipush (v := nI 16) hx hb dX3_isZero_5 (by decide) ?_
    refine lv_icmp_ge (tgt := 40) hx hb dX3_isZero_7 (by decide) (fun c7 => absurd ((nI_leI (by omega) (by omega)).mp c7) (by omega)) (fun c7 => ?_)
    refine lv_iload_n hx hb dX3_isZero_10 rfl (lv_at hl 1 rfl) ?_
    refine lv_if_eq (tgt := 32) hx hb dX3_isZero_11 (by decide) (fun c11 => ?_) (fun c11 => ?_)
    · have hn : ¬ ∀ j, j < 16 → dd dg a j = 0 := by
        rcases h1 with ⟨h, -⟩ | ⟨-, h⟩
        · rw [h] at c11; exact absurd c11 (by decide)
        · exact h
      refine lv_iconst (v := nI 0) hx hb dX3_isZero_32 (by decide) ?_
      refine lv_istore_n (lv' := [(2, .int (nI 0)), (3, .int (nI i)), (0, .ref om), (1, .int (nI a))]) hx hb dX3_isZero_33 rfl hl (by decide) rfl (fun ls hl => ?_)
      refine lv_iinc (v := nI (i + 1)) (lv' := [(3, .int (nI (i + 1))), (2, .int (nI 0)), (0, .ref om), (1, .int (nI a))]) hx hb dX3_isZero_34 hl (k := 1) rfl (by show nI _ + nI 1 = _; exact nI_add _ _) (by decide) rfl (fun ls hl => ?_)
      refine lv_goto (tgt := 4) hx hb dX3_isZero_37 (by decide) ?_
      exact ih _ _ _ ⟨_, Or.inr ⟨rfl, hn⟩, ⟨hP, hD, hS⟩, hl⟩
    · have hz : ∀ j, j < i → dd dg a j = 0 := by
        rcases h1 with ⟨-, h⟩ | ⟨h, -⟩
        · exact h
        · exact absurd h c11
      refine lv_aload_n hx hb dX3_isZero_14 rfl (lv_at hl 2 rfl) ?_
      refine va_get (D := D) (ci := 3) (v := .ref aDg) (C := RX3) (T := TX3) (N := 7) hx hb hts (by decide +kernel) hown hK hP 0 rfl rfl 5 (by decide) (hts (.fieldLink RX3 16 "LadderDeskModel" "digits" "[I") (by decide +kernel)) (fun _ h9 => h9) rfl dX3_isZero_15 ?_
      refine lv_bipush (v := nI 16) hx hb dX3_isZero_18 (by decide) ?_
      refine lv_iload_n hx hb dX3_isZero_20 rfl (lv_at hl 3 rfl) ?_
      refine lv_imul hx hb dX3_isZero_21 ?_
      refine zi (pk_mul _ _) ?_
      refine lv_iload_n hx hb dX3_isZero_22 rfl (lv_at hl 0 rfl) ?_
      refine lv_iadd hx hb dX3_isZero_23 ?_
      refine zi (nI_add _ _) ?_
      refine y_ldi hx hb hK hP 3 1 rfl rfl ((16 * a) + i) rfl (by omega) (by omega) dX3_isZero_24 ?_
      refine lv_topi (fun v24 e24 => ?_)
      refine lv_if_ne (tgt := 32) hx hb dX3_isZero_25 (by decide) (fun c25 => ?_) (fun c25 => ?_)
      · have hn : ¬ ∀ j, j < 16 → dd dg a j = 0 := fun h => c25 (Int32.toInt_inj.mp (by rw [e24]; exact h i hi))
        refine lv_iconst (v := nI 0) hx hb dX3_isZero_32 (by decide) ?_
        refine lv_istore_n (lv' := [(2, .int (nI 0)), (3, .int (nI i)), (0, .ref om), (1, .int (nI a))]) hx hb dX3_isZero_33 rfl hl (by decide) rfl (fun ls hl => ?_)
        refine lv_iinc (v := nI (i + 1)) (lv' := [(3, .int (nI (i + 1))), (2, .int (nI 0)), (0, .ref om), (1, .int (nI a))]) hx hb dX3_isZero_34 hl (k := 1) rfl (by show nI _ + nI 1 = _; exact nI_add _ _) (by decide) rfl (fun ls hl => ?_)
        refine lv_goto (tgt := 4) hx hb dX3_isZero_37 (by decide) ?_
        exact ih _ _ _ ⟨_, Or.inr ⟨rfl, hn⟩, ⟨hP, hD, hS⟩, hl⟩
      · have hi0 : dd dg a i = 0 := by show (dg (16 * a + i)).toInt = 0; rw [← e24, c25]; rfl
        refine lv_iconst (v := nI 1) hx hb dX3_isZero_28 (by decide) ?_
        refine lv_goto (tgt := 33) hx hb dX3_isZero_29 (by decide) ?_
        refine lv_istore_n (lv' := [(2, .int (nI 1)), (3, .int (nI i)), (0, .ref om), (1, .int (nI a))]) hx hb dX3_isZero_33 rfl hl (by decide) rfl (fun ls hl => ?_)
        refine lv_iinc (v := nI (i + 1)) (lv' := [(3, .int (nI (i + 1))), (2, .int (nI 1)), (0, .ref om), (1, .int (nI a))]) hx hb dX3_isZero_34 hl (k := 1) rfl (by show nI _ + nI 1 = _; exact nI_add _ _) (by decide) rfl (fun ls hl => ?_)
        refine lv_goto (tgt := 4) hx hb dX3_isZero_37 (by decide) ?_
        exact ih _ _ _ ⟨_, Or.inl ⟨rfl, fun j hj => by by_cases e : j = i; (rw [e]; exact hi0); exact hz j (by omega)⟩, ⟨hP, hD, hS⟩, hl⟩
  · rintro H locs ls ⟨z, h1, ⟨hP, hD, hS⟩, hl⟩
    refine lv_iload_n hx hb dX3_isZero_4 rfl (lv_at hl 0 rfl) ?_
    refine lv_bipush (v := nI 16) hx hb dX3_isZero_5 (by decide) ?_
    refine lv_icmp_ge (tgt := 40) hx hb dX3_isZero_7 (by decide) (fun c7 => ?_) (fun c7 => absurd ((nI_leI (by omega) (by omega)).mpr (by omega)) c7)
    refine lv_iload_n hx hb dX3_isZero_40 rfl (lv_at hl 1 rfl) ?_
    rw [zero_iff hxa] at h1
    rcases h1 with ⟨rfl, h⟩ | ⟨rfl, h⟩
    · exact z_zret hx hb hr hlocks dX3_isZero_41 rfl hK hP hD hS ⟨Or.inl ⟨rfl, h⟩, rfl⟩
    · exact z_zret hx hb hr hlocks dX3_isZero_41 rfl hK hP hD hS ⟨Or.inr ⟨rfl, h⟩, rfl⟩
set_option maxRecDepth 100000 in
set_option maxHeartbeats 4000000 in
theorem m_isSame (l : Launch) (D : va_G) (cA cI : ClassId) (tys : List (ClassId × FieldType)) (om aSc aPt aDg aSu : Nat) (fp fs fr : Int32) (scf ptf : Nat → Int64) (dg : Nat → Int32) (su : Nat → Int64) (a b : Nat) (ha13 : a < 13) (hb13 : b < 13) (x y : Int) (hxa : dh dg a x) (hyb : dh dg b y) : zCi l D ((cA, .long) :: (cI, .int) :: tys) yX3_isSame wsX3_isSame ({ frames := 0, cells := 0, slots := 0, locals := 0 }) [.ref om, .int (nI a), .int (nI b)] ([(om, .inr (3, [.int fp, .int fs, .int fr, .ref aSc, .ref aPt, .ref aDg, .ref aSu])), (aSc, .inl (cA, 4, .inr (.inl scf))), (aPt, .inl (cA, 4, .inr (.inl ptf))), (aDg, .inl (cI, 208, .inl dg)), (aSu, .inl (cA, 32, .inr (.inl su)))]) (fun r (u : va_W) => ((r = 1 ∧ x = y) ∨ (r = 0 ∧ x ≠ y)) ∧ u = [(om, .inr (3, [.int fp, .int fs, .int fr, .ref aSc, .ref aPt, .ref aDg, .ref aSu])), (aSc, .inl (cA, 4, .inr (.inl scf))), (aPt, .inl (cA, 4, .inr (.inl ptf))), (aDg, .inl (cI, 208, .inl dg)), (aSu, .inl (cA, 32, .inr (.inl su)))]) := by
  refine z_met (fun A => va_Qi (fun r (u : va_W) => ((r = 1 ∧ x = y) ∨ (r = 0 ∧ x ≠ y)) ∧ u = [(om, .inr (3, [.int fp, .int fs, .int fr, .ref aSc, .ref aPt, .ref aDg, .ref aSu])), (aSc, .inl (cA, 4, .inr (.inl scf))), (aPt, .inl (cA, 4, .inr (.inl ptf))), (aDg, .inl (cI, 208, .inl dg)), (aSu, .inl (cA, 32, .inr (.inl su)))]) (zB D ((cA, .long) :: (cI, .int) :: tys) A) A) (by decide) rfl (Nat.le_of_ble_eq_true rfl) ?_
  intro p e s m below meth c hx hb hr hml hts hown hlocks hname A hA hP hK hD hS ls hl
  have hown : s.vm.findClass RX3 = some m.cls := hown
  have hl : lv_has ls 5 [(0, .ref om), (1, .int (nI a)), (2, .int (nI b))] := hl
  refine lv_iconst (v := nI 1) hx hb dX3_isSame_0 (by decide) ?_
  refine lv_istore_n (lv' := [(3, .int (nI 1)), (0, .ref om), (1, .int (nI a)), (2, .int (nI b))]) hx hb dX3_isSame_1 rfl hl (by decide) rfl (fun ls hl => ?_)
  refine lv_iconst (v := nI 0) hx hb dX3_isSame_2 (by decide) ?_
  refine lv_istore (lv' := [(4, .int (nI 0)), (3, .int (nI 1)), (0, .ref om), (1, .int (nI a)), (2, .int (nI b))]) hx hb dX3_isSame_3 hl (by decide) rfl (fun ls hl => ?_)
  refine z_loop (fun i H locs ls => ∃ z : Int32, ((z = 1 ∧ ∀ j, j < i → dd dg a j = dd dg b j) ∨ (z = 0 ∧ ¬ ∀ j, j < 16 → dd dg a j = dd dg b j)) ∧ zH D A s.heap ([(om, .inr (3, [.int fp, .int fs, .int fr, .ref aSc, .ref aPt, .ref aDg, .ref aSu])), (aSc, .inl (cA, 4, .inr (.inl scf))), (aPt, .inl (cA, 4, .inr (.inl ptf))), (aDg, .inl (cI, 208, .inl dg)), (aSu, .inl (cA, 32, .inr (.inl su)))]) H locs ∧ lv_has ls 5 [(4, .int (nI i)), (3, .int z), (0, .ref om), (1, .int (nI a)), (2, .int (nI b))]) 16 ?_ ?_ ?_
  · exact ⟨nI 1, Or.inl ⟨rfl, fun j h => by omega⟩, ⟨hP, hD, hS⟩, hl⟩
  · rintro i H locs ls hi ⟨z, h1, ⟨hP, hD, hS⟩, hl⟩ ih
    refine lv_iload hx hb dX3_isSame_5 (lv_at hl 0 rfl) ?_
    refine lv_bipush (v := nI 16) hx hb dX3_isSame_7 (by decide) ?_
    refine lv_icmp_ge (tgt := 55) hx hb dX3_isSame_9 (by decide) (fun c9 => absurd ((nI_leI (by omega) (by omega)).mp c9) (by omega)) (fun c9 => ?_)
    refine lv_iload_n hx hb dX3_isSame_12 rfl (lv_at hl 1 rfl) ?_
    refine lv_if_eq (tgt := 47) hx hb dX3_isSame_13 (by decide) (fun c13 => ?_) (fun c13 => ?_)
    · have hn : ¬ ∀ j, j < 16 → dd dg a j = dd dg b j := by
        rcases h1 with ⟨h, -⟩ | ⟨-, h⟩
        · rw [h] at c13; exact absurd c13 (by decide)
        · exact h
      refine lv_iconst (v := nI 0) hx hb dX3_isSame_47 (by decide) ?_
      refine lv_istore_n (lv' := [(3, .int (nI 0)), (4, .int (nI i)), (0, .ref om), (1, .int (nI a)), (2, .int (nI b))]) hx hb dX3_isSame_48 rfl hl (by decide) rfl (fun ls hl => ?_)
      refine lv_iinc (v := nI (i + 1)) (lv' := [(4, .int (nI (i + 1))), (3, .int (nI 0)), (0, .ref om), (1, .int (nI a)), (2, .int (nI b))]) hx hb dX3_isSame_49 hl (k := 1) rfl (by show nI _ + nI 1 = _; exact nI_add _ _) (by decide) rfl (fun ls hl => ?_)
      refine lv_goto (tgt := 5) hx hb dX3_isSame_52 (by decide) ?_
      exact ih _ _ _ ⟨_, Or.inr ⟨rfl, hn⟩, ⟨hP, hD, hS⟩, hl⟩
    · have hz : ∀ j, j < i → dd dg a j = dd dg b j := by
        rcases h1 with ⟨-, h⟩ | ⟨h, -⟩
        · exact h
        · exact absurd h c13
      refine lv_aload_n hx hb dX3_isSame_16 rfl (lv_at hl 2 rfl) ?_
      refine va_get (D := D) (ci := 3) (v := .ref aDg) (C := RX3) (T := TX3) (N := 7) hx hb hts (by decide +kernel) hown hK hP 0 rfl rfl 5 (by decide) (hts (.fieldLink RX3 16 "LadderDeskModel" "digits" "[I") (by decide +kernel)) (fun _ h9 => h9) rfl dX3_isSame_17 ?_
      refine lv_bipush (v := nI 16) hx hb dX3_isSame_20 (by decide) ?_
      refine lv_iload_n hx hb dX3_isSame_22 rfl (lv_at hl 3 rfl) ?_
      refine lv_imul hx hb dX3_isSame_23 ?_
      refine zi (pk_mul _ _) ?_
      refine lv_iload hx hb dX3_isSame_24 (lv_at hl 0 rfl) ?_
      refine lv_iadd hx hb dX3_isSame_26 ?_
      refine zi (nI_add _ _) ?_
      refine y_ldi hx hb hK hP 3 1 rfl rfl ((16 * a) + i) rfl (by omega) (by omega) dX3_isSame_27 ?_
      refine lv_topi (fun v27 e27 => ?_)
      refine lv_aload_n hx hb dX3_isSame_28 rfl (lv_at hl 2 rfl) ?_
      refine va_get (D := D) (ci := 3) (v := .ref aDg) (C := RX3) (T := TX3) (N := 7) hx hb hts (by decide +kernel) hown hK hP 0 rfl rfl 5 (by decide) (hts (.fieldLink RX3 16 "LadderDeskModel" "digits" "[I") (by decide +kernel)) (fun _ h9 => h9) rfl dX3_isSame_29 ?_
      refine lv_bipush (v := nI 16) hx hb dX3_isSame_32 (by decide) ?_
      refine lv_iload_n hx hb dX3_isSame_34 rfl (lv_at hl 4 rfl) ?_
      refine lv_imul hx hb dX3_isSame_35 ?_
      refine zi (pk_mul _ _) ?_
      refine lv_iload hx hb dX3_isSame_36 (lv_at hl 0 rfl) ?_
      refine lv_iadd hx hb dX3_isSame_38 ?_
      refine zi (nI_add _ _) ?_
      refine y_ldi hx hb hK hP 3 1 rfl rfl ((16 * b) + i) rfl (by omega) (by omega) dX3_isSame_39 ?_
      refine lv_topi (fun v39 e39 => ?_)
      refine lv_icmp_ne (tgt := 47) hx hb dX3_isSame_40 (by decide) (fun c40 => ?_) (fun c40 => ?_)
      · have hn : ¬ ∀ j, j < 16 → dd dg a j = dd dg b j := fun h => c40 (Int32.toInt_inj.mp (by rw [e27, e39]; exact h i hi))
        refine lv_iconst (v := nI 0) hx hb dX3_isSame_47 (by decide) ?_
        refine lv_istore_n (lv' := [(3, .int (nI 0)), (4, .int (nI i)), (0, .ref om), (1, .int (nI a)), (2, .int (nI b))]) hx hb dX3_isSame_48 rfl hl (by decide) rfl (fun ls hl => ?_)
        refine lv_iinc (v := nI (i + 1)) (lv' := [(4, .int (nI (i + 1))), (3, .int (nI 0)), (0, .ref om), (1, .int (nI a)), (2, .int (nI b))]) hx hb dX3_isSame_49 hl (k := 1) rfl (by show nI _ + nI 1 = _; exact nI_add _ _) (by decide) rfl (fun ls hl => ?_)
        refine lv_goto (tgt := 5) hx hb dX3_isSame_52 (by decide) ?_
        exact ih _ _ _ ⟨_, Or.inr ⟨rfl, hn⟩, ⟨hP, hD, hS⟩, hl⟩
      · have hi0 : dd dg a i = dd dg b i := by show (dg (16 * a + i)).toInt = (dg (16 * b + i)).toInt; rw [← e27, ← e39, c40]
        refine lv_iconst (v := nI 1) hx hb dX3_isSame_43 (by decide) ?_
        refine lv_goto (tgt := 48) hx hb dX3_isSame_44 (by decide) ?_
        refine lv_istore_n (lv' := [(3, .int (nI 1)), (4, .int (nI i)), (0, .ref om), (1, .int (nI a)), (2, .int (nI b))]) hx hb dX3_isSame_48 rfl hl (by decide) rfl (fun ls hl => ?_)
        refine lv_iinc (v := nI (i + 1)) (lv' := [(4, .int (nI (i + 1))), (3, .int (nI 1)), (0, .ref om), (1, .int (nI a)), (2, .int (nI b))]) hx hb dX3_isSame_49 hl (k := 1) rfl (by show nI _ + nI 1 = _; exact nI_add _ _) (by decide) rfl (fun ls hl => ?_)
        refine lv_goto (tgt := 5) hx hb dX3_isSame_52 (by decide) ?_
        exact ih _ _ _ ⟨_, Or.inl ⟨rfl, fun j hj => by by_cases e : j = i; (rw [e]; exact hi0); exact hz j (by omega)⟩, ⟨hP, hD, hS⟩, hl⟩
  · rintro H locs ls ⟨z, h1, ⟨hP, hD, hS⟩, hl⟩
    refine lv_iload hx hb dX3_isSame_5 (lv_at hl 0 rfl) ?_
    refine lv_bipush (v := nI 16) hx hb dX3_isSame_7 (by decide) ?_
    refine lv_icmp_ge (tgt := 55) hx hb dX3_isSame_9 (by decide) (fun c9 => ?_) (fun c9 => absurd ((nI_leI (by omega) (by omega)).mpr (by omega)) c9)
    refine lv_iload_n hx hb dX3_isSame_55 rfl (lv_at hl 1 rfl) ?_
    rw [same_iff hxa hyb] at h1
    rcases h1 with ⟨rfl, h⟩ | ⟨rfl, h⟩
    · exact z_zret hx hb hr hlocks dX3_isSame_56 rfl hK hP hD hS ⟨Or.inl ⟨rfl, h⟩, rfl⟩
    · exact z_zret hx hb hr hlocks dX3_isSame_56 rfl hK hP hD hS ⟨Or.inr ⟨rfl, h⟩, rfl⟩
theorem dn_3 : ∀ i, i < 4 → nI (3 - i) + Int32.ofInt (-1) = nI 3 - nI (i + 1) := by decide +kernel
set_option maxRecDepth 100000 in
set_option maxHeartbeats 4000000 in
theorem m_longOf (l : Launch) (D : va_G) (cA cI : ClassId) (tys : List (ClassId × FieldType)) (om aSc aPt aDg aSu : Nat) (fp fs fr : Int32) (scf ptf : Nat → Int64) (dg : Nat → Int32) (su : Nat → Int64) (a k : Nat) (ha13 : a < 13) (hk : k < 4) (x : Int) (hxa : dh dg a x) : zCl l D ((cA, .long) :: (cI, .int) :: tys) yX3_longOf wsX3_longOf ({ frames := 0, cells := 0, slots := 0, locals := 0 }) [.ref om, .int (nI a), .int (nI k)] ([(om, .inr (3, [.int fp, .int fs, .int fr, .ref aSc, .ref aPt, .ref aDg, .ref aSu])), (aSc, .inl (cA, 4, .inr (.inl scf))), (aPt, .inl (cA, 4, .inr (.inl ptf))), (aDg, .inl (cI, 208, .inl dg)), (aSu, .inl (cA, 32, .inr (.inl su)))]) (fun r (u : va_W) => r = ow x.toNat k ∧ u = [(om, .inr (3, [.int fp, .int fs, .int fr, .ref aSc, .ref aPt, .ref aDg, .ref aSu])), (aSc, .inl (cA, 4, .inr (.inl scf))), (aPt, .inl (cA, 4, .inr (.inl ptf))), (aDg, .inl (cI, 208, .inl dg)), (aSu, .inl (cA, 32, .inr (.inl su)))]) := by
  refine z_met (fun A => va_Ql (fun r (u : va_W) => r = ow x.toNat k ∧ u = [(om, .inr (3, [.int fp, .int fs, .int fr, .ref aSc, .ref aPt, .ref aDg, .ref aSu])), (aSc, .inl (cA, 4, .inr (.inl scf))), (aPt, .inl (cA, 4, .inr (.inl ptf))), (aDg, .inl (cI, 208, .inl dg)), (aSu, .inl (cA, 32, .inr (.inl su)))]) (zB D ((cA, .long) :: (cI, .int) :: tys) A) A) (by decide) rfl (Nat.le_of_ble_eq_true rfl) ?_
  intro p e s m below meth c hx hb hr hml hts hown hlocks hname A hA hP hK hD hS ls hl
  have hown : s.vm.findClass RX3 = some m.cls := hown
  have hl : lv_has ls 6 [(0, .ref om), (1, .int (nI a)), (2, .int (nI k))] := hl
  refine lv_lconst (v := 0) hx hb dX3_longOf_0 (by decide) ?_
  refine lv_lstore_n (lv' := [(3, .long 0), (0, .ref om), (1, .int (nI a)), (2, .int (nI k))]) hx hb dX3_longOf_1 rfl hl (by decide) rfl (fun ls hl => ?_)
  refine lv_iconst (v := nI 3) hx hb dX3_longOf_2 (by decide) ?_
  refine lv_istore (lv' := [(5, .int (nI 3)), (3, .long 0), (0, .ref om), (1, .int (nI a)), (2, .int (nI k))]) hx hb dX3_longOf_3 hl (by decide) rfl (fun ls hl => ?_)
  refine z_loop (fun i H locs ls => ∃ v : Int64, v = lN (la dg (16 * a + 4 * k) i) ∧ zH D A s.heap ([(om, .inr (3, [.int fp, .int fs, .int fr, .ref aSc, .ref aPt, .ref aDg, .ref aSu])), (aSc, .inl (cA, 4, .inr (.inl scf))), (aPt, .inl (cA, 4, .inr (.inl ptf))), (aDg, .inl (cI, 208, .inl dg)), (aSu, .inl (cA, 32, .inr (.inl su)))]) H locs ∧ lv_has ls 6 [(5, .int (nI 3 - nI i)), (3, .long v), (0, .ref om), (1, .int (nI a)), (2, .int (nI k))]) 4 ?_ ?_ ?_
  · exact ⟨0, rfl, ⟨hP, hD, hS⟩, lv_eq (by rw [show nI 3 - nI 0 = nI 3 from by decide]) hl⟩
  · rintro i H locs ls hi ⟨v, h1, ⟨hP, hD, hS⟩, hl⟩ ih
    have hl : lv_has ls 6 [(5, .int (nI (3 - i))), (3, .long v), (0, .ref om), (1, .int (nI a)), (2, .int (nI k))] := by rw [← pk_sub (show i ≤ 3 by omega)]; exact hl
    refine lv_iload hx hb dX3_longOf_5 (lv_at hl 0 rfl) ?_
    refine lv_if_lt (tgt := 40) hx hb dX3_longOf_7 (by decide) (fun c7 => absurd c7 (nI_pos (by omega))) (fun c7 => ?_)
    refine lv_lload_n hx hb dX3_longOf_10 rfl (lv_at hl 1 rfl) ?_
    refine lv_ldc2 (v := 65536) hx hb hown (hts (.constantLong RX3 49 (65536)) (by decide +kernel)) dX3_longOf_11 ?_
    refine lv_lmul hx hb dX3_longOf_14 ?_
    refine lv_topl (fun v14 e14 => ?_)
    refine lv_aload_n hx hb dX3_longOf_15 rfl (lv_at hl 2 rfl) ?_
    refine va_get (D := D) (ci := 3) (v := .ref aDg) (C := RX3) (T := TX3) (N := 7) hx hb hts (by decide +kernel) hown hK hP 0 rfl rfl 5 (by decide) (hts (.fieldLink RX3 16 "LadderDeskModel" "digits" "[I") (by decide +kernel)) (fun _ h9 => h9) rfl dX3_longOf_16 ?_
    refine lv_bipush (v := nI 16) hx hb dX3_longOf_19 (by decide) ?_
    refine lv_iload_n hx hb dX3_longOf_21 rfl (lv_at hl 3 rfl) ?_
    refine lv_imul hx hb dX3_longOf_22 ?_
    refine zi (pk_mul _ _) ?_
    refine lv_iconst (v := nI 4) hx hb dX3_longOf_23 (by decide) ?_
    refine lv_iload_n hx hb dX3_longOf_24 rfl (lv_at hl 4 rfl) ?_
    refine lv_imul hx hb dX3_longOf_25 ?_
    refine zi (pk_mul _ _) ?_
    refine lv_iadd hx hb dX3_longOf_26 ?_
    refine zi (nI_add _ _) ?_
    refine lv_iload hx hb dX3_longOf_27 (lv_at hl 0 rfl) ?_
    refine lv_iadd hx hb dX3_longOf_29 ?_
    refine zi (nI_add _ _) ?_
    refine y_ldi hx hb hK hP 3 1 rfl rfl (((16 * a) + (4 * k)) + (3 - i)) rfl (by omega) (by omega) dX3_longOf_30 ?_
    refine lv_topi (fun v30 e30 => ?_)
    refine lv_i2l hx hb dX3_longOf_31 rfl ?_
    refine lv_topl (fun v31 e31 => ?_)
    refine lv_ladd hx hb dX3_longOf_32 ?_
    refine lv_topl (fun v32 e32 => ?_)
    refine lv_lstore_n (lv' := [(3, .long v32), (5, .int (nI (3 - i))), (0, .ref om), (1, .int (nI a)), (2, .int (nI k))]) hx hb dX3_longOf_33 rfl hl (by decide) rfl (fun ls hl => ?_)
    refine lv_iinc (v := nI 3 - nI (i + 1)) (lv' := [(5, .int (nI 3 - nI (i + 1))), (3, .long v32), (0, .ref om), (1, .int (nI a)), (2, .int (nI k))]) hx hb dX3_longOf_34 hl (k := 1) rfl (dn_3 i hi) (by decide) rfl (fun ls hl => ?_)
    refine lv_goto (tgt := 5) hx hb dX3_longOf_37 (by decide) ?_
    have hd0 : 0 ≤ v30.toInt := by have := (hxa.1 (4 * k + (3 - i)) (by omega)).1; unfold dd at this; rw [e30, show 16 * a + 4 * k + (3 - i) = 16 * a + (4 * k + (3 - i)) by omega]; exact this
    exact ih _ _ _ ⟨_, la_s (w := v14) (x := v31) h1 e30 hd0 e14 e31 e32, ⟨hP, hD, hS⟩, hl⟩
  · rintro H locs ls ⟨v, h1, ⟨hP, hD, hS⟩, hl⟩
    refine lv_iload hx hb dX3_longOf_5 (lv_at hl 0 rfl) ?_
    refine lv_if_lt (tgt := 40) hx hb dX3_longOf_7 (by decide) (fun c7 => ?_) (fun c7 => absurd (by decide) c7)
    refine lv_lload_n hx hb dX3_longOf_40 rfl (lv_at hl 1 rfl) ?_
    exact z_lret hx hb hr hlocks dX3_longOf_41 hK hP hD hS (⟨by rw [h1, la_4 hxa hk], rfl⟩)
set_option maxRecDepth 100000 in
set_option maxHeartbeats 4000000 in
theorem m_bit (l : Launch) (D : va_G) (cA cI : ClassId) (tys : List (ClassId × FieldType)) (om aSc aPt aDg aSu : Nat) (fp fs fr : Int32) (scf ptf : Nat → Int64) (dg : Nat → Int32) (su : Nat → Int64) (i : Nat) (hi : i ≤ 254) : zCi l D ((cA, .long) :: (cI, .int) :: tys) yX3_bit wsX3_bit ({ frames := 0, cells := 0, slots := 0, locals := 0 }) [.ref om, .int (nI i)] ([(om, .inr (3, [.int fp, .int fs, .int fr, .ref aSc, .ref aPt, .ref aDg, .ref aSu])), (aSc, .inl (cA, 4, .inr (.inl scf))), (aPt, .inl (cA, 4, .inr (.inl ptf))), (aDg, .inl (cI, 208, .inl dg)), (aSu, .inl (cA, 32, .inr (.inl su)))]) (fun r (u : va_W) => (r = 1 ∨ r = 0) ∧ (pb scf i = true ↔ ¬ r = 0) ∧ u = [(om, .inr (3, [.int fp, .int fs, .int fr, .ref aSc, .ref aPt, .ref aDg, .ref aSu])), (aSc, .inl (cA, 4, .inr (.inl scf))), (aPt, .inl (cA, 4, .inr (.inl ptf))), (aDg, .inl (cI, 208, .inl dg)), (aSu, .inl (cA, 32, .inr (.inl su)))]) := by
  refine z_met (fun A => va_Qi (fun r (u : va_W) => (r = 1 ∨ r = 0) ∧ (pb scf i = true ↔ ¬ r = 0) ∧ u = [(om, .inr (3, [.int fp, .int fs, .int fr, .ref aSc, .ref aPt, .ref aDg, .ref aSu])), (aSc, .inl (cA, 4, .inr (.inl scf))), (aPt, .inl (cA, 4, .inr (.inl ptf))), (aDg, .inl (cI, 208, .inl dg)), (aSu, .inl (cA, 32, .inr (.inl su)))]) (zB D ((cA, .long) :: (cI, .int) :: tys) A) A) (by decide) rfl (Nat.le_of_ble_eq_true rfl) ?_
  intro p e s m below meth c hx hb hr hml hts hown hlocks hname A hA hP hK hD hS ls hl
  have hown : s.vm.findClass RX3 = some m.cls := hown
  have hl : lv_has ls 2 [(0, .ref om), (1, .int (nI i))] := hl
  refine lv_iload_n hx hb dX3_bit_0 rfl (lv_at hl 1 rfl) ?_
  refine lv_iconst (v := nI 3) hx hb dX3_bit_1 (by decide) ?_
  refine lv_icmp_lt (tgt := 12) hx hb dX3_bit_2 (by decide) (fun c2 => ?_) (fun c2 => ?_)
  · have hc := (nI_ltI (by omega) (by omega)).mp c2
    have hp : pb scf i = false := by unfold pb; rw [if_pos hc]
    refine lv_iconst (v := nI 0) hx hb dX3_bit_12 (by decide) ?_
    exact z_zret hx hb hr hlocks dX3_bit_13 rfl hK hP hD hS (⟨Or.inr rfl, ⟨fun h => absurd (hp.symm.trans h) (by decide), fun h => absurd rfl h⟩, rfl⟩)
  · have hc : ¬ i < 3 := fun h => c2 ((nI_ltI (by omega) (by omega)).mpr h)
    refine lv_iload_n hx hb dX3_bit_5 rfl (lv_at hl 1 rfl) ?_
    refine lv_sipush (v := nI 255) hx hb dX3_bit_6 (by decide) ?_
    refine lv_icmp_ne (tgt := 14) hx hb dX3_bit_9 (by decide) (fun c9 => ?_) (fun c9 => absurd ((nI_eq (by omega) (by omega)).mp c9) (by omega))
    refine lv_iload_n hx hb dX3_bit_14 rfl (lv_at hl 1 rfl) ?_
    refine lv_sipush (v := nI 254) hx hb dX3_bit_15 (by decide) ?_
    refine lv_icmp_eq (tgt := 42) hx hb dX3_bit_18 (by decide) (fun c18 => ?_) (fun c18 => ?_)
    · have hc2 := (nI_eq (by omega) (by omega)).mp c18
      have hp : pb scf i = true := by unfold pb; rw [if_neg hc, if_pos hc2]
      refine lv_iconst (v := nI 1) hx hb dX3_bit_42 (by decide) ?_
      refine lv_goto (tgt := 47) hx hb dX3_bit_43 (by decide) ?_
      exact z_zret hx hb hr hlocks dX3_bit_47 rfl hK hP hD hS (⟨Or.inl rfl, ⟨fun _ => by decide, fun _ => hp⟩, rfl⟩)
    · have hc2 : ¬ i = 254 := fun h => c18 (by rw [h])
      have hp : pb scf i = (uw (scf (i / 64))).testBit (i % 64) := by unfold pb; rw [if_neg hc, if_neg hc2]
      refine lv_aload_n hx hb dX3_bit_21 rfl (lv_at hl 0 rfl) ?_
      refine va_get (D := D) (ci := 3) (v := .ref aSc) (C := RX3) (T := TX3) (N := 7) hx hb hts (by decide +kernel) hown hK hP 0 rfl rfl 3 (by decide) (hts (.fieldLink RX3 7 "LadderDeskModel" "scalar" "[J") (by decide +kernel)) (fun _ h9 => h9) rfl dX3_bit_22 ?_
      refine lv_iload_n hx hb dX3_bit_25 rfl (lv_at hl 1 rfl) ?_
      refine lv_bipush (v := nI 64) hx hb dX3_bit_26 (by decide) ?_
      refine lv_idiv hx hb dX3_bit_28 (by decide) ?_
      refine zi (pk_div (by omega) (by decide) (by decide)) ?_
      refine y_ld hx hb hK hP 1 0 rfl rfl (i / 64) rfl (by omega) (by omega) dX3_bit_29 ?_
      refine lv_topl (fun v29 e29 => ?_)
      refine lv_iload_n hx hb dX3_bit_30 rfl (lv_at hl 1 rfl) ?_
      refine lv_bipush (v := nI 64) hx hb dX3_bit_31 (by decide) ?_
      refine lv_irem hx hb dX3_bit_33 (by decide) ?_
      refine zi (pk_rem (by omega) (by decide) (by decide)) ?_
      refine lv_lshr hx hb dX3_bit_34 rfl ?_
      refine lv_topl (fun v34 e34 => ?_)
      refine lv_lconst (v := 1) hx hb dX3_bit_35 (by decide) ?_
      refine lv_land hx hb dX3_bit_36 ?_
      refine lv_topl (fun v36 e36 => ?_)
      refine lv_lconst (v := 1) hx hb dX3_bit_37 (by decide) ?_
      refine W.lcmp hx hb dX3_bit_38 ?_
      have hbit := sbit (x := scf (i / 64)) (s := i % 64) (by omega) (by rw [← e29]; exact e34) e36
      rw [← hp] at hbit
      refine lv_if_ne (tgt := 46) hx hb dX3_bit_39 (by decide) (fun c39 => ?_) (fun c39 => ?_)
      · have hc3 := cmp_ne c39
        refine lv_iconst (v := nI 0) hx hb dX3_bit_46 (by decide) ?_
        exact z_zret hx hb hr hlocks dX3_bit_47 rfl hK hP hD hS (⟨Or.inr rfl, ⟨fun h => absurd (hbit.mp h) hc3, fun h => absurd rfl h⟩, rfl⟩)
      · have hc3 := (lg_cmp_eq _ _).mp c39
        refine lv_iconst (v := nI 1) hx hb dX3_bit_42 (by decide) ?_
        refine lv_goto (tgt := 47) hx hb dX3_bit_43 (by decide) ?_
        exact z_zret hx hb hr hlocks dX3_bit_47 rfl hK hP hD hS (⟨Or.inl rfl, ⟨fun _ => by decide, fun _ => hbit.mpr hc3⟩, rfl⟩)
set_option maxRecDepth 100000 in
set_option maxHeartbeats 4000000 in
theorem m_makeU (l : Launch) (D : va_G) (cA cI : ClassId) (tys : List (ClassId × FieldType)) (om aSc aPt aDg aSu : Nat) (fp fs fr : Int32) (scf ptf : Nat → Int64) (dg : Nat → Int32) (su : Nat → Int64)  : zCv l D ((cA, .long) :: (cI, .int) :: tys) yX3_makeU wsX3_makeU ({ frames := 3, cells := 0, slots := 0, locals := 70 }) [.ref om] ([(om, .inr (3, [.int fp, .int fs, .int fr, .ref aSc, .ref aPt, .ref aDg, .ref aSu])), (aSc, .inl (cA, 4, .inr (.inl scf))), (aPt, .inl (cA, 4, .inr (.inl ptf))), (aDg, .inl (cI, 208, .inl dg)), (aSu, .inl (cA, 32, .inr (.inl su)))]) (fun (u : va_W) => ∃ (dg' : Nat → Int32) (su' : Nat → Int64), (∀ i, i / 16 ≠ 4 → dg' i = dg i) ∧ dh dg' 4 (uo ptf) ∧ u = [(om, .inr (3, [.int fp, .int fs, .int fr, .ref aSc, .ref aPt, .ref aDg, .ref aSu])), (aSc, .inl (cA, 4, .inr (.inl scf))), (aPt, .inl (cA, 4, .inr (.inl ptf))), (aDg, .inl (cI, 208, .inl dg')), (aSu, .inl (cA, 32, .inr (.inl su')))]) := by
  refine z_met (fun A => va_Qv (fun (u : va_W) => ∃ (dg' : Nat → Int32) (su' : Nat → Int64), (∀ i, i / 16 ≠ 4 → dg' i = dg i) ∧ dh dg' 4 (uo ptf) ∧ u = [(om, .inr (3, [.int fp, .int fs, .int fr, .ref aSc, .ref aPt, .ref aDg, .ref aSu])), (aSc, .inl (cA, 4, .inr (.inl scf))), (aPt, .inl (cA, 4, .inr (.inl ptf))), (aDg, .inl (cI, 208, .inl dg')), (aSu, .inl (cA, 32, .inr (.inl su')))]) (zB D ((cA, .long) :: (cI, .int) :: tys) A) A) (by decide) rfl (Nat.le_of_ble_eq_true rfl) ?_
  intro p e s m below meth c hx hb hr hml hts hown hlocks hname A hA hP hK hD hS ls hl
  have hown : s.vm.findClass RX3 = some m.cls := hown
  have hl : lv_has ls 2 [(0, .ref om)] := hl
  refine lv_iconst (v := nI 0) hx hb dX3_makeU_0 (by decide) ?_
  refine lv_istore_n (lv' := [(1, .int (nI 0)), (0, .ref om)]) hx hb dX3_makeU_1 rfl hl (by decide) rfl (fun ls hl => ?_)
  refine z_loop (fun i H locs ls => ∃ f : Nat → Int64, (∀ j, j < i → fI f j = ((uw (ptf (j / 4)) / 2 ^ (16 * (j % 4)) % 65536 : Nat) : Int)) ∧ zH D A s.heap ([(om, .inr (3, [.int fp, .int fs, .int fr, .ref aSc, .ref aPt, .ref aDg, .ref aSu])), (aSc, .inl (cA, 4, .inr (.inl scf))), (aPt, .inl (cA, 4, .inr (.inl ptf))), (aDg, .inl (cI, 208, .inl dg)), (aSu, .inl (cA, 32, .inr (.inl f)))]) H locs ∧ lv_has ls 2 [(1, .int (nI i)), (0, .ref om)]) 16 ?_ ?_ ?_
  · exact ⟨su, fun j h => by omega, ⟨hP, hD, hS⟩, hl⟩
  · rintro i H locs ls hi ⟨f, h1, ⟨hP, hD, hS⟩, hl⟩ ih
    refine lv_iload_n hx hb dX3_makeU_2 rfl (lv_at hl 0 rfl) ?_
    refine lv_bipush (v := nI 16) hx hb dX3_makeU_3 (by decide) ?_
    refine lv_icmp_ge (tgt := 39) hx hb dX3_makeU_5 (by decide) (fun c5 => absurd ((nI_leI (by omega) (by omega)).mp c5) (by omega)) (fun c5 => ?_)
    refine lv_aload_n hx hb dX3_makeU_8 rfl (lv_at hl 1 rfl) ?_
    refine va_get (D := D) (ci := 3) (v := .ref aSu) (C := RX3) (T := TX3) (N := 7) hx hb hts (by decide +kernel) hown hK hP 0 rfl rfl 6 (by decide) (hts (.fieldLink RX3 20 "LadderDeskModel" "sums" "[J") (by decide +kernel)) (fun _ h9 => h9) rfl dX3_makeU_9 ?_
    refine lv_iload_n hx hb dX3_makeU_12 rfl (lv_at hl 0 rfl) ?_
    refine lv_aload_n hx hb dX3_makeU_13 rfl (lv_at hl 1 rfl) ?_
    refine va_get (D := D) (ci := 3) (v := .ref aPt) (C := RX3) (T := TX3) (N := 7) hx hb hts (by decide +kernel) hown hK hP 0 rfl rfl 4 (by decide) (hts (.fieldLink RX3 13 "LadderDeskModel" "point" "[J") (by decide +kernel)) (fun _ h9 => h9) rfl dX3_makeU_14 ?_
    refine lv_iload_n hx hb dX3_makeU_17 rfl (lv_at hl 0 rfl) ?_
    refine lv_iconst (v := nI 4) hx hb dX3_makeU_18 (by decide) ?_
    refine lv_idiv hx hb dX3_makeU_19 (by decide) ?_
    refine zi (pk_div (by omega) (by decide) (by decide)) ?_
    refine y_ld hx hb hK hP 2 0 rfl rfl (i / 4) rfl (by omega) (by omega) dX3_makeU_20 ?_
    refine lv_topl (fun v20 e20 => ?_)
    refine lv_bipush (v := nI 16) hx hb dX3_makeU_21 (by decide) ?_
    refine lv_iload_n hx hb dX3_makeU_23 rfl (lv_at hl 0 rfl) ?_
    refine lv_iconst (v := nI 4) hx hb dX3_makeU_24 (by decide) ?_
    refine lv_irem hx hb dX3_makeU_25 (by decide) ?_
    refine zi (pk_rem (by omega) (by decide) (by decide)) ?_
    refine lv_imul hx hb dX3_makeU_26 ?_
    refine zi (pk_mul _ _) ?_
    refine lv_lushr hx hb dX3_makeU_27 rfl ?_
    refine lv_topl (fun v27 e27 => ?_)
    refine lv_ldc2 (v := 65535) hx hb hown (hts (.constantLong RX3 33 (65535)) (by decide +kernel)) dX3_makeU_28 ?_
    refine lv_land hx hb dX3_makeU_31 ?_
    refine lv_topl (fun v31 e31 => ?_)
    refine y_st hx hb hK hP hD hS 4 0 rfl rfl i rfl (by omega) (by omega) dX3_makeU_32 (fun H locs hP hD hS => ?_)
    have hP : va_P D vwCl ([(om, .inr (3, [.int fp, .int fs, .int fr, .ref aSc, .ref aPt, .ref aDg, .ref aSu])), (aSc, .inl (cA, 4, .inr (.inl scf))), (aPt, .inl (cA, 4, .inr (.inl ptf))), (aDg, .inl (cI, 208, .inl dg)), (aSu, .inl (cA, 32, .inr (.inl (vp_updL f i v31))))]) H := hP
    have hD : va_D A ([(om, .inr (3, [.int fp, .int fs, .int fr, .ref aSc, .ref aPt, .ref aDg, .ref aSu])), (aSc, .inl (cA, 4, .inr (.inl scf))), (aPt, .inl (cA, 4, .inr (.inl ptf))), (aDg, .inl (cI, 208, .inl dg)), (aSu, .inl (cA, 32, .inr (.inl (vp_updL f i v31))))]) := hD
    refine lv_iinc (v := nI (i + 1)) (lv' := [(1, .int (nI (i + 1))), (0, .ref om)]) hx hb dX3_makeU_33 hl (k := 0) rfl (by show nI _ + nI 1 = _; exact nI_add _ _) (by decide) rfl (fun ls hl => ?_)
    refine lv_goto (tgt := 2) hx hb dX3_makeU_36 (by decide) ?_
    have i3 := rd_16 (x := ptf (i / 4)) (sh := 16 * (i % 4)) (by omega) (by rw [← e20]; exact e27) e31
    exact ih _ _ _ ⟨_, fun j hj => by
      by_cases e : j = i
      · subst e; rw [fI_us, i3]
      · rw [fI_un e]; exact h1 j (by omega), ⟨hP, hD, hS⟩, hl⟩
  · rintro H locs ls ⟨f, h1, ⟨hP, hD, hS⟩, hl⟩
    refine lv_iload_n hx hb dX3_makeU_2 rfl (lv_at hl 0 rfl) ?_
    refine lv_bipush (v := nI 16) hx hb dX3_makeU_3 (by decide) ?_
    refine lv_icmp_ge (tgt := 39) hx hb dX3_makeU_5 (by decide) (fun c5 => ?_) (fun c5 => absurd ((nI_leI (by omega) (by omega)).mpr (by omega)) c5)
    refine lv_aload_n hx hb dX3_makeU_39 rfl (lv_at hl 1 rfl) ?_
    refine va_get (D := D) (ci := 3) (v := .ref aSu) (C := RX3) (T := TX3) (N := 7) hx hb hts (by decide +kernel) hown hK hP 0 rfl rfl 6 (by decide) (hts (.fieldLink RX3 20 "LadderDeskModel" "sums" "[J") (by decide +kernel)) (fun _ h9 => h9) rfl dX3_makeU_40 ?_
    refine lv_bipush (v := nI 15) hx hb dX3_makeU_43 (by decide) ?_
    refine lv_aload_n hx hb dX3_makeU_45 rfl (lv_at hl 1 rfl) ?_
    refine va_get (D := D) (ci := 3) (v := .ref aSu) (C := RX3) (T := TX3) (N := 7) hx hb hts (by decide +kernel) hown hK hP 0 rfl rfl 6 (by decide) (hts (.fieldLink RX3 20 "LadderDeskModel" "sums" "[J") (by decide +kernel)) (fun _ h9 => h9) rfl dX3_makeU_46 ?_
    refine lv_bipush (v := nI 15) hx hb dX3_makeU_49 (by decide) ?_
    refine y_ld hx hb hK hP 4 0 rfl rfl 15 rfl (by omega) (by omega) dX3_makeU_51 ?_
    refine lv_topl (fun v51 e51 => ?_)
    refine lv_ldc2 (v := 32767) hx hb hown (hts (.constantLong RX3 37 (32767)) (by decide +kernel)) dX3_makeU_52 ?_
    refine lv_land hx hb dX3_makeU_55 ?_
    refine lv_topl (fun v55 e55 => ?_)
    refine y_st hx hb hK hP hD hS 4 0 rfl rfl 15 rfl (by omega) (by omega) dX3_makeU_56 (fun H locs hP hD hS => ?_)
    have hP : va_P D vwCl ([(om, .inr (3, [.int fp, .int fs, .int fr, .ref aSc, .ref aPt, .ref aDg, .ref aSu])), (aSc, .inl (cA, 4, .inr (.inl scf))), (aPt, .inl (cA, 4, .inr (.inl ptf))), (aDg, .inl (cI, 208, .inl dg)), (aSu, .inl (cA, 32, .inr (.inl (vp_updL f 15 v55))))]) H := hP
    have hD : va_D A ([(om, .inr (3, [.int fp, .int fs, .int fr, .ref aSc, .ref aPt, .ref aDg, .ref aSu])), (aSc, .inl (cA, 4, .inr (.inl scf))), (aPt, .inl (cA, 4, .inr (.inl ptf))), (aDg, .inl (cI, 208, .inl dg)), (aSu, .inl (cA, 32, .inr (.inl (vp_updL f 15 v55))))]) := hD
    refine lv_aload_n hx hb dX3_makeU_57 rfl (lv_at hl 1 rfl) ?_
    refine lv_iconst (v := nI 4) hx hb dX3_makeU_58 (by decide) ?_
    obtain ⟨k1, k2⟩ := makeU_sum (z := v55) h1 (by rw [e55, e51])
    refine z_callv (va_runV (As := [.int (nI 4)]) (rest := []) ⟨hx, hb, hml, hown, hts⟩ (m_store l D cA cI tys om aSc aPt aDg aSu fp fs fr scf ptf dg (vp_updL f 15 v55) 4 (by omega) k1 _) (cwV 1 hts gX3_makeU_X3_store rfl rfl rfl (by decide +kernel) ⟨Nat.le_of_ble_eq_true rfl, Nat.le_of_ble_eq_true rfl⟩) (z_preV _ hK hP hD (ci := 3) (q0 := 0) rfl rfl) rfl rfl hl.1 rfl (lv_room (Nat.le_of_ble_eq_true rfl)) dX3_makeU_59 ⟨Nat.le_of_ble_eq_true rfl, Nat.le_of_ble_eq_true rfl⟩) hD hS hA (fun u H locs hu hP hD hS => ?_)
    obtain ⟨dg', su', k3, k4, rfl⟩ := hu
    rw [k2] at k4
    exact z_vret hx hb hr hlocks dX3_makeU_62 hK hP hD hS (⟨dg', su', k3, k4, rfl⟩)
