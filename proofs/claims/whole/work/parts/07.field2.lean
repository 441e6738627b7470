set_option maxRecDepth 100000 in
set_option maxHeartbeats 4000000 in
theorem c_carry (l : Launch) (D : va_G) (cA : ClassId) (tys : List (ClassId × FieldType)) (X : va_W) (L : List Nat) (n : Nat → Nat) (q : Nat → Nat → Int64) (a : Nat) (ha : a ∈ L ∧ n a = 10) (hq : ∀ j, j < 10 → 0 ≤ fI (q a) j ∧ fI (q a) j < 4611686018427387904) : zCv l D ((cA, .long) :: tys) yX0_carry wsX0_carry ({ frames := 0, cells := 0, slots := 0, locals := 0 }) [.ref a] (X ++ PL cA L n q) (fun u => ∃ g, CarP (q a) g ∧ u = X ++ PL cA L n (va_up q a g)) := by
  refine z_met (fun A => va_Qv (fun u => ∃ g, CarP (q a) g ∧ u = X ++ PL cA L n (va_up q a g)) (zB D ((cA, .long) :: tys) A) A) (by decide) rfl (Nat.le_of_ble_eq_true rfl) ?_
  intro p e s m below meth c hx hb hr hml hts hown hlocks hname A hA hP hK hD hS ls hl
  have hown : s.vm.findClass RX0 = some m.cls := hown
  have hl : lv_has ls 6 [(0, .ref a)] := hl
  refine lv_lconst (v := 0) hx hb dX0_carry_0 (by decide) ?_
  refine lv_lstore_n (lv' := [(1, .long 0), (0, .ref a)]) hx hb dX0_carry_1 rfl hl (by decide) rfl (fun ls hl => ?_)
  refine lv_iconst (v := nI 0) hx hb dX0_carry_2 (by decide) ?_
  refine lv_istore_n (lv' := [(3, .int (nI 0)), (1, .long 0), (0, .ref a)]) hx hb dX0_carry_3 rfl hl (by decide) rfl (fun ls hl => ?_)
  refine z_loop (fun i H locs ls => ∃ (g : Nat → Int64) (o : Int64), Icar (q a) g i o ∧ zH D A s.heap (X ++ PL cA L n (va_up q a g)) H locs ∧ lv_has ls 6 [(3, .int (nI i)), (1, .long o), (0, .ref a)]) 10 ?_ ?_ ?_
  · exact ⟨q a, 0, Icar_0 _, by rw [up_id]; exact ⟨hP, hD, hS⟩, hl⟩
  · rintro i H locs ls hi ⟨g, o, hI, ⟨hP, hD, hS⟩, hl⟩ ih
    refine lv_iload_n hx hb dX0_carry_4 rfl (lv_at hl 0 rfl) ?_
    refine lv_bipush (v := nI 10) hx hb dX0_carry_5 (by decide) ?_
    refine lv_icmp_ge (tgt := 38) hx hb dX0_carry_7 (by decide) (fun c7 => absurd ((nI_leI (by omega) (by omega)).mp c7) (by omega)) (fun c7 => ?_)
    refine lv_aload_n hx hb dX0_carry_10 rfl (lv_at hl 2 rfl) ?_
    refine lv_iload_n hx hb dX0_carry_11 rfl (lv_at hl 0 rfl) ?_
    refine z_ld hx hb hK hP ha i rfl (by omega) (by omega) dX0_carry_12 ?_
    refine lv_topl (fun v12 e12 => ?_)
    refine lv_lload_n hx hb dX0_carry_13 rfl (lv_at hl 1 rfl) ?_
    refine lv_ladd hx hb dX0_carry_14 ?_
    refine lv_topl (fun v14 e14 => ?_)
    refine lv_lstore (lv' := [(4, .long v14), (3, .int (nI i)), (1, .long o), (0, .ref a)]) hx hb dX0_carry_15 hl (by decide) rfl (fun ls hl => ?_)
    refine lv_aload_n hx hb dX0_carry_17 rfl (lv_at hl 3 rfl) ?_
    refine lv_iload_n hx hb dX0_carry_18 rfl (lv_at hl 1 rfl) ?_
    refine lv_lload hx hb dX0_carry_19 (lv_at hl 0 rfl) ?_
    refine lv_ldc2 (v := 67108863) hx hb hown (hts (.constantLong RX0 57 (67108863)) (by decide +kernel)) dX0_carry_21 ?_
    refine lv_land hx hb dX0_carry_24 ?_
    refine lv_topl (fun v24 e24 => ?_)
    refine z_st hx hb hK hP hD hS ha i rfl (by omega) (by omega) dX0_carry_25 (fun H locs hP hD hS => ?_)
    rw [up_uu, va_up_self] at hP hD
    rw [va_up_self] at e12
    refine lv_lload hx hb dX0_carry_26 (lv_at hl 0 rfl) ?_
    refine lv_bipush (v := nI 26) hx hb dX0_carry_28 (by decide) ?_
    refine lv_lshr hx hb dX0_carry_30 rfl ?_
    refine lv_topl (fun v30 e30 => ?_)
    refine lv_lstore_n (lv' := [(1, .long v30), (4, .long v14), (3, .int (nI i)), (0, .ref a)]) hx hb dX0_carry_31 rfl hl (by decide) rfl (fun ls hl => ?_)
    refine lv_iinc (v := nI (i + 1)) (lv' := [(3, .int (nI (i + 1))), (1, .long v30), (4, .long v14), (0, .ref a)]) hx hb dX0_carry_32 hl (k := 2) rfl (by show nI _ + nI 1 = _; exact nI_add _ _) (by decide) rfl (fun ls hl => ?_)
    refine lv_goto (tgt := 4) hx hb dX0_carry_35 (by decide) ?_
    exact ih _ _ _ ⟨_, _, Icar_s (v := v14) hI (hq i hi) (by rw [e14, e12]) e24 e30, ⟨hP, hD, hS⟩, lv_sub hl [0, 1, 3] rfl⟩
  · rintro H locs ls ⟨g, o, hI, ⟨hP, hD, hS⟩, hl⟩
    refine lv_iload_n hx hb dX0_carry_4 rfl (lv_at hl 0 rfl) ?_
    refine lv_bipush (v := nI 10) hx hb dX0_carry_5 (by decide) ?_
    refine lv_icmp_ge (tgt := 38) hx hb dX0_carry_7 (by decide) (fun c7 => ?_) (fun c7 => absurd ((nI_leI (by omega) (by omega)).mpr (by omega)) c7)
    refine lv_aload_n hx hb dX0_carry_38 rfl (lv_at hl 2 rfl) ?_
    refine lv_iconst (v := nI 0) hx hb dX0_carry_39 (by decide) ?_
    refine lv_dup2_11 hx hb dX0_carry_40 rfl rfl ?_
    refine z_ld hx hb hK hP ha 0 rfl (by omega) (by omega) dX0_carry_41 ?_
    refine lv_topl (fun v41 e41 => ?_)
    refine lv_ldc2 (v := 608) hx hb hown (hts (.constantLong RX0 45 (608)) (by decide +kernel)) dX0_carry_42 ?_
    refine lv_lload_n hx hb dX0_carry_45 rfl (lv_at hl 1 rfl) ?_
    refine lv_lmul hx hb dX0_carry_46 ?_
    refine lv_topl (fun v46 e46 => ?_)
    refine lv_ladd hx hb dX0_carry_47 ?_
    refine lv_topl (fun v47 e47 => ?_)
    refine z_st hx hb hK hP hD hS ha 0 rfl (by omega) (by omega) dX0_carry_48 (fun H locs hP hD hS => ?_)
    rw [up_uu, va_up_self] at hP hD
    rw [va_up_self] at e41
    exact z_vret hx hb hr hlocks dX0_carry_49 hK hP hD hS (⟨_, Icar_e (x := v46) (y := v47) hI e46 (by rw [e47, e41]), rfl⟩)
set_option maxRecDepth 100000 in
set_option maxHeartbeats 4000000 in
theorem c_scale (l : Launch) (D : va_G) (cA : ClassId) (tys : List (ClassId × FieldType)) (X : va_W) (L : List Nat) (n : Nat → Nat) (q : Nat → Nat → Int64) (to f : Nat) (hto : to ∈ L ∧ n to = 10) (hf : f ∈ L ∧ n f = 10) (hq : ∀ j, j < 10 → 0 ≤ fI (q f) j ∧ fI (q f) j < 268435456) : zCv l D ((cA, .long) :: tys) yX0_scale wsX0_scale ({ frames := 1, cells := 0, slots := 0, locals := 25 }) [.ref to, .ref f] (X ++ PL cA L n q) (fun u => ∃ g, scaled g ∧ cg (fv g) (121665 * fv (q f)) ∧ u = X ++ PL cA L n (va_up q to g)) := by
  refine z_met (fun A => va_Qv (fun u => ∃ g, scaled g ∧ cg (fv g) (121665 * fv (q f)) ∧ u = X ++ PL cA L n (va_up q to g)) (zB D ((cA, .long) :: tys) A) A) (by decide) rfl (Nat.le_of_ble_eq_true rfl) ?_
  intro p e s m below meth c hx hb hr hml hts hown hlocks hname A hA hP hK hD hS ls hl
  have hown : s.vm.findClass RX0 = some m.cls := hown
  have hl : lv_has ls 3 [(0, .ref to), (1, .ref f)] := hl
  refine lv_iconst (v := nI 0) hx hb dX0_scale_0 (by decide) ?_
  refine lv_istore_n (lv' := [(2, .int (nI 0)), (0, .ref to), (1, .ref f)]) hx hb dX0_scale_1 rfl hl (by decide) rfl (fun ls hl => ?_)
  refine z_loop (fun i H locs ls => zH D A s.heap (X ++ PL cA L n (mpq q to (fun j => q f j * 121665) i)) H locs ∧ lv_has ls 3 [(2, .int (nI i)), (0, .ref to), (1, .ref f)]) 10 ?_ ?_ ?_
  · exact ⟨by rw [mpq_0]; exact ⟨hP, hD, hS⟩, hl⟩
  · rintro i H locs ls hi ⟨⟨hP, hD, hS⟩, hl⟩ ih
    refine lv_iload_n hx hb dX0_scale_2 rfl (lv_at hl 0 rfl) ?_
    refine lv_bipush (v := nI 10) hx hb dX0_scale_3 (by decide) ?_
    refine lv_icmp_ge (tgt := 24) hx hb dX0_scale_5 (by decide) (fun c5 => absurd ((nI_leI (by omega) (by omega)).mp c5) (by omega)) (fun c5 => ?_)
    refine lv_aload_n hx hb dX0_scale_8 rfl (lv_at hl 1 rfl) ?_
    refine lv_iload_n hx hb dX0_scale_9 rfl (lv_at hl 0 rfl) ?_
    refine lv_aload_n hx hb dX0_scale_10 rfl (lv_at hl 2 rfl) ?_
    refine lv_iload_n hx hb dX0_scale_11 rfl (lv_at hl 0 rfl) ?_
    refine z_ld hx hb hK hP hf i rfl (by omega) (by omega) dX0_scale_12 ?_
    refine lv_topl (fun v12 e12 => ?_)
    refine lv_ldc2 (v := 121665) hx hb hown (hts (.constantLong RX0 32 (121665)) (by decide +kernel)) dX0_scale_13 ?_
    refine lv_lmul hx hb dX0_scale_16 ?_
    refine lv_topl (fun v16 e16 => ?_)
    refine z_st hx hb hK hP hD hS hto i rfl (by omega) (by omega) dX0_scale_17 (fun H locs hP hD hS => ?_)
    rw [mpq_st (F := (fun j => q f j * 121665)) (by rw [e16, e12, mpq_rd])] at hP hD
    refine lv_iinc (v := nI (i + 1)) (lv' := [(2, .int (nI (i + 1))), (0, .ref to), (1, .ref f)]) hx hb dX0_scale_18 hl (k := 0) rfl (by show nI _ + nI 1 = _; exact nI_add _ _) (by decide) rfl (fun ls hl => ?_)
    refine lv_goto (tgt := 2) hx hb dX0_scale_21 (by decide) ?_
    exact ih _ _ _ ⟨⟨hP, hD, hS⟩, hl⟩
  · rintro H locs ls ⟨⟨hP, hD, hS⟩, hl⟩
    refine lv_iload_n hx hb dX0_scale_2 rfl (lv_at hl 0 rfl) ?_
    refine lv_bipush (v := nI 10) hx hb dX0_scale_3 (by decide) ?_
    refine lv_icmp_ge (tgt := 24) hx hb dX0_scale_5 (by decide) (fun c5 => ?_) (fun c5 => absurd ((nI_leI (by omega) (by omega)).mpr (by omega)) c5)
    refine lv_aload_n hx hb dX0_scale_24 rfl (lv_at hl 1 rfl) ?_
    obtain ⟨k1, k2, k3⟩ := scale_fold (f := q f) (t := mpq q to (fun j => q f j * 121665) 10 to) hq (fun j hj => by rw [mpq_to, if_pos hj])
    refine z_callv (va_runS (As := [.ref to]) (rest := []) ⟨hx, hb, hml, hown, hts⟩ (c_carry l D cA tys X L n (mpq q to (fun j => q f j * 121665) 10) to hto k1 _) (va_cwS 1 hts gX0_scale_X0_carry rfl rfl rfl (by decide +kernel) ⟨Nat.le_of_ble_eq_true rfl, Nat.le_of_ble_eq_true rfl⟩) (z_preS _ hK hP hD) rfl rfl hl.1 rfl (lv_room (Nat.le_of_ble_eq_true rfl)) dX0_scale_25 ⟨Nat.le_of_ble_eq_true rfl, Nat.le_of_ble_eq_true rfl⟩) hD hS hA (fun u H locs hu hP hD hS => ?_)
    obtain ⟨g, hg, rfl⟩ := hu
    obtain ⟨j1, j2⟩ := car_scaled hg k3
    exact z_vret hx hb hr hlocks dX0_scale_28 hK hP hD hS (⟨g, j1, by rw [← k2]; exact j2, by unfold mpq; rw [up_uu]⟩)
set_option maxRecDepth 100000 in
set_option maxHeartbeats 4000000 in
theorem c_carryWide (l : Launch) (D : va_G) (cA : ClassId) (tys : List (ClassId × FieldType)) (d0 l0 : Nat × va_E) (hf wd wh : Nat) (L : List Nat) (n : Nat → Nat) (q : Nat → Nat → Int64) (hw : wd ∈ L ∧ n wd = 20) (hq : ∀ j, j < 20 → 0 ≤ fI (q wd) j ∧ fI (q wd) j < 4611686018427387904) : zCv l D ((cA, .long) :: tys) yX0_carryWide wsX0_carryWide ({ frames := 0, cells := 0, slots := 0, locals := 0 }) [.ref hf] ([d0, l0, (hf, .inr (0, [.ref wd, .ref wh]))] ++ PL cA L n q) (fun u => ∃ g, Icw (q wd) g 19 ∧ u = [d0, l0, (hf, .inr (0, [.ref wd, .ref wh]))] ++ PL cA L n (va_up q wd g)) := by
  refine z_met (fun A => va_Qv (fun u => ∃ g, Icw (q wd) g 19 ∧ u = [d0, l0, (hf, .inr (0, [.ref wd, .ref wh]))] ++ PL cA L n (va_up q wd g)) (zB D ((cA, .long) :: tys) A) A) (by decide) rfl (Nat.le_of_ble_eq_true rfl) ?_
  intro p e s m below meth c hx hb hr hml hts hown hlocks hname A hA hP hK hD hS ls hl
  have hown : s.vm.findClass RX0 = some m.cls := hown
  have hl : lv_has ls 2 [(0, .ref hf)] := hl
  refine lv_iconst (v := nI 0) hx hb dX0_carryWide_0 (by decide) ?_
  refine lv_istore_n (lv' := [(1, .int (nI 0)), (0, .ref hf)]) hx hb dX0_carryWide_1 rfl hl (by decide) rfl (fun ls hl => ?_)
  refine z_loop (fun i H locs ls => ∃ g : Nat → Int64, Icw (q wd) g i ∧ zH D A s.heap ([d0, l0, (hf, .inr (0, [.ref wd, .ref wh]))] ++ PL cA L n (va_up q wd g)) H locs ∧ lv_has ls 2 [(1, .int (nI i)), (0, .ref hf)]) 19 ?_ ?_ ?_
  · exact ⟨q wd, Icw_0 (hq 0 (by omega)), by rw [up_id]; exact ⟨hP, hD, hS⟩, hl⟩
  · rintro i H locs ls hi ⟨g, hI, ⟨hP, hD, hS⟩, hl⟩ ih
    refine lv_iload_n hx hb dX0_carryWide_2 rfl (lv_at hl 0 rfl) ?_
    refine lv_bipush (v := nI 19) hx hb dX0_carryWide_3 (by decide) ?_
    refine lv_icmp_ge (tgt := 46) hx hb dX0_carryWide_5 (by decide) (fun c5 => absurd ((nI_leI (by omega) (by omega)).mp c5) (by omega)) (fun c5 => ?_)
    refine lv_aload_n hx hb dX0_carryWide_8 rfl (lv_at hl 1 rfl) ?_
    refine va_get (D := D) (ci := 0) (v := .ref wd) (C := RX0) (T := TX0) (N := 2) hx hb hts (by decide +kernel) hown hK hP 2 rfl rfl 0 (by decide) (hts (.fieldLink RX0 11 "LadderDesk$Field" "wide" "[J") (by decide +kernel)) (fun _ h9 => h9) rfl dX0_carryWide_9 ?_
    refine lv_iload_n hx hb dX0_carryWide_12 rfl (lv_at hl 0 rfl) ?_
    refine lv_iconst (v := nI 1) hx hb dX0_carryWide_13 (by decide) ?_
    refine lv_iadd hx hb dX0_carryWide_14 ?_
    refine zi (nI_add _ _) ?_
    refine lv_dup2_11 hx hb dX0_carryWide_15 rfl rfl ?_
    refine z_ld hx hb hK hP hw (i + 1) rfl (by omega) (by omega) dX0_carryWide_16 ?_
    refine lv_topl (fun v16 e16 => ?_)
    refine lv_aload_n hx hb dX0_carryWide_17 rfl (lv_at hl 1 rfl) ?_
    refine va_get (D := D) (ci := 0) (v := .ref wd) (C := RX0) (T := TX0) (N := 2) hx hb hts (by decide +kernel) hown hK hP 2 rfl rfl 0 (by decide) (hts (.fieldLink RX0 11 "LadderDesk$Field" "wide" "[J") (by decide +kernel)) (fun _ h9 => h9) rfl dX0_carryWide_18 ?_
    refine lv_iload_n hx hb dX0_carryWide_21 rfl (lv_at hl 0 rfl) ?_
    refine z_ld hx hb hK hP hw i rfl (by omega) (by omega) dX0_carryWide_22 ?_
    refine lv_topl (fun v22 e22 => ?_)
    refine lv_bipush (v := nI 26) hx hb dX0_carryWide_23 (by decide) ?_
    refine lv_lshr hx hb dX0_carryWide_25 rfl ?_
    refine lv_topl (fun v25 e25 => ?_)
    refine lv_ladd hx hb dX0_carryWide_26 ?_
    refine lv_topl (fun v26 e26 => ?_)
    refine z_st hx hb hK hP hD hS hw (i + 1) rfl (by omega) (by omega) dX0_carryWide_27 (fun H locs hP hD hS => ?_)
    rw [up_uu, va_up_self] at hP hD
    rw [va_up_self] at e16 e22
    refine lv_aload_n hx hb dX0_carryWide_28 rfl (lv_at hl 1 rfl) ?_
    refine va_get (D := D) (ci := 0) (v := .ref wd) (C := RX0) (T := TX0) (N := 2) hx hb hts (by decide +kernel) hown hK hP 2 rfl rfl 0 (by decide) (hts (.fieldLink RX0 11 "LadderDesk$Field" "wide" "[J") (by decide +kernel)) (fun _ h9 => h9) rfl dX0_carryWide_29 ?_
    refine lv_iload_n hx hb dX0_carryWide_32 rfl (lv_at hl 0 rfl) ?_
    refine lv_dup2_11 hx hb dX0_carryWide_33 rfl rfl ?_
    refine z_ld hx hb hK hP hw i rfl (by omega) (by omega) dX0_carryWide_34 ?_
    refine lv_topl (fun v34 e34 => ?_)
    refine lv_ldc2 (v := 67108863) hx hb hown (hts (.constantLong RX0 57 (67108863)) (by decide +kernel)) dX0_carryWide_35 ?_
    refine lv_land hx hb dX0_carryWide_38 ?_
    refine lv_topl (fun v38 e38 => ?_)
    refine z_st hx hb hK hP hD hS hw i rfl (by omega) (by omega) dX0_carryWide_39 (fun H locs hP hD hS => ?_)
    rw [up_uu, va_up_self] at hP hD
    rw [va_up_self] at e34
    have e34 : v34 = g i := by rw [e34]; unfold vp_updL; rw [if_neg (by omega)]
    refine lv_iinc (v := nI (i + 1)) (lv' := [(1, .int (nI (i + 1))), (0, .ref hf)]) hx hb dX0_carryWide_40 hl (k := 0) rfl (by show nI _ + nI 1 = _; exact nI_add _ _) (by decide) rfl (fun ls hl => ?_)
    refine lv_goto (tgt := 2) hx hb dX0_carryWide_43 (by decide) ?_
    exact ih _ _ _ ⟨_, Icw_s (x := v25) (y := v26) (z := v38) hI hi (hq (i + 1) (by omega)) (by rw [e25, e22]) (by rw [e26, e16]) (by rw [e38, e34]), ⟨hP, hD, hS⟩, hl⟩
  · rintro H locs ls ⟨g, hI, ⟨hP, hD, hS⟩, hl⟩
    refine lv_iload_n hx hb dX0_carryWide_2 rfl (lv_at hl 0 rfl) ?_
    refine lv_bipush (v := nI 19) hx hb dX0_carryWide_3 (by decide) ?_
    refine lv_icmp_ge (tgt := 46) hx hb dX0_carryWide_5 (by decide) (fun c5 => ?_) (fun c5 => absurd ((nI_leI (by omega) (by omega)).mpr (by omega)) c5)
    exact z_vret hx hb hr hlocks dX0_carryWide_46 hK hP hD hS (⟨g, hI, rfl⟩)
set_option maxRecDepth 100000 in
set_option maxHeartbeats 4000000 in
theorem c_gather (l : Launch) (D : va_G) (cA : ClassId) (tys : List (ClassId × FieldType)) (d0 l0 : Nat × va_E) (hf wd wh : Nat) (L : List Nat) (n : Nat → Nat) (q : Nat → Nat → Int64) (f h : Nat) (hw : wd ∈ L ∧ n wd = 20) (hf1 : f ∈ L ∧ n f = 10) (hh1 : h ∈ L ∧ n h = 10) (hf2 : loose (q f)) (hh2 : loose (q h)) : zCv l D ((cA, .long) :: tys) yX0_gather wsX0_gather ({ frames := 1, cells := 0, slots := 0, locals := 24 }) [.ref hf, .ref f, .ref h] ([d0, l0, (hf, .inr (0, [.ref wd, .ref wh]))] ++ PL cA L n q) (fun u => ∃ g, Igo (q f) (q h) g 10 ∧ u = [d0, l0, (hf, .inr (0, [.ref wd, .ref wh]))] ++ PL cA L n (va_up q wd g)) := by
  refine z_met (fun A => va_Qv (fun u => ∃ g, Igo (q f) (q h) g 10 ∧ u = [d0, l0, (hf, .inr (0, [.ref wd, .ref wh]))] ++ PL cA L n (va_up q wd g)) (zB D ((cA, .long) :: tys) A) A) (by decide) rfl (Nat.le_of_ble_eq_true rfl) ?_
  intro p e s m below meth c hx hb hr hml hts hown hlocks hname A hA hP hK hD hS ls hl
  have hown : s.vm.findClass RX0 = some m.cls := hown
  have hl : lv_has ls 7 [(0, .ref hf), (1, .ref f), (2, .ref h)] := hl
  have nf : f ≠ wd := fun e => by rw [e, hw.2] at hf1; omega
  have nh : h ≠ wd := fun e => by rw [e, hw.2] at hh1; omega
  refine lv_aload_n hx hb dX0_gather_0 rfl (lv_at hl 0 rfl) ?_
  refine va_get (D := D) (ci := 0) (v := .ref wd) (C := RX0) (T := TX0) (N := 2) hx hb hts (by decide +kernel) hown hK hP 2 rfl rfl 0 (by decide) (hts (.fieldLink RX0 11 "LadderDesk$Field" "wide" "[J") (by decide +kernel)) (fun _ h9 => h9) rfl dX0_gather_1 ?_
  refine lv_lconst (v := 0) hx hb dX0_gather_4 (by decide) ?_
  refine z_callv (va_runS (As := [.ref wd, .long 0]) (rest := []) ⟨hx, hb, hml, hown, hts⟩ (c_fill l D cA tys [d0, l0, (hf, .inr (0, [.ref wd, .ref wh]))] L n q wd 0 20 hw (by decide) _) (va_cwS 2 hts gX0_gather_J7_fill_d0a16 rfl rfl rfl (by decide +kernel) ⟨Nat.le_of_ble_eq_true rfl, Nat.le_of_ble_eq_true rfl⟩) (z_preS _ hK hP hD) rfl rfl hl.1 rfl (lv_room (Nat.le_of_ble_eq_true rfl)) dX0_gather_5 ⟨Nat.le_of_ble_eq_true rfl, Nat.le_of_ble_eq_true rfl⟩) hD hS hA (fun u H locs hu hP hD hS => ?_)
  subst hu
  have hP : va_P D vwCl ([d0, l0, (hf, .inr (0, [.ref wd, .ref wh]))] ++ PL cA L n (mpq q wd (fun _ => 0) 20)) H := hP
  refine lv_iconst (v := nI 0) hx hb dX0_gather_8 (by decide) ?_
  refine lv_istore_n (lv' := [(3, .int (nI 0)), (0, .ref hf), (1, .ref f), (2, .ref h)]) hx hb dX0_gather_9 rfl hl (by decide) rfl (fun ls hl => ?_)
  refine z_loop (fun i H locs ls => ∃ g : Nat → Int64, Igo (q f) (q h) g i ∧ zH D A s.heap ([d0, l0, (hf, .inr (0, [.ref wd, .ref wh]))] ++ PL cA L n (va_up q wd g)) H locs ∧ lv_has ls 7 [(3, .int (nI i)), (0, .ref hf), (1, .ref f), (2, .ref h)]) 10 ?_ ?_ ?_
  · exact ⟨_, Igo_0 (w := fun j => if j < 20 then 0 else q wd j) (fun k hk => if_pos hk), ⟨hP, hD, hS⟩, hl⟩
  · rintro i H locs ls hi ⟨g, hI, ⟨hP, hD, hS⟩, hl⟩ ih
    refine lv_iload_n hx hb dX0_gather_10 rfl (lv_at hl 0 rfl) ?_
    refine lv_bipush (v := nI 10) hx hb dX0_gather_11 (by decide) ?_
    refine lv_icmp_ge (tgt := 62) hx hb dX0_gather_13 (by decide) (fun c13 => absurd ((nI_leI (by omega) (by omega)).mp c13) (by omega)) (fun c13 => ?_)
    refine lv_aload_n hx hb dX0_gather_16 rfl (lv_at hl 2 rfl) ?_
    refine lv_iload_n hx hb dX0_gather_17 rfl (lv_at hl 0 rfl) ?_
    refine z_ld hx hb hK hP hf1 i rfl (by omega) (by omega) dX0_gather_18 ?_
    refine lv_topl (fun v18 e18 => ?_)
    refine lv_lstore (lv' := [(4, .long v18), (3, .int (nI i)), (0, .ref hf), (1, .ref f), (2, .ref h)]) hx hb dX0_gather_19 hl (by decide) rfl (fun ls hl => ?_)
    refine lv_iconst (v := nI 0) hx hb dX0_gather_21 (by decide) ?_
    refine lv_istore (lv' := [(6, .int (nI 0)), (4, .long v18), (3, .int (nI i)), (0, .ref hf), (1, .ref f), (2, .ref h)]) hx hb dX0_gather_22 hl (by decide) rfl (fun ls hl => ?_)
    rw [va_up_ne _ _ nf] at e18
    refine z_loop (fun j H locs ls => ∃ g : Nat → Int64, Igi (q f) (q h) g i j ∧ zH D A s.heap ([d0, l0, (hf, .inr (0, [.ref wd, .ref wh]))] ++ PL cA L n (va_up q wd g)) H locs ∧ lv_has ls 7 [(6, .int (nI j)), (4, .long v18), (3, .int (nI i)), (0, .ref hf), (1, .ref f), (2, .ref h)]) 10 ?_ ?_ ?_
    · exact ⟨_, Igi_0 hI, ⟨hP, hD, hS⟩, hl⟩
    · rintro j H locs ls hj ⟨g, hI, ⟨hP, hD, hS⟩, hl⟩ ih2
      refine lv_iload hx hb dX0_gather_24 (lv_at hl 0 rfl) ?_
      refine lv_bipush (v := nI 10) hx hb dX0_gather_26 (by decide) ?_
      refine lv_icmp_ge (tgt := 56) hx hb dX0_gather_28 (by decide) (fun c28 => absurd ((nI_leI (by omega) (by omega)).mp c28) (by omega)) (fun c28 => ?_)
      refine lv_aload_n hx hb dX0_gather_31 rfl (lv_at hl 3 rfl) ?_
      refine va_get (D := D) (ci := 0) (v := .ref wd) (C := RX0) (T := TX0) (N := 2) hx hb hts (by decide +kernel) hown hK hP 2 rfl rfl 0 (by decide) (hts (.fieldLink RX0 11 "LadderDesk$Field" "wide" "[J") (by decide +kernel)) (fun _ h9 => h9) rfl dX0_gather_32 ?_
      refine lv_iload_n hx hb dX0_gather_35 rfl (lv_at hl 2 rfl) ?_
      refine lv_iload hx hb dX0_gather_36 (lv_at hl 0 rfl) ?_
      refine lv_iadd hx hb dX0_gather_38 ?_
      refine zi (nI_add _ _) ?_
      refine lv_dup2_11 hx hb dX0_gather_39 rfl rfl ?_
      refine z_ld hx hb hK hP hw (i + j) rfl (by omega) (by omega) dX0_gather_40 ?_
      refine lv_topl (fun v40 e40 => ?_)
      refine lv_lload hx hb dX0_gather_41 (lv_at hl 1 rfl) ?_
      refine lv_aload_n hx hb dX0_gather_43 rfl (lv_at hl 5 rfl) ?_
      refine lv_iload hx hb dX0_gather_44 (lv_at hl 0 rfl) ?_
      refine z_ld hx hb hK hP hh1 j rfl (by omega) (by omega) dX0_gather_46 ?_
      refine lv_topl (fun v46 e46 => ?_)
      refine lv_lmul hx hb dX0_gather_47 ?_
      refine lv_topl (fun v47 e47 => ?_)
      refine lv_ladd hx hb dX0_gather_48 ?_
      refine lv_topl (fun v48 e48 => ?_)
      refine z_st hx hb hK hP hD hS hw (i + j) rfl (by omega) (by omega) dX0_gather_49 (fun H locs hP hD hS => ?_)
      rw [up_uu, va_up_self] at hP hD
      rw [va_up_self] at e40
      rw [va_up_ne _ _ nh] at e46
      refine lv_iinc (v := nI (j + 1)) (lv' := [(6, .int (nI (j + 1))), (4, .long v18), (3, .int (nI i)), (0, .ref hf), (1, .ref f), (2, .ref h)]) hx hb dX0_gather_50 hl (k := 0) rfl (by show nI _ + nI 1 = _; exact nI_add _ _) (by decide) rfl (fun ls hl => ?_)
      refine lv_goto (tgt := 24) hx hb dX0_gather_53 (by decide) ?_
      exact ih2 _ _ _ ⟨_, Igi_s (x := v47) (y := v48) hI hi hj hf2 hh2 (by rw [e47, e18, e46]) (by rw [e48, e40]), ⟨hP, hD, hS⟩, hl⟩
    · rintro H locs ls ⟨g, hI, ⟨hP, hD, hS⟩, hl⟩
      refine lv_iload hx hb dX0_gather_24 (lv_at hl 0 rfl) ?_
      refine lv_bipush (v := nI 10) hx hb dX0_gather_26 (by decide) ?_
      refine lv_icmp_ge (tgt := 56) hx hb dX0_gather_28 (by decide) (fun c28 => ?_) (fun c28 => absurd ((nI_leI (by omega) (by omega)).mpr (by omega)) c28)
      refine lv_iinc (v := nI (i + 1)) (lv' := [(3, .int (nI (i + 1))), (6, .int (nI 10)), (4, .long v18), (0, .ref hf), (1, .ref f), (2, .ref h)]) hx hb dX0_gather_56 hl (k := 2) rfl (by show nI _ + nI 1 = _; exact nI_add _ _) (by decide) rfl (fun ls hl => ?_)
      refine lv_goto (tgt := 10) hx hb dX0_gather_59 (by decide) ?_
      exact ih _ _ _ ⟨_, Igi_e hI, ⟨hP, hD, hS⟩, lv_sub hl [0, 3, 4, 5] rfl⟩
  · rintro H locs ls ⟨g, hI, ⟨hP, hD, hS⟩, hl⟩
    refine lv_iload_n hx hb dX0_gather_10 rfl (lv_at hl 0 rfl) ?_
    refine lv_bipush (v := nI 10) hx hb dX0_gather_11 (by decide) ?_
    refine lv_icmp_ge (tgt := 62) hx hb dX0_gather_13 (by decide) (fun c13 => ?_) (fun c13 => absurd ((nI_leI (by omega) (by omega)).mpr (by omega)) c13)
    exact z_vret hx hb hr hlocks dX0_gather_62 hK hP hD hS (⟨g, hI, rfl⟩)
set_option maxRecDepth 100000 in
set_option maxHeartbeats 4000000 in
theorem c_multiply (l : Launch) (D : va_G) (cA : ClassId) (tys : List (ClassId × FieldType)) (d0 l0 : Nat × va_E) (hf wd wh : Nat) (L : List Nat) (n : Nat → Nat) (q : Nat → Nat → Int64) (to f h : Nat) (hw : wd ∈ L ∧ n wd = 20) (hto : to ∈ L ∧ n to = 10) (hf1 : f ∈ L ∧ n f = 10) (hh1 : h ∈ L ∧ n h = 10) (hf2 : loose (q f)) (hh2 : loose (q h)) : zCv l D ((cA, .long) :: tys) yX0_multiply wsX0_multiply ({ frames := 2, cells := 0, slots := 0, locals := 50 }) [.ref hf, .ref to, .ref f, .ref h] ([d0, l0, (hf, .inr (0, [.ref wd, .ref wh]))] ++ PL cA L n q) (fun u => ∃ q' : Nat → Nat → Int64, (∀ b, b ≠ to → b ≠ wd → q' b = q b) ∧ settled (q' to) ∧ cg (fv (q' to)) (fv (q f) * fv (q h)) ∧ u = [d0, l0, (hf, .inr (0, [.ref wd, .ref wh]))] ++ PL cA L n q') := by
  refine z_met (fun A => va_Qv (fun u => ∃ q' : Nat → Nat → Int64, (∀ b, b ≠ to → b ≠ wd → q' b = q b) ∧ settled (q' to) ∧ cg (fv (q' to)) (fv (q f) * fv (q h)) ∧ u = [d0, l0, (hf, .inr (0, [.ref wd, .ref wh]))] ++ PL cA L n q') (zB D ((cA, .long) :: tys) A) A) (by decide) rfl (Nat.le_of_ble_eq_true rfl) ?_
  intro p e s m below meth c hx hb hr hml hts hown hlocks hname A hA hP hK hD hS ls hl
  have hown : s.vm.findClass RX0 = some m.cls := hown
  have hl : lv_has ls 5 [(0, .ref hf), (1, .ref to), (2, .ref f), (3, .ref h)] := hl
  have nt : wd ≠ to := fun e => by rw [e, hto.2] at hw; omega
  refine lv_aload_n hx hb dX0_multiply_0 rfl (lv_at hl 0 rfl) ?_
  refine lv_aload_n hx hb dX0_multiply_1 rfl (lv_at hl 2 rfl) ?_
  refine lv_aload_n hx hb dX0_multiply_2 rfl (lv_at hl 3 rfl) ?_
  refine z_callv (va_runV (As := [.ref f, .ref h]) (rest := []) ⟨hx, hb, hml, hown, hts⟩ (c_gather l D cA tys d0 l0 hf wd wh L n q f h hw hf1 hh1 hf2 hh2 _) (cwV 2 hts gX0_multiply_X0_gather rfl rfl rfl (by decide +kernel) ⟨Nat.le_of_ble_eq_true rfl, Nat.le_of_ble_eq_true rfl⟩) (z_preV _ hK hP hD (ci := 0) (q0 := 2) rfl rfl) rfl rfl hl.1 rfl (lv_room (Nat.le_of_ble_eq_true rfl)) dX0_multiply_3 ⟨Nat.le_of_ble_eq_true rfl, Nat.le_of_ble_eq_true rfl⟩) hD hS hA (fun u H locs hu hP hD hS => ?_)
  obtain ⟨w0, hw0, rfl⟩ := hu
  obtain ⟨k1, k2⟩ := Igo_e hw0
  refine lv_aload_n hx hb dX0_multiply_6 rfl (lv_at hl 0 rfl) ?_
  refine z_callv (va_runV (As := []) (rest := []) ⟨hx, hb, hml, hown, hts⟩ (c_carryWide l D cA tys d0 l0 hf wd wh L n (va_up q wd w0) hw (by rw [va_up_self]; exact k1) _) (cwV 0 hts gX0_multiply_X0_carryWide rfl rfl rfl (by decide +kernel) ⟨Nat.le_of_ble_eq_true rfl, Nat.le_of_ble_eq_true rfl⟩) (z_preV _ hK hP hD (ci := 0) (q0 := 2) rfl rfl) rfl rfl hl.1 rfl (lv_room (Nat.le_of_ble_eq_true rfl)) dX0_multiply_7 ⟨Nat.le_of_ble_eq_true rfl, Nat.le_of_ble_eq_true rfl⟩) hD hS hA (fun u H locs hu hP hD hS => ?_)
  obtain ⟨w, hw1, rfl⟩ := hu
  rw [up_uu] at hP hD
  rw [va_up_self] at hw1
  obtain ⟨j1, -, j2, -, j3⟩ := hw1
  rw [k2] at j3
  refine lv_iconst (v := nI 0) hx hb dX0_multiply_10 (by decide) ?_
  refine lv_istore (lv' := [(4, .int (nI 0)), (0, .ref hf), (1, .ref to), (2, .ref f), (3, .ref h)]) hx hb dX0_multiply_11 hl (by decide) rfl (fun ls hl => ?_)
  refine z_loop (fun i H locs ls => zH D A s.heap ([d0, l0, (hf, .inr (0, [.ref wd, .ref wh]))] ++ PL cA L n (mpq (va_up q wd w) to (fun j => w j + 608 * w (j + 10)) i)) H locs ∧ lv_has ls 5 [(4, .int (nI i)), (0, .ref hf), (1, .ref to), (2, .ref f), (3, .ref h)]) 10 ?_ ?_ ?_
  · exact ⟨by rw [mpq_0]; exact ⟨hP, hD, hS⟩, hl⟩
  · rintro i H locs ls hi ⟨⟨hP, hD, hS⟩, hl⟩ ih
    refine lv_iload hx hb dX0_multiply_13 (lv_at hl 0 rfl) ?_
    refine lv_bipush (v := nI 10) hx hb dX0_multiply_15 (by decide) ?_
    refine lv_icmp_ge (tgt := 52) hx hb dX0_multiply_17 (by decide) (fun c17 => absurd ((nI_leI (by omega) (by omega)).mp c17) (by omega)) (fun c17 => ?_)
    refine lv_aload_n hx hb dX0_multiply_20 rfl (lv_at hl 2 rfl) ?_
    refine lv_iload hx hb dX0_multiply_21 (lv_at hl 0 rfl) ?_
    refine lv_aload_n hx hb dX0_multiply_23 rfl (lv_at hl 1 rfl) ?_
    refine va_get (D := D) (ci := 0) (v := .ref wd) (C := RX0) (T := TX0) (N := 2) hx hb hts (by decide +kernel) hown hK hP 2 rfl rfl 0 (by decide) (hts (.fieldLink RX0 11 "LadderDesk$Field" "wide" "[J") (by decide +kernel)) (fun _ h9 => h9) rfl dX0_multiply_24 ?_
    refine lv_iload hx hb dX0_multiply_27 (lv_at hl 0 rfl) ?_
    refine z_ld hx hb hK hP hw i rfl (by omega) (by omega) dX0_multiply_29 ?_
    refine lv_topl (fun v29 e29 => ?_)
    refine lv_ldc2 (v := 608) hx hb hown (hts (.constantLong RX0 45 (608)) (by decide +kernel)) dX0_multiply_30 ?_
    refine lv_aload_n hx hb dX0_multiply_33 rfl (lv_at hl 1 rfl) ?_
    refine va_get (D := D) (ci := 0) (v := .ref wd) (C := RX0) (T := TX0) (N := 2) hx hb hts (by decide +kernel) hown hK hP 2 rfl rfl 0 (by decide) (hts (.fieldLink RX0 11 "LadderDesk$Field" "wide" "[J") (by decide +kernel)) (fun _ h9 => h9) rfl dX0_multiply_34 ?_
    refine lv_iload hx hb dX0_multiply_37 (lv_at hl 0 rfl) ?_
    refine lv_bipush (v := nI 10) hx hb dX0_multiply_39 (by decide) ?_
    refine lv_iadd hx hb dX0_multiply_41 ?_
    refine zi (nI_add _ _) ?_
    refine z_ld hx hb hK hP hw (i + 10) rfl (by omega) (by omega) dX0_multiply_42 ?_
    refine lv_topl (fun v42 e42 => ?_)
    refine lv_lmul hx hb dX0_multiply_43 ?_
    refine lv_topl (fun v43 e43 => ?_)
    refine lv_ladd hx hb dX0_multiply_44 ?_
    refine lv_topl (fun v44 e44 => ?_)
    refine z_st hx hb hK hP hD hS hto i rfl (by omega) (by omega) dX0_multiply_45 (fun H locs hP hD hS => ?_)
    rw [mpq_ne nt, va_up_self] at e29 e42
    rw [mpq_st (F := (fun j => w j + 608 * w (j + 10))) (by rw [e44, e29, e43, e42])] at hP hD
    refine lv_iinc (v := nI (i + 1)) (lv' := [(4, .int (nI (i + 1))), (0, .ref hf), (1, .ref to), (2, .ref f), (3, .ref h)]) hx hb dX0_multiply_46 hl (k := 0) rfl (by show nI _ + nI 1 = _; exact nI_add _ _) (by decide) rfl (fun ls hl => ?_)
    refine lv_goto (tgt := 13) hx hb dX0_multiply_49 (by decide) ?_
    exact ih _ _ _ ⟨⟨hP, hD, hS⟩, hl⟩
  · rintro H locs ls ⟨⟨hP, hD, hS⟩, hl⟩
    refine lv_iload hx hb dX0_multiply_13 (lv_at hl 0 rfl) ?_
    refine lv_bipush (v := nI 10) hx hb dX0_multiply_15 (by decide) ?_
    refine lv_icmp_ge (tgt := 52) hx hb dX0_multiply_17 (by decide) (fun c17 => ?_) (fun c17 => absurd ((nI_leI (by omega) (by omega)).mpr (by omega)) c17)
    refine lv_aload_n hx hb dX0_multiply_52 rfl (lv_at hl 2 rfl) ?_
    obtain ⟨m1, m2, m3, m4⟩ := mul_fold (w := w) (t := mpq (va_up q wd w) to (fun j => w j + 608 * w (j + 10)) 10 to) (loose_le hf2) (loose_le hh2) j1 j2 j3 (fun j hj => by rw [mpq_to, if_pos hj])
    refine z_callv (va_runS (As := [.ref to]) (rest := []) ⟨hx, hb, hml, hown, hts⟩ (c_carry l D cA tys [d0, l0, (hf, .inr (0, [.ref wd, .ref wh]))] L n (mpq (va_up q wd w) to (fun j => w j + 608 * w (j + 10)) 10) to hto m1 _) (va_cwS 1 hts gX0_multiply_X0_carry rfl rfl rfl (by decide +kernel) ⟨Nat.le_of_ble_eq_true rfl, Nat.le_of_ble_eq_true rfl⟩) (z_preS _ hK hP hD) rfl rfl hl.1 rfl (lv_room (Nat.le_of_ble_eq_true rfl)) dX0_multiply_53 ⟨Nat.le_of_ble_eq_true rfl, Nat.le_of_ble_eq_true rfl⟩) hD hS hA (fun u H locs hu hP hD hS => ?_)
    obtain ⟨g, hg, rfl⟩ := hu
    obtain ⟨a1, a2⟩ := car_settled hg m3
    exact z_vret hx hb hr hlocks dX0_multiply_56 hK hP hD hS (⟨_, fun b h1 h2 => by rw [va_up_ne _ _ h1, mpq_ne h1, va_up_ne _ _ h2], by rw [va_up_self]; exact a1, by rw [va_up_self]; exact cg_trans a2 m4, rfl⟩)
