set_option maxRecDepth 100000 in
set_option maxHeartbeats 4000000 in
theorem c_foldTop (l : Launch) (D : va_G) (cA : ClassId) (tys : List (ClassId × FieldType)) (X : va_W) (L : List Nat) (n : Nat → Nat) (q : Nat → Nat → Int64) (a : Nat) (ha : a ∈ L ∧ n a = 10) (hq : ∀ j, j < 10 → 0 ≤ fI (q a) j ∧ fI (q a) j < 4611686018427387904) : zCv l D ((cA, .long) :: tys) yX0_foldTop wsX0_foldTop ({ frames := 0, cells := 0, slots := 0, locals := 0 }) [.ref a] (X ++ PL cA L n q) (fun u => ∃ g, FoldP (q a) g ∧ u = X ++ PL cA L n (va_up q a g)) := by
  refine z_met (fun A => va_Qv (fun u => ∃ g, FoldP (q a) g ∧ u = X ++ PL cA L n (va_up q a g)) (zB D ((cA, .long) :: tys) A) A) (by decide) rfl (Nat.le_of_ble_eq_true rfl) ?_
  intro p e s m below meth c hx hb hr hml hts hown hlocks hname A hA hP hK hD hS ls hl
  have hown : s.vm.findClass RX0 = some m.cls := hown
  have hl : lv_has ls 2 [(0, .ref a)] := hl
  refine lv_iconst (v := nI 0) hx hb dX0_foldTop_0 (by decide) ?_
  refine lv_istore_n (lv' := [(1, .int (nI 0)), (0, .ref a)]) hx hb dX0_foldTop_1 rfl hl (by decide) rfl (fun ls hl => ?_)
  refine z_loop (fun i H locs ls => ∃ g : Nat → Int64, Icf (q a) g i ∧ zH D A s.heap (X ++ PL cA L n (va_up q a g)) H locs ∧ lv_has ls 2 [(1, .int (nI i)), (0, .ref a)]) 9 ?_ ?_ ?_
  · exact ⟨q a, Icf_0 (hq 0 (by omega)), by rw [up_id]; exact ⟨hP, hD, hS⟩, hl⟩
  · rintro i H locs ls hi ⟨g, hI, ⟨hP, hD, hS⟩, hl⟩ ih
    refine lv_iload_n hx hb dX0_foldTop_2 rfl (lv_at hl 0 rfl) ?_
    refine lv_bipush (v := nI 9) hx hb dX0_foldTop_3 (by decide) ?_
    refine lv_icmp_ge (tgt := 37) hx hb dX0_foldTop_5 (by decide) (fun c5 => absurd ((nI_leI (by omega) (by omega)).mp c5) (by omega)) (fun c5 => ?_)
    refine lv_aload_n hx hb dX0_foldTop_8 rfl (lv_at hl 1 rfl) ?_
    refine lv_iload_n hx hb dX0_foldTop_9 rfl (lv_at hl 0 rfl) ?_
    refine lv_iconst (v := nI 1) hx hb dX0_foldTop_10 (by decide) ?_
    refine lv_iadd hx hb dX0_foldTop_11 ?_
    refine zi (nI_add _ _) ?_
    refine lv_dup2_11 hx hb dX0_foldTop_12 rfl rfl ?_
    refine z_ld hx hb hK hP ha (i + 1) rfl (by omega) (by omega) dX0_foldTop_13 ?_
    refine lv_topl (fun v13 e13 => ?_)
    refine lv_aload_n hx hb dX0_foldTop_14 rfl (lv_at hl 1 rfl) ?_
    refine lv_iload_n hx hb dX0_foldTop_15 rfl (lv_at hl 0 rfl) ?_
    refine z_ld hx hb hK hP ha i rfl (by omega) (by omega) dX0_foldTop_16 ?_
    refine lv_topl (fun v16 e16 => ?_)
    refine lv_bipush (v := nI 26) hx hb dX0_foldTop_17 (by decide) ?_
    refine lv_lshr hx hb dX0_foldTop_19 rfl ?_
    refine lv_topl (fun v19 e19 => ?_)
    refine lv_ladd hx hb dX0_foldTop_20 ?_
    refine lv_topl (fun v20 e20 => ?_)
    refine z_st hx hb hK hP hD hS ha (i + 1) rfl (by omega) (by omega) dX0_foldTop_21 (fun H locs hP hD hS => ?_)
    rw [up_uu, va_up_self] at hP hD
    rw [va_up_self] at e13 e16
    refine lv_aload_n hx hb dX0_foldTop_22 rfl (lv_at hl 1 rfl) ?_
    refine lv_iload_n hx hb dX0_foldTop_23 rfl (lv_at hl 0 rfl) ?_
    refine lv_dup2_11 hx hb dX0_foldTop_24 rfl rfl ?_
    refine z_ld hx hb hK hP ha i rfl (by omega) (by omega) dX0_foldTop_25 ?_
    refine lv_topl (fun v25 e25 => ?_)
    refine lv_ldc2 (v := 67108863) hx hb hown (hts (.constantLong RX0 57 (67108863)) (by decide +kernel)) dX0_foldTop_26 ?_
    refine lv_land hx hb dX0_foldTop_29 ?_
    refine lv_topl (fun v29 e29 => ?_)
    refine z_st hx hb hK hP hD hS ha i rfl (by omega) (by omega) dX0_foldTop_30 (fun H locs hP hD hS => ?_)
    rw [up_uu, va_up_self] at hP hD
    rw [va_up_self] at e25
    have e25 : v25 = g i := by rw [e25]; unfold vp_updL; rw [if_neg (by omega)]
    refine lv_iinc (v := nI (i + 1)) (lv' := [(1, .int (nI (i + 1))), (0, .ref a)]) hx hb dX0_foldTop_31 hl (k := 0) rfl (by show nI _ + nI 1 = _; exact nI_add _ _) (by decide) rfl (fun ls hl => ?_)
    refine lv_goto (tgt := 2) hx hb dX0_foldTop_34 (by decide) ?_
    exact ih _ _ _ ⟨_, Icf_s (x := v19) (y := v20) (z := v29) hI hi (hq (i + 1) (by omega)) (by rw [e19, e16]) (by rw [e20, e13]) (by rw [e29, e25]), ⟨hP, hD, hS⟩, hl⟩
  · rintro H locs ls ⟨g, hI, ⟨hP, hD, hS⟩, hl⟩
    refine lv_iload_n hx hb dX0_foldTop_2 rfl (lv_at hl 0 rfl) ?_
    refine lv_bipush (v := nI 9) hx hb dX0_foldTop_3 (by decide) ?_
    refine lv_icmp_ge (tgt := 37) hx hb dX0_foldTop_5 (by decide) (fun c5 => ?_) (fun c5 => absurd ((nI_leI (by omega) (by omega)).mpr (by omega)) c5)
    refine lv_aload_n hx hb dX0_foldTop_37 rfl (lv_at hl 1 rfl) ?_
    refine lv_iconst (v := nI 0) hx hb dX0_foldTop_38 (by decide) ?_
    refine lv_dup2_11 hx hb dX0_foldTop_39 rfl rfl ?_
    refine z_ld hx hb hK hP ha 0 rfl (by omega) (by omega) dX0_foldTop_40 ?_
    refine lv_topl (fun v40 e40 => ?_)
    refine lv_ldc2 (v := 19) hx hb hown (hts (.constantLong RX0 74 (19)) (by decide +kernel)) dX0_foldTop_41 ?_
    refine lv_aload_n hx hb dX0_foldTop_44 rfl (lv_at hl 1 rfl) ?_
    refine lv_bipush (v := nI 9) hx hb dX0_foldTop_45 (by decide) ?_
    refine z_ld hx hb hK hP ha 9 rfl (by omega) (by omega) dX0_foldTop_47 ?_
    refine lv_topl (fun v47 e47 => ?_)
    refine lv_bipush (v := nI 21) hx hb dX0_foldTop_48 (by decide) ?_
    refine lv_lshr hx hb dX0_foldTop_50 rfl ?_
    refine lv_topl (fun v50 e50 => ?_)
    refine lv_lmul hx hb dX0_foldTop_51 ?_
    refine lv_topl (fun v51 e51 => ?_)
    refine lv_ladd hx hb dX0_foldTop_52 ?_
    refine lv_topl (fun v52 e52 => ?_)
    refine z_st hx hb hK hP hD hS ha 0 rfl (by omega) (by omega) dX0_foldTop_53 (fun H locs hP hD hS => ?_)
    rw [up_uu, va_up_self] at hP hD
    rw [va_up_self] at e40 e47
    refine lv_aload_n hx hb dX0_foldTop_54 rfl (lv_at hl 1 rfl) ?_
    refine lv_bipush (v := nI 9) hx hb dX0_foldTop_55 (by decide) ?_
    refine lv_dup2_11 hx hb dX0_foldTop_57 rfl rfl ?_
    refine z_ld hx hb hK hP ha 9 rfl (by omega) (by omega) dX0_foldTop_58 ?_
    refine lv_topl (fun v58 e58 => ?_)
    refine lv_ldc2 (v := 2097151) hx hb hown (hts (.constantLong RX0 76 (2097151)) (by decide +kernel)) dX0_foldTop_59 ?_
    refine lv_land hx hb dX0_foldTop_62 ?_
    refine lv_topl (fun v62 e62 => ?_)
    refine z_st hx hb hK hP hD hS ha 9 rfl (by omega) (by omega) dX0_foldTop_63 (fun H locs hP hD hS => ?_)
    rw [up_uu, va_up_self] at hP hD
    rw [va_up_self] at e58
    have e58 : v58 = g 9 := by rw [e58]; unfold vp_updL; rw [if_neg (by omega)]
    exact z_vret hx hb hr hlocks dX0_foldTop_64 hK hP hD hS (⟨_, Icf_e (a := v50) (b := v51) (y := v52) (z := v62) hI (by rw [e50, e47]) e51 (by rw [e52, e40]) (by rw [e62, e58]), rfl⟩)
set_option maxRecDepth 100000 in
set_option maxHeartbeats 4000000 in
theorem c_read (l : Launch) (D : va_G) (cA : ClassId) (tys : List (ClassId × FieldType)) (X : va_W) (L : List Nat) (n : Nat → Nat) (q : Nat → Nat → Int64) (a w : Nat) (ha : a ∈ L ∧ n a = 10) (hw : w ∈ L ∧ n w = 4) (hq : uw (q w 3) < 9223372036854775808) : zCv l D ((cA, .long) :: tys) yX0_read wsX0_read ({ frames := 0, cells := 0, slots := 0, locals := 0 }) [.ref a, .ref w] (X ++ PL cA L n q) (fun u => ∃ g, settled g ∧ fv g = (wv (q w) : Int) ∧ u = X ++ PL cA L n (va_up q a g)) := by
  refine z_met (fun A => va_Qv (fun u => ∃ g, settled g ∧ fv g = (wv (q w) : Int) ∧ u = X ++ PL cA L n (va_up q a g)) (zB D ((cA, .long) :: tys) A) A) (by decide) rfl (Nat.le_of_ble_eq_true rfl) ?_
  intro p e s m below meth c hx hb hr hml hts hown hlocks hname A hA hP hK hD hS ls hl
  have hown : s.vm.findClass RX0 = some m.cls := hown
  have hl : lv_has ls 7 [(0, .ref a), (1, .ref w)] := hl
  have nw : w ≠ a := fun e => by rw [e, ha.2] at hw; omega
  refine lv_iconst (v := nI 0) hx hb dX0_read_0 (by decide) ?_
  refine lv_istore_n (lv' := [(2, .int (nI 0)), (0, .ref a), (1, .ref w)]) hx hb dX0_read_1 rfl hl (by decide) rfl (fun ls hl => ?_)
  refine z_loop (fun i H locs ls => ∃ g : Nat → Int64, (∀ j, j < i → fI g j = (rl (q w) j : Int)) ∧ zH D A s.heap (X ++ PL cA L n (va_up q a g)) H locs ∧ lv_has ls 7 [(2, .int (nI i)), (0, .ref a), (1, .ref w)]) 10 ?_ ?_ ?_
  · exact ⟨q a, fun j h => by omega, by rw [up_id]; exact ⟨hP, hD, hS⟩, hl⟩
  · rintro i H locs ls hi ⟨g, hI, ⟨hP, hD, hS⟩, hl⟩ ih
    refine lv_iload_n hx hb dX0_read_2 rfl (lv_at hl 0 rfl) ?_
    refine lv_bipush (v := nI 10) hx hb dX0_read_3 (by decide) ?_
    refine lv_icmp_ge (tgt := 81) hx hb dX0_read_5 (by decide) (fun c5 => absurd ((nI_leI (by omega) (by omega)).mp c5) (by omega)) (fun c5 => ?_)
    refine lv_iload_n hx hb dX0_read_8 rfl (lv_at hl 0 rfl) ?_
    refine lv_bipush (v := nI 26) hx hb dX0_read_9 (by decide) ?_
    refine lv_imul hx hb dX0_read_11 ?_
    refine zi (pk_mul _ _) ?_
    refine lv_bipush (v := nI 6) hx hb dX0_read_12 (by decide) ?_
    refine lv_ishr hx hb dX0_read_14 ?_
    refine zi (y := nI (i * 26 / 64)) (pk_shrN (by omega) _ 6 (by decide)) ?_
    refine lv_istore_n (lv' := [(3, .int (nI (i * 26 / 64))), (2, .int (nI i)), (0, .ref a), (1, .ref w)]) hx hb dX0_read_15 rfl hl (by decide) rfl (fun ls hl => ?_)
    refine lv_iload_n hx hb dX0_read_16 rfl (lv_at hl 1 rfl) ?_
    refine lv_bipush (v := nI 26) hx hb dX0_read_17 (by decide) ?_
    refine lv_imul hx hb dX0_read_19 ?_
    refine zi (pk_mul _ _) ?_
    refine lv_bipush (v := nI 63) hx hb dX0_read_20 (by decide) ?_
    refine lv_iand hx hb dX0_read_22 ?_
    refine zi (y := nI (i * 26 % 64)) (pk_andN (by omega) 6 (by decide)) ?_
    refine lv_istore (lv' := [(4, .int (nI (i * 26 % 64))), (3, .int (nI (i * 26 / 64))), (2, .int (nI i)), (0, .ref a), (1, .ref w)]) hx hb dX0_read_23 hl (by decide) rfl (fun ls hl => ?_)
    refine lv_aload_n hx hb dX0_read_25 rfl (lv_at hl 4 rfl) ?_
    refine lv_iload_n hx hb dX0_read_26 rfl (lv_at hl 1 rfl) ?_
    refine z_ld hx hb hK hP hw (i * 26 / 64) rfl (by omega) (by omega) dX0_read_27 ?_
    refine lv_topl (fun v27 e27 => ?_)
    refine lv_iload hx hb dX0_read_28 (lv_at hl 0 rfl) ?_
    refine lv_lushr hx hb dX0_read_30 rfl ?_
    refine lv_topl (fun v30 e30 => ?_)
    refine lv_lstore (lv' := [(5, .long v30), (4, .int (nI (i * 26 % 64))), (3, .int (nI (i * 26 / 64))), (2, .int (nI i)), (0, .ref a), (1, .ref w)]) hx hb dX0_read_31 hl (by decide) rfl (fun ls hl => ?_)
    refine lv_iload hx hb dX0_read_33 (lv_at hl 1 rfl) ?_
    refine lv_bipush (v := nI 26) hx hb dX0_read_35 (by decide) ?_
    refine lv_iadd hx hb dX0_read_37 ?_
    refine zi (nI_add _ _) ?_
    refine lv_bipush (v := nI 64) hx hb dX0_read_38 (by decide) ?_
    rw [va_up_ne _ _ nw] at e27
    refine lv_icmp_le (tgt := 66) hx hb dX0_read_40 (by decide) (fun c40 => ?_) (fun c40 => ?_)
    · have c := (nI_leI (by omega) (by omega)).mp c40
      refine lv_aload_n hx hb dX0_read_66 rfl (lv_at hl 4 rfl) ?_
      refine lv_iload_n hx hb dX0_read_67 rfl (lv_at hl 3 rfl) ?_
      refine lv_lload hx hb dX0_read_68 (lv_at hl 0 rfl) ?_
      refine lv_ldc2 (v := 67108863) hx hb hown (hts (.constantLong RX0 57 (67108863)) (by decide +kernel)) dX0_read_70 ?_
      refine lv_land hx hb dX0_read_73 ?_
      refine lv_topl (fun v73 e73 => ?_)
      refine z_st hx hb hK hP hD hS ha i rfl (by omega) (by omega) dX0_read_74 (fun H locs hP hD hS => ?_)
      rw [up_uu, va_up_self] at hP hD
      refine lv_iinc (v := nI (i + 1)) (lv' := [(2, .int (nI (i + 1))), (5, .long v30), (4, .int (nI (i * 26 % 64))), (3, .int (nI (i * 26 / 64))), (0, .ref a), (1, .ref w)]) hx hb dX0_read_75 hl (k := 3) rfl (by show nI _ + nI 1 = _; exact nI_add _ _) (by decide) rfl (fun ls hl => ?_)
      refine lv_goto (tgt := 2) hx hb dX0_read_78 (by decide) ?_
      exact ih _ _ _ ⟨_, rd_s (y := v73) hI (by rw [e73]; rw [rl_a (Or.inl c), ← e27]; exact rd_a (v := v30) (by omega) e30), ⟨hP, hD, hS⟩, lv_sub hl [0, 4, 5] rfl⟩
    · have c : 64 < i * 26 % 64 + 26 := Nat.lt_of_not_le fun h => c40 ((nI_leI (by omega) (by omega)).mpr h)
      refine lv_iload_n hx hb dX0_read_43 rfl (lv_at hl 2 rfl) ?_
      refine lv_iconst (v := nI 1) hx hb dX0_read_44 (by decide) ?_
      refine lv_iadd hx hb dX0_read_45 ?_
      refine zi (nI_add _ _) ?_
      refine lv_iconst (v := nI 4) hx hb dX0_read_46 (by decide) ?_
      refine lv_icmp_ge (tgt := 66) hx hb dX0_read_47 (by decide) (fun c47 => ?_) (fun c47 => ?_)
      · have c2 := (nI_leI (by omega) (by omega)).mp c47
        refine lv_aload_n hx hb dX0_read_66 rfl (lv_at hl 4 rfl) ?_
        refine lv_iload_n hx hb dX0_read_67 rfl (lv_at hl 3 rfl) ?_
        refine lv_lload hx hb dX0_read_68 (lv_at hl 0 rfl) ?_
        refine lv_ldc2 (v := 67108863) hx hb hown (hts (.constantLong RX0 57 (67108863)) (by decide +kernel)) dX0_read_70 ?_
        refine lv_land hx hb dX0_read_73 ?_
        refine lv_topl (fun v73 e73 => ?_)
        refine z_st hx hb hK hP hD hS ha i rfl (by omega) (by omega) dX0_read_74 (fun H locs hP hD hS => ?_)
        rw [up_uu, va_up_self] at hP hD
        refine lv_iinc (v := nI (i + 1)) (lv' := [(2, .int (nI (i + 1))), (5, .long v30), (4, .int (nI (i * 26 % 64))), (3, .int (nI (i * 26 / 64))), (0, .ref a), (1, .ref w)]) hx hb dX0_read_75 hl (k := 3) rfl (by show nI _ + nI 1 = _; exact nI_add _ _) (by decide) rfl (fun ls hl => ?_)
        refine lv_goto (tgt := 2) hx hb dX0_read_78 (by decide) ?_
        exact ih _ _ _ ⟨_, rd_s (y := v73) hI (by rw [e73]; rw [rl_a (Or.inr c2), ← e27]; exact rd_a (v := v30) (by omega) e30), ⟨hP, hD, hS⟩, lv_sub hl [0, 4, 5] rfl⟩
      · have c2 : i * 26 / 64 + 1 < 4 := Nat.lt_of_not_le fun h => c47 ((nI_leI (by omega) (by omega)).mpr h)
        refine lv_lload hx hb dX0_read_50 (lv_at hl 0 rfl) ?_
        refine lv_aload_n hx hb dX0_read_52 rfl (lv_at hl 5 rfl) ?_
        refine lv_iload_n hx hb dX0_read_53 rfl (lv_at hl 2 rfl) ?_
        refine lv_iconst (v := nI 1) hx hb dX0_read_54 (by decide) ?_
        refine lv_iadd hx hb dX0_read_55 ?_
        refine zi (nI_add _ _) ?_
        refine z_ld hx hb hK hP hw ((i * 26 / 64) + 1) rfl (by omega) (by omega) dX0_read_56 ?_
        refine lv_topl (fun v56 e56 => ?_)
        refine lv_bipush (v := nI 64) hx hb dX0_read_57 (by decide) ?_
        refine lv_iload hx hb dX0_read_59 (lv_at hl 1 rfl) ?_
        refine lv_isub hx hb dX0_read_61 ?_
        refine zi (pk_sub (by omega)) ?_
        refine lv_lshl hx hb dX0_read_62 rfl ?_
        refine lv_topl (fun v62 e62 => ?_)
        refine lv_lor hx hb dX0_read_63 ?_
        refine lv_topl (fun v63 e63 => ?_)
        refine lv_lstore (lv' := [(5, .long v63), (4, .int (nI (i * 26 % 64))), (3, .int (nI (i * 26 / 64))), (2, .int (nI i)), (0, .ref a), (1, .ref w)]) hx hb dX0_read_64 hl (by decide) rfl (fun ls hl => ?_)
        rw [va_up_ne _ _ nw] at e56
        refine lv_aload_n hx hb dX0_read_66 rfl (lv_at hl 4 rfl) ?_
        refine lv_iload_n hx hb dX0_read_67 rfl (lv_at hl 3 rfl) ?_
        refine lv_lload hx hb dX0_read_68 (lv_at hl 0 rfl) ?_
        refine lv_ldc2 (v := 67108863) hx hb hown (hts (.constantLong RX0 57 (67108863)) (by decide +kernel)) dX0_read_70 ?_
        refine lv_land hx hb dX0_read_73 ?_
        refine lv_topl (fun v73 e73 => ?_)
        refine z_st hx hb hK hP hD hS ha i rfl (by omega) (by omega) dX0_read_74 (fun H locs hP hD hS => ?_)
        rw [up_uu, va_up_self] at hP hD
        refine lv_iinc (v := nI (i + 1)) (lv' := [(2, .int (nI (i + 1))), (5, .long v63), (4, .int (nI (i * 26 % 64))), (3, .int (nI (i * 26 / 64))), (0, .ref a), (1, .ref w)]) hx hb dX0_read_75 hl (k := 3) rfl (by show nI _ + nI 1 = _; exact nI_add _ _) (by decide) rfl (fun ls hl => ?_)
        refine lv_goto (tgt := 2) hx hb dX0_read_78 (by decide) ?_
        exact ih _ _ _ ⟨_, rd_s (y := v73) hI (by rw [e73]; rw [rl_b c c2, ← e27, ← e56]; exact rd_b (v := v30) (w := v62) (z := v63) (by omega) (by omega) e30 e62 e63), ⟨hP, hD, hS⟩, lv_sub hl [0, 4, 5] rfl⟩
  · rintro H locs ls ⟨g, hI, ⟨hP, hD, hS⟩, hl⟩
    refine lv_iload_n hx hb dX0_read_2 rfl (lv_at hl 0 rfl) ?_
    refine lv_bipush (v := nI 10) hx hb dX0_read_3 (by decide) ?_
    refine lv_icmp_ge (tgt := 81) hx hb dX0_read_5 (by decide) (fun c5 => ?_) (fun c5 => absurd ((nI_leI (by omega) (by omega)).mpr (by omega)) c5)
    exact z_vret hx hb hr hlocks dX0_read_81 hK hP hD hS (⟨g, (read_fold hq hI).1, (read_fold hq hI).2, rfl⟩)
set_option maxRecDepth 100000 in
set_option maxHeartbeats 4000000 in
theorem c_join (l : Launch) (D : va_G) (cA : ClassId) (tys : List (ClassId × FieldType)) (X : va_W) (L : List Nat) (n : Nat → Nat) (q : Nat → Nat → Int64) (w a : Nat) (hw : w ∈ L ∧ n w = 4) (ha : a ∈ L ∧ n a = 10) (hq : ∀ j, j < 10 → 0 ≤ fI (q a) j ∧ fI (q a) j < 67108864) (hq9 : fI (q a) 9 < 2097152) : zCv l D ((cA, .long) :: tys) yX0_join wsX0_join ({ frames := 1, cells := 0, slots := 0, locals := 24 }) [.ref w, .ref a] (X ++ PL cA L n q) (fun u => ∃ g, (wv g : Int) = fv (q a) ∧ u = X ++ PL cA L n (va_up q w g)) := by
  refine z_met (fun A => va_Qv (fun u => ∃ g, (wv g : Int) = fv (q a) ∧ u = X ++ PL cA L n (va_up q w g)) (zB D ((cA, .long) :: tys) A) A) (by decide) rfl (Nat.le_of_ble_eq_true rfl) ?_
  intro p e s m below meth c hx hb hr hml hts hown hlocks hname A hA hP hK hD hS ls hl
  have hown : s.vm.findClass RX0 = some m.cls := hown
  have hl : lv_has ls 5 [(0, .ref w), (1, .ref a)] := hl
  have na : a ≠ w := fun e => by rw [e, hw.2] at ha; omega
  have hrr : ∀ j, j < 10 → uw (q a j) < 67108864 := fun j hj => by have h1 := hq j hj; have h2 := uw_nn (x := q a j) h1.1; rw [fI_at] at h1; omega
  have hr9 : uw (q a 9) < 2097152 := by have h1 := hq 9 (by omega); have h2 := uw_nn (x := q a 9) h1.1; rw [fI_at] at hq9; omega
  generalize hrd : (fun j => uw (q a j)) = r at *
  have hra : ∀ j, r j = uw (q a j) := fun j => by rw [← hrd]
  have hrr : ∀ j, j < 10 → r j < 67108864 := fun j hj => by rw [hra]; exact hrr j hj
  refine lv_aload_n hx hb dX0_join_0 rfl (lv_at hl 0 rfl) ?_
  refine lv_lconst (v := 0) hx hb dX0_join_1 (by decide) ?_
  refine z_callv (va_runS (As := [.ref w, .long 0]) (rest := []) ⟨hx, hb, hml, hown, hts⟩ (c_fill l D cA tys X L n q w 0 4 hw (by decide) _) (va_cwS 2 hts gX0_join_J7_fill_d0a16 rfl rfl rfl (by decide +kernel) ⟨Nat.le_of_ble_eq_true rfl, Nat.le_of_ble_eq_true rfl⟩) (z_preS _ hK hP hD) rfl rfl hl.1 rfl (lv_room (Nat.le_of_ble_eq_true rfl)) dX0_join_2 ⟨Nat.le_of_ble_eq_true rfl, Nat.le_of_ble_eq_true rfl⟩) hD hS hA (fun u H locs hu hP hD hS => ?_)
  subst hu
  refine lv_iconst (v := nI 0) hx hb dX0_join_5 (by decide) ?_
  refine lv_istore_n (lv' := [(2, .int (nI 0)), (0, .ref w), (1, .ref a)]) hx hb dX0_join_6 rfl hl (by decide) rfl (fun ls hl => ?_)
  refine z_loop (fun i H locs ls => ∃ g : Nat → Int64, (∀ k, k < 4 → g k = lN (jw r k i)) ∧ zH D A s.heap (X ++ PL cA L n (va_up q w g)) H locs ∧ lv_has ls 5 [(2, .int (nI i)), (0, .ref w), (1, .ref a)]) 10 ?_ ?_ ?_
  · exact ⟨_, fun k hk => if_pos hk, ⟨hP, hD, hS⟩, hl⟩
  · rintro i H locs ls hi ⟨g, hI, ⟨hP, hD, hS⟩, hl⟩ ih
    refine lv_iload_n hx hb dX0_join_7 rfl (lv_at hl 0 rfl) ?_
    refine lv_bipush (v := nI 10) hx hb dX0_join_8 (by decide) ?_
    refine lv_icmp_ge (tgt := 82) hx hb dX0_join_10 (by decide) (fun c10 => absurd ((nI_leI (by omega) (by omega)).mp c10) (by omega)) (fun c10 => ?_)
    refine lv_iload_n hx hb dX0_join_13 rfl (lv_at hl 0 rfl) ?_
    refine lv_bipush (v := nI 26) hx hb dX0_join_14 (by decide) ?_
    refine lv_imul hx hb dX0_join_16 ?_
    refine zi (pk_mul _ _) ?_
    refine lv_bipush (v := nI 6) hx hb dX0_join_17 (by decide) ?_
    refine lv_ishr hx hb dX0_join_19 ?_
    refine zi (y := nI (i * 26 / 64)) (pk_shrN (by omega) _ 6 (by decide)) ?_
    refine lv_istore_n (lv' := [(3, .int (nI (i * 26 / 64))), (2, .int (nI i)), (0, .ref w), (1, .ref a)]) hx hb dX0_join_20 rfl hl (by decide) rfl (fun ls hl => ?_)
    refine lv_iload_n hx hb dX0_join_21 rfl (lv_at hl 1 rfl) ?_
    refine lv_bipush (v := nI 26) hx hb dX0_join_22 (by decide) ?_
    refine lv_imul hx hb dX0_join_24 ?_
    refine zi (pk_mul _ _) ?_
    refine lv_bipush (v := nI 63) hx hb dX0_join_25 (by decide) ?_
    refine lv_iand hx hb dX0_join_27 ?_
    refine zi (y := nI (i * 26 % 64)) (pk_andN (by omega) 6 (by decide)) ?_
    refine lv_istore (lv' := [(4, .int (nI (i * 26 % 64))), (3, .int (nI (i * 26 / 64))), (2, .int (nI i)), (0, .ref w), (1, .ref a)]) hx hb dX0_join_28 hl (by decide) rfl (fun ls hl => ?_)
    refine lv_aload_n hx hb dX0_join_30 rfl (lv_at hl 3 rfl) ?_
    refine lv_iload_n hx hb dX0_join_31 rfl (lv_at hl 1 rfl) ?_
    refine lv_dup2_11 hx hb dX0_join_32 rfl rfl ?_
    refine z_ld hx hb hK hP hw (i * 26 / 64) rfl (by omega) (by omega) dX0_join_33 ?_
    refine lv_topl (fun v33 e33 => ?_)
    refine lv_aload_n hx hb dX0_join_34 rfl (lv_at hl 4 rfl) ?_
    refine lv_iload_n hx hb dX0_join_35 rfl (lv_at hl 2 rfl) ?_
    refine z_ld hx hb hK hP ha i rfl (by omega) (by omega) dX0_join_36 ?_
    refine lv_topl (fun v36 e36 => ?_)
    refine lv_iload hx hb dX0_join_37 (lv_at hl 0 rfl) ?_
    refine lv_lshl hx hb dX0_join_39 rfl ?_
    refine lv_topl (fun v39 e39 => ?_)
    refine lv_lor hx hb dX0_join_40 ?_
    refine lv_topl (fun v40 e40 => ?_)
    refine z_st hx hb hK hP hD hS hw (i * 26 / 64) rfl (by omega) (by omega) dX0_join_41 (fun H locs hP hD hS => ?_)
    rw [up_uu, va_up_self] at hP hD
    rw [va_up_self, hI _ (by omega)] at e33
    rw [va_up_ne _ _ na] at e36
    have k1 := jn_a (y := v36) (z := v39) hrr hi e33 (by rw [e36, hra]) e39 e40
    refine lv_iload hx hb dX0_join_42 (lv_at hl 0 rfl) ?_
    refine lv_bipush (v := nI 26) hx hb dX0_join_44 (by decide) ?_
    refine lv_iadd hx hb dX0_join_46 ?_
    refine zi (nI_add _ _) ?_
    refine lv_bipush (v := nI 64) hx hb dX0_join_47 (by decide) ?_
    refine lv_icmp_le (tgt := 76) hx hb dX0_join_49 (by decide) (fun c49 => ?_) (fun c49 => ?_)
    · have c := (nI_leI (by omega) (by omega)).mp c49
      refine lv_iinc (v := nI (i + 1)) (lv' := [(2, .int (nI (i + 1))), (4, .int (nI (i * 26 % 64))), (3, .int (nI (i * 26 / 64))), (0, .ref w), (1, .ref a)]) hx hb dX0_join_76 hl (k := 2) rfl (by show nI _ + nI 1 = _; exact nI_add _ _) (by decide) rfl (fun ls hl => ?_)
      refine lv_goto (tgt := 7) hx hb dX0_join_79 (by decide) ?_
      exact ih _ _ _ ⟨_, jn_s1 hI k1 (Or.inl (by omega)), ⟨hP, hD, hS⟩, lv_sub hl [0, 3, 4] rfl⟩
    · have c : 64 < i * 26 % 64 + 26 := Nat.lt_of_not_le fun h => c49 ((nI_leI (by omega) (by omega)).mpr h)
      refine lv_iload_n hx hb dX0_join_52 rfl (lv_at hl 1 rfl) ?_
      refine lv_iconst (v := nI 1) hx hb dX0_join_53 (by decide) ?_
      refine lv_iadd hx hb dX0_join_54 ?_
      refine zi (nI_add _ _) ?_
      refine lv_iconst (v := nI 4) hx hb dX0_join_55 (by decide) ?_
      refine lv_icmp_ge (tgt := 76) hx hb dX0_join_56 (by decide) (fun c56 => ?_) (fun c56 => ?_)
      · have c2 := (nI_leI (by omega) (by omega)).mp c56
        refine lv_iinc (v := nI (i + 1)) (lv' := [(2, .int (nI (i + 1))), (4, .int (nI (i * 26 % 64))), (3, .int (nI (i * 26 / 64))), (0, .ref w), (1, .ref a)]) hx hb dX0_join_76 hl (k := 2) rfl (by show nI _ + nI 1 = _; exact nI_add _ _) (by decide) rfl (fun ls hl => ?_)
        refine lv_goto (tgt := 7) hx hb dX0_join_79 (by decide) ?_
        exact ih _ _ _ ⟨_, jn_s1 hI k1 (Or.inr c2), ⟨hP, hD, hS⟩, lv_sub hl [0, 3, 4] rfl⟩
      · have c2 : i * 26 / 64 + 1 < 4 := Nat.lt_of_not_le fun h => c56 ((nI_leI (by omega) (by omega)).mpr h)
        refine lv_aload_n hx hb dX0_join_59 rfl (lv_at hl 3 rfl) ?_
        refine lv_iload_n hx hb dX0_join_60 rfl (lv_at hl 1 rfl) ?_
        refine lv_iconst (v := nI 1) hx hb dX0_join_61 (by decide) ?_
        refine lv_iadd hx hb dX0_join_62 ?_
        refine zi (nI_add _ _) ?_
        refine lv_dup2_11 hx hb dX0_join_63 rfl rfl ?_
        refine z_ld hx hb hK hP hw ((i * 26 / 64) + 1) rfl (by omega) (by omega) dX0_join_64 ?_
        refine lv_topl (fun v64 e64 => ?_)
        refine lv_aload_n hx hb dX0_join_65 rfl (lv_at hl 4 rfl) ?_
        refine lv_iload_n hx hb dX0_join_66 rfl (lv_at hl 2 rfl) ?_
        refine z_ld hx hb hK hP ha i rfl (by omega) (by omega) dX0_join_67 ?_
        refine lv_topl (fun v67 e67 => ?_)
        refine lv_bipush (v := nI 64) hx hb dX0_join_68 (by decide) ?_
        refine lv_iload hx hb dX0_join_70 (lv_at hl 0 rfl) ?_
        refine lv_isub hx hb dX0_join_72 ?_
        refine zi (pk_sub (by omega)) ?_
        refine lv_lushr hx hb dX0_join_73 rfl ?_
        refine lv_topl (fun v73 e73 => ?_)
        refine lv_lor hx hb dX0_join_74 ?_
        refine lv_topl (fun v74 e74 => ?_)
        refine z_st hx hb hK hP hD hS hw ((i * 26 / 64) + 1) rfl (by omega) (by omega) dX0_join_75 (fun H locs hP hD hS => ?_)
        rw [up_uu, va_up_self] at hP hD
        rw [va_up_self] at e64
        rw [va_up_ne _ _ na] at e67
        have e64 : v64 = lN (jw r (i * 26 / 64 + 1) i) := by rw [e64]; unfold vp_updL; rw [if_neg (by omega), hI _ c2]
        have k2 := jn_b (y := v67) (z := v73) hrr hi c e64 (by rw [e67, hra]) e73 e74
        refine lv_iinc (v := nI (i + 1)) (lv' := [(2, .int (nI (i + 1))), (4, .int (nI (i * 26 % 64))), (3, .int (nI (i * 26 / 64))), (0, .ref w), (1, .ref a)]) hx hb dX0_join_76 hl (k := 2) rfl (by show nI _ + nI 1 = _; exact nI_add _ _) (by decide) rfl (fun ls hl => ?_)
        refine lv_goto (tgt := 7) hx hb dX0_join_79 (by decide) ?_
        exact ih _ _ _ ⟨_, jn_s2 hI k1 k2, ⟨hP, hD, hS⟩, lv_sub hl [0, 3, 4] rfl⟩
  · rintro H locs ls ⟨g, hI, ⟨hP, hD, hS⟩, hl⟩
    refine lv_iload_n hx hb dX0_join_7 rfl (lv_at hl 0 rfl) ?_
    refine lv_bipush (v := nI 10) hx hb dX0_join_8 (by decide) ?_
    refine lv_icmp_ge (tgt := 82) hx hb dX0_join_10 (by decide) (fun c10 => ?_) (fun c10 => absurd ((nI_leI (by omega) (by omega)).mpr (by omega)) c10)
    have hj := join_fold hrr (by rw [hra]; exact hr9) hI
    rw [sv_congr (g := fI (q a)) (fun j hj => by rw [hra, fI_at]; exact uw_nn (hq j hj).1)] at hj
    exact z_vret hx hb hr hlocks dX0_join_82 hK hP hD hS (⟨g, hj, rfl⟩)
