set_option maxRecDepth 100000 in
set_option maxHeartbeats 4000000 in
/-- Arrays.fill(a, v) -/
theorem c_fill (l : Launch) (D : va_G) (cA : ClassId) (tys : List (ClassId × FieldType)) (X : va_W) (L : List Nat) (n : Nat → Nat) (q : Nat → Nat → Int64) (a : Nat) (v : Int64) (N : Nat) (ha : a ∈ L ∧ n a = N) (hN : N < 2147483648) : zCv l D ((cA, .long) :: tys) yJ7_fill_d0a16 wsJ7_fill_d0a16 ({ frames := 0, cells := 0, slots := 0, locals := 0 }) [.ref a, .long v] (X ++ PL cA L n q) (fun u => u = X ++ PL cA L n (mpq q a (fun _ => v) N)) := by
  refine z_met (fun A => va_Qv (fun u => u = X ++ PL cA L n (mpq q a (fun _ => v) N)) (zB D ((cA, .long) :: tys) A) A) (by decide) rfl (Nat.le_of_ble_eq_true rfl) ?_
  intro p e s m below meth c hx hb hr hml hts hown hlocks hname A hA hP hK hD hS ls hl
  have hown : s.vm.findClass RJ7 = some m.cls := hown
  have hl : lv_has ls 5 [(0, .ref a), (1, .long v)] := hl
  refine lv_iconst (v := nI 0) hx hb dJ7_fill_d0a16_0 (by decide) ?_
  refine lv_istore_n (lv' := [(3, .int (nI 0)), (0, .ref a), (1, .long v)]) hx hb dJ7_fill_d0a16_1 rfl hl (by decide) rfl (fun ls hl => ?_)
  refine lv_aload_n hx hb dJ7_fill_d0a16_2 rfl (lv_at hl 1 rfl) ?_
  refine z_len hx hb hK hP ha dJ7_fill_d0a16_3 ?_
  refine lv_istore (lv' := [(4, .int (nI N)), (3, .int (nI 0)), (0, .ref a), (1, .long v)]) hx hb dJ7_fill_d0a16_4 hl (by decide) rfl (fun ls hl => ?_)
  refine z_loop (fun i H locs ls => zH D A s.heap (X ++ PL cA L n (mpq q a (fun _ => v) i)) H locs ∧ lv_has ls 5 [(3, .int (nI i)), (4, .int (nI N)), (0, .ref a), (1, .long v)]) N ?_ ?_ ?_
  · exact ⟨by rw [mpq_0]; exact ⟨hP, hD, hS⟩, lv_sub hl [1, 0, 2, 3] rfl⟩
  · rintro i H locs ls hi ⟨⟨hP, hD, hS⟩, hl⟩ ih
    refine lv_iload_n hx hb dJ7_fill_d0a16_6 rfl (lv_at hl 0 rfl) ?_
    refine lv_iload hx hb dJ7_fill_d0a16_7 (lv_at hl 1 rfl) ?_
    refine lv_icmp_ge (tgt := 22) hx hb dJ7_fill_d0a16_9 (by decide) (fun c9 => absurd ((nI_leI (by omega) (by omega)).mp c9) (by omega)) (fun c9 => ?_)
    refine lv_aload_n hx hb dJ7_fill_d0a16_12 rfl (lv_at hl 2 rfl) ?_
    refine lv_iload_n hx hb dJ7_fill_d0a16_13 rfl (lv_at hl 0 rfl) ?_
    refine lv_lload_n hx hb dJ7_fill_d0a16_14 rfl (lv_at hl 3 rfl) ?_
    refine z_st hx hb hK hP hD hS ha i rfl hi (by omega) dJ7_fill_d0a16_15 (fun H locs hP hD hS => ?_)
    rw [mpq_st (F := fun _ => v) rfl] at hP hD
    refine lv_iinc (v := nI (i + 1)) (lv' := [(3, .int (nI (i + 1))), (4, .int (nI N)), (0, .ref a), (1, .long v)]) hx hb dJ7_fill_d0a16_16 hl (k := 0) rfl (by show nI _ + nI 1 = _; exact nI_add _ _) (by decide) rfl (fun ls hl => ?_)
    refine lv_goto (tgt := 6) hx hb dJ7_fill_d0a16_19 (by decide) ?_
    exact ih _ _ _ ⟨⟨hP, hD, hS⟩, lv_sub hl [0, 1, 2, 3] rfl⟩
  · rintro H locs ls ⟨⟨hP, hD, hS⟩, hl⟩
    refine lv_iload_n hx hb dJ7_fill_d0a16_6 rfl (lv_at hl 0 rfl) ?_
    refine lv_iload hx hb dJ7_fill_d0a16_7 (lv_at hl 1 rfl) ?_
    refine lv_icmp_ge (tgt := 22) hx hb dJ7_fill_d0a16_9 (by decide) (fun c9 => ?_) (fun c9 => absurd (Int32.le_refl _) c9)
    exact z_vret hx hb hr hlocks dJ7_fill_d0a16_22 hK hP hD hS (rfl)
set_option maxRecDepth 100000 in
set_option maxHeartbeats 4000000 in
theorem c_setSmall (l : Launch) (D : va_G) (cA : ClassId) (tys : List (ClassId × FieldType)) (X : va_W) (L : List Nat) (n : Nat → Nat) (q : Nat → Nat → Int64) (a : Nat) (v : Int64) (ha : a ∈ L ∧ n a = 10) : zCv l D ((cA, .long) :: tys) yX0_setSmall wsX0_setSmall ({ frames := 1, cells := 0, slots := 0, locals := 24 }) [.ref a, .long v] (X ++ PL cA L n q) (fun u => u = X ++ PL cA L n (va_up q a (fun j => if j = 0 then v else if j < 10 then 0 else q a j))) := by
  refine z_met (fun A => va_Qv (fun u => u = X ++ PL cA L n (va_up q a (fun j => if j = 0 then v else if j < 10 then 0 else q a j))) (zB D ((cA, .long) :: tys) A) A) (by decide) rfl (Nat.le_of_ble_eq_true rfl) ?_
  intro p e s m below meth c hx hb hr hml hts hown hlocks hname A hA hP hK hD hS ls hl
  have hown : s.vm.findClass RX0 = some m.cls := hown
  have hl : lv_has ls 3 [(0, .ref a), (1, .long v)] := hl
  refine lv_aload_n hx hb dX0_setSmall_0 rfl (lv_at hl 0 rfl) ?_
  refine lv_lconst (v := 0) hx hb dX0_setSmall_1 (by decide) ?_
  refine z_callv (va_runS (As := [.ref a, .long 0]) (rest := []) ⟨hx, hb, hml, hown, hts⟩ (c_fill l D cA tys X L n q a 0 10 ha (by decide) _) (va_cwS 2 hts gX0_setSmall_J7_fill_d0a16 rfl rfl rfl (by decide +kernel) ⟨Nat.le_of_ble_eq_true rfl, Nat.le_of_ble_eq_true rfl⟩) (z_preS _ hK hP hD) rfl rfl hl.1 rfl (lv_room (Nat.le_of_ble_eq_true rfl)) dX0_setSmall_2 ⟨Nat.le_of_ble_eq_true rfl, Nat.le_of_ble_eq_true rfl⟩) hD hS hA (fun u H locs hu hP hD hS => ?_)
  subst hu
  refine lv_aload_n hx hb dX0_setSmall_5 rfl (lv_at hl 0 rfl) ?_
  refine lv_iconst (v := nI 0) hx hb dX0_setSmall_6 (by decide) ?_
  refine lv_lload_n hx hb dX0_setSmall_7 rfl (lv_at hl 1 rfl) ?_
  refine z_st hx hb hK hP hD hS ha 0 rfl (by omega) (by omega) dX0_setSmall_8 (fun H locs hP hD hS => ?_)
  exact z_vret hx hb hr hlocks dX0_setSmall_9 hK hP hD hS (by
      congr 1
      congr 1
      funext b j
      by_cases h : b = a
      · subst h
        rw [va_up_self, va_up_self]
        unfold vp_updL
        rw [mpq_to]
      · rw [va_up_ne _ _ h, va_up_ne _ _ h, mpq_ne h])
set_option maxRecDepth 100000 in
set_option maxHeartbeats 4000000 in
theorem c_add (l : Launch) (D : va_G) (cA : ClassId) (tys : List (ClassId × FieldType)) (X : va_W) (L : List Nat) (n : Nat → Nat) (q : Nat → Nat → Int64) (to f h : Nat) (hto : to ∈ L ∧ n to = 10) (hf : f ∈ L ∧ n f = 10) (hh : h ∈ L ∧ n h = 10) : zCv l D ((cA, .long) :: tys) yX0_add wsX0_add ({ frames := 0, cells := 0, slots := 0, locals := 0 }) [.ref to, .ref f, .ref h] (X ++ PL cA L n q) (fun u => u = X ++ PL cA L n (mpq q to (fun j => q f j + q h j) 10)) := by
  refine z_met (fun A => va_Qv (fun u => u = X ++ PL cA L n (mpq q to (fun j => q f j + q h j) 10)) (zB D ((cA, .long) :: tys) A) A) (by decide) rfl (Nat.le_of_ble_eq_true rfl) ?_
  intro p e s m below meth c hx hb hr hml hts hown hlocks hname A hA hP hK hD hS ls hl
  have hown : s.vm.findClass RX0 = some m.cls := hown
  have hl : lv_has ls 4 [(0, .ref to), (1, .ref f), (2, .ref h)] := hl
  refine lv_iconst (v := nI 0) hx hb dX0_add_0 (by decide) ?_
  refine lv_istore_n (lv' := [(3, .int (nI 0)), (0, .ref to), (1, .ref f), (2, .ref h)]) hx hb dX0_add_1 rfl hl (by decide) rfl (fun ls hl => ?_)
  refine z_loop (fun i H locs ls => zH D A s.heap (X ++ PL cA L n (mpq q to (fun j => q f j + q h j) i)) H locs ∧ lv_has ls 4 [(3, .int (nI i)), (0, .ref to), (1, .ref f), (2, .ref h)]) 10 ?_ ?_ ?_
  · exact ⟨by rw [mpq_0]; exact ⟨hP, hD, hS⟩, hl⟩
  · rintro i H locs ls hi ⟨⟨hP, hD, hS⟩, hl⟩ ih
    refine lv_iload_n hx hb dX0_add_2 rfl (lv_at hl 0 rfl) ?_
    refine lv_bipush (v := nI 10) hx hb dX0_add_3 (by decide) ?_
    refine lv_icmp_ge (tgt := 24) hx hb dX0_add_5 (by decide) (fun c5 => absurd ((nI_leI (by omega) (by omega)).mp c5) (by omega)) (fun c5 => ?_)
    refine lv_aload_n hx hb dX0_add_8 rfl (lv_at hl 1 rfl) ?_
    refine lv_iload_n hx hb dX0_add_9 rfl (lv_at hl 0 rfl) ?_
    refine lv_aload_n hx hb dX0_add_10 rfl (lv_at hl 2 rfl) ?_
    refine lv_iload_n hx hb dX0_add_11 rfl (lv_at hl 0 rfl) ?_
    refine z_ld hx hb hK hP hf i rfl (by omega) (by omega) dX0_add_12 ?_
    refine lv_topl (fun v12 e12 => ?_)
    refine lv_aload_n hx hb dX0_add_13 rfl (lv_at hl 3 rfl) ?_
    refine lv_iload_n hx hb dX0_add_14 rfl (lv_at hl 0 rfl) ?_
    refine z_ld hx hb hK hP hh i rfl (by omega) (by omega) dX0_add_15 ?_
    refine lv_topl (fun v15 e15 => ?_)
    refine lv_ladd hx hb dX0_add_16 ?_
    refine lv_topl (fun v16 e16 => ?_)
    refine z_st hx hb hK hP hD hS hto i rfl (by omega) (by omega) dX0_add_17 (fun H locs hP hD hS => ?_)
    rw [mpq_st (F := (fun j => q f j + q h j)) (by rw [e16, e12, e15, mpq_rd, mpq_rd])] at hP hD
    refine lv_iinc (v := nI (i + 1)) (lv' := [(3, .int (nI (i + 1))), (0, .ref to), (1, .ref f), (2, .ref h)]) hx hb dX0_add_18 hl (k := 0) rfl (by show nI _ + nI 1 = _; exact nI_add _ _) (by decide) rfl (fun ls hl => ?_)
    refine lv_goto (tgt := 2) hx hb dX0_add_21 (by decide) ?_
    exact ih _ _ _ ⟨⟨hP, hD, hS⟩, hl⟩
  · rintro H locs ls ⟨⟨hP, hD, hS⟩, hl⟩
    refine lv_iload_n hx hb dX0_add_2 rfl (lv_at hl 0 rfl) ?_
    refine lv_bipush (v := nI 10) hx hb dX0_add_3 (by decide) ?_
    refine lv_icmp_ge (tgt := 24) hx hb dX0_add_5 (by decide) (fun c5 => ?_) (fun c5 => absurd ((nI_leI (by omega) (by omega)).mpr (by omega)) c5)
    exact z_vret hx hb hr hlocks dX0_add_24 hK hP hD hS (rfl)
set_option maxRecDepth 100000 in
set_option maxHeartbeats 4000000 in
theorem c_subtract (l : Launch) (D : va_G) (cA : ClassId) (tys : List (ClassId × FieldType)) (X : va_W) (L : List Nat) (n : Nat → Nat) (q : Nat → Nat → Int64) (to f h : Nat) (hto : to ∈ L ∧ n to = 10) (hf : f ∈ L ∧ n f = 10) (hh : h ∈ L ∧ n h = 10) : zCv l D ((cA, .long) :: tys) yX0_subtract wsX0_subtract ({ frames := 0, cells := 0, slots := 0, locals := 0 }) [.ref to, .ref f, .ref h] (X ++ PL cA L n q) (fun u => u = X ++ PL cA L n (mpq q to (fun j => q f j + (if j = 0 then 134216512 else 134217726) - q h j) 10)) := by
  refine z_met (fun A => va_Qv (fun u => u = X ++ PL cA L n (mpq q to (fun j => q f j + (if j = 0 then 134216512 else 134217726) - q h j) 10)) (zB D ((cA, .long) :: tys) A) A) (by decide) rfl (Nat.le_of_ble_eq_true rfl) ?_
  intro p e s m below meth c hx hb hr hml hts hown hlocks hname A hA hP hK hD hS ls hl
  have hown : s.vm.findClass RX0 = some m.cls := hown
  have hl : lv_has ls 4 [(0, .ref to), (1, .ref f), (2, .ref h)] := hl
  refine lv_aload_n hx hb dX0_subtract_0 rfl (lv_at hl 0 rfl) ?_
  refine lv_iconst (v := nI 0) hx hb dX0_subtract_1 (by decide) ?_
  refine lv_aload_n hx hb dX0_subtract_2 rfl (lv_at hl 1 rfl) ?_
  refine lv_iconst (v := nI 0) hx hb dX0_subtract_3 (by decide) ?_
  refine z_ld hx hb hK hP hf 0 rfl (by omega) (by omega) dX0_subtract_4 ?_
  refine lv_topl (fun v4 e4 => ?_)
  refine lv_ldc2 (v := 134216512) hx hb hown (hts (.constantLong RX0 28 (134216512)) (by decide +kernel)) dX0_subtract_5 ?_
  refine lv_ladd hx hb dX0_subtract_8 ?_
  refine lv_topl (fun v8 e8 => ?_)
  refine lv_aload_n hx hb dX0_subtract_9 rfl (lv_at hl 2 rfl) ?_
  refine lv_iconst (v := nI 0) hx hb dX0_subtract_10 (by decide) ?_
  refine z_ld hx hb hK hP hh 0 rfl (by omega) (by omega) dX0_subtract_11 ?_
  refine lv_topl (fun v11 e11 => ?_)
  refine lv_lsub hx hb dX0_subtract_12 ?_
  refine lv_topl (fun v12 e12 => ?_)
  refine z_st hx hb hK hP hD hS hto 0 rfl (by omega) (by omega) dX0_subtract_13 (fun H locs hP hD hS => ?_)
  have e0 : va_up q to (vp_updL (q to) 0 v12) = mpq q to (fun j => q f j + (if j = 0 then 134216512 else 134217726) - q h j) 1 := by
    have h1 := mpq_st (q := q) (to := to) (i := 0) (F := (fun j => q f j + (if j = 0 then 134216512 else 134217726) - q h j)) (x := v12) (by rw [e12, e8, e4, e11]; rfl)
    rw [mpq_0] at h1
    exact h1
  rw [e0] at hP hD
  refine lv_iconst (v := nI 1) hx hb dX0_subtract_14 (by decide) ?_
  refine lv_istore_n (lv' := [(3, .int (nI 1)), (0, .ref to), (1, .ref f), (2, .ref h)]) hx hb dX0_subtract_15 rfl hl (by decide) rfl (fun ls hl => ?_)
  refine z_loop (fun i H locs ls => zH D A s.heap (X ++ PL cA L n (mpq q to (fun j => q f j + (if j = 0 then 134216512 else 134217726) - q h j) (i + 1))) H locs ∧ lv_has ls 4 [(3, .int (nI (i + 1))), (0, .ref to), (1, .ref f), (2, .ref h)]) 9 ?_ ?_ ?_
  · exact ⟨⟨hP, hD, hS⟩, hl⟩
  · rintro i H locs ls hi ⟨⟨hP, hD, hS⟩, hl⟩ ih
    refine lv_iload_n hx hb dX0_subtract_16 rfl (lv_at hl 0 rfl) ?_
    refine lv_bipush (v := nI 10) hx hb dX0_subtract_17 (by decide) ?_
    refine lv_icmp_ge (tgt := 42) hx hb dX0_subtract_19 (by decide) (fun c19 => absurd ((nI_leI (by omega) (by omega)).mp c19) (by omega)) (fun c19 => ?_)
    refine lv_aload_n hx hb dX0_subtract_22 rfl (lv_at hl 1 rfl) ?_
    refine lv_iload_n hx hb dX0_subtract_23 rfl (lv_at hl 0 rfl) ?_
    refine lv_aload_n hx hb dX0_subtract_24 rfl (lv_at hl 2 rfl) ?_
    refine lv_iload_n hx hb dX0_subtract_25 rfl (lv_at hl 0 rfl) ?_
    refine z_ld hx hb hK hP hf (i + 1) rfl (by omega) (by omega) dX0_subtract_26 ?_
    refine lv_topl (fun v26 e26 => ?_)
    refine lv_ldc2 (v := 134217726) hx hb hown (hts (.constantLong RX0 30 (134217726)) (by decide +kernel)) dX0_subtract_27 ?_
    refine lv_ladd hx hb dX0_subtract_30 ?_
    refine lv_topl (fun v30 e30 => ?_)
    refine lv_aload_n hx hb dX0_subtract_31 rfl (lv_at hl 3 rfl) ?_
    refine lv_iload_n hx hb dX0_subtract_32 rfl (lv_at hl 0 rfl) ?_
    refine z_ld hx hb hK hP hh (i + 1) rfl (by omega) (by omega) dX0_subtract_33 ?_
    refine lv_topl (fun v33 e33 => ?_)
    refine lv_lsub hx hb dX0_subtract_34 ?_
    refine lv_topl (fun v34 e34 => ?_)
    refine z_st hx hb hK hP hD hS hto (i + 1) rfl (by omega) (by omega) dX0_subtract_35 (fun H locs hP hD hS => ?_)
    rw [mpq_st (F := (fun j => q f j + (if j = 0 then 134216512 else 134217726) - q h j)) (by rw [e34, e30, e26, e33, mpq_rd, mpq_rd]; rfl)] at hP hD
    refine lv_iinc (v := nI ((i + 1) + 1)) (lv' := [(3, .int (nI ((i + 1) + 1))), (0, .ref to), (1, .ref f), (2, .ref h)]) hx hb dX0_subtract_36 hl (k := 0) rfl (by show nI _ + nI 1 = _; exact nI_add _ _) (by decide) rfl (fun ls hl => ?_)
    refine lv_goto (tgt := 16) hx hb dX0_subtract_39 (by decide) ?_
    exact ih _ _ _ ⟨⟨hP, hD, hS⟩, hl⟩
  · rintro H locs ls ⟨⟨hP, hD, hS⟩, hl⟩
    refine lv_iload_n hx hb dX0_subtract_16 rfl (lv_at hl 0 rfl) ?_
    refine lv_bipush (v := nI 10) hx hb dX0_subtract_17 (by decide) ?_
    refine lv_icmp_ge (tgt := 42) hx hb dX0_subtract_19 (by decide) (fun c19 => ?_) (fun c19 => absurd ((nI_leI (by omega) (by omega)).mpr (by omega)) c19)
    exact z_vret hx hb hr hlocks dX0_subtract_42 hK hP hD hS (rfl)
