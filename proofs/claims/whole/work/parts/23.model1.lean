set_option maxRecDepth 100000 in
set_option maxHeartbeats 4000000 in
theorem c_ofP (l : Launch) (D : va_G) (tys : List (ClassId × FieldType)) (ws : va_W) (k : Nat) (hk : k < 16) : zCi l D tys yX3_ofP wsX3_ofP ({ frames := 0, cells := 0, slots := 0, locals := 0 }) [.int (nI k)] (ws) (fun r u => u = ws ∧ r.toInt = pD k) := by
  refine z_met (fun A => va_Qi (fun r u => u = ws ∧ r.toInt = pD k) (zB D tys A) A) (by decide) rfl (Nat.le_of_ble_eq_true rfl) ?_
  intro p e s m below meth c hx hb hr hml hts hown hlocks hname A hA hP hK hD hS ls hl
  have hown : s.vm.findClass RX3 = some m.cls := hown
  have hl : lv_has ls 1 [(0, .int (nI k))] := hl
  refine lv_iload_n hx hb dX3_ofP_0 rfl (lv_at hl 0 rfl) ?_
  refine lv_if_ne (tgt := 9) hx hb dX3_ofP_1 (by decide) (fun c1 => ?_) (fun c1 => ?_)
  · have hc : ¬ k = 0 := fun e => c1 (by rw [e]; rfl)
    refine lv_iload_n hx hb dX3_ofP_9 rfl (lv_at hl 0 rfl) ?_
    refine lv_bipush (v := nI 15) hx hb dX3_ofP_10 (by decide) ?_
    refine lv_icmp_ne (tgt := 21) hx hb dX3_ofP_12 (by decide) (fun c12 => ?_) (fun c12 => ?_)
    · have hc2 : ¬ k = 15 := fun e => c12 (by rw [e])
      refine lv_ldc (v := 65535) hx hb hown (hts (.constant RX3 28 (65535)) (by decide +kernel)) dX3_ofP_21 ?_
      exact z_iret hx hb hr hlocks dX3_ofP_23 hK hP hD hS (⟨rfl, by unfold pD; rw [if_neg hc, if_neg hc2]; decide⟩)
    · have hc2 : k = 15 := (nI_eq (by omega) (by omega)).mp c12
      refine lv_sipush (v := nI 32767) hx hb dX3_ofP_15 (by decide) ?_
      refine lv_goto (tgt := 23) hx hb dX3_ofP_18 (by decide) ?_
      exact z_iret hx hb hr hlocks dX3_ofP_23 hK hP hD hS (⟨rfl, by unfold pD; rw [if_neg hc, if_pos hc2]; decide⟩)
  · have hc : k = 0 := (nI_eq (by omega) (by omega)).mp c1
    refine lv_ldc (v := 65517) hx hb hown (hts (.constant RX3 27 (65517)) (by decide +kernel)) dX3_ofP_4 ?_
    refine lv_goto (tgt := 23) hx hb dX3_ofP_6 (by decide) ?_
    exact z_iret hx hb hr hlocks dX3_ofP_23 hK hP hD hS (⟨rfl, by unfold pD; rw [if_pos hc]; decide⟩)
set_option maxRecDepth 100000 in
set_option maxHeartbeats 4000000 in
theorem m_setSmall (l : Launch) (D : va_G) (cA cI : ClassId) (tys : List (ClassId × FieldType)) (om aSc aPt aDg aSu : Nat) (fp fs fr : Int32) (scf ptf : Nat → Int64) (dg : Nat → Int32) (su : Nat → Int64) (to : Nat) (hto : to < 13) (v : Int32) : zCv l D ((cA, .long) :: (cI, .int) :: tys) yX3_setSmall wsX3_setSmall ({ frames := 0, cells := 0, slots := 0, locals := 0 }) [.ref om, .int (nI to), .int v] ([(om, .inr (3, [.int fp, .int fs, .int fr, .ref aSc, .ref aPt, .ref aDg, .ref aSu])), (aSc, .inl (cA, 4, .inr (.inl scf))), (aPt, .inl (cA, 4, .inr (.inl ptf))), (aDg, .inl (cI, 208, .inl dg)), (aSu, .inl (cA, 32, .inr (.inl su)))]) (fun (u : va_W) => ∃ dg' : Nat → Int32, (∀ i, i / 16 ≠ to → dg' i = dg i) ∧ (∀ k, k < 16 → dg' (16 * to + k) = if k = 0 then v else 0) ∧ u = [(om, .inr (3, [.int fp, .int fs, .int fr, .ref aSc, .ref aPt, .ref aDg, .ref aSu])), (aSc, .inl (cA, 4, .inr (.inl scf))), (aPt, .inl (cA, 4, .inr (.inl ptf))), (aDg, .inl (cI, 208, .inl dg')), (aSu, .inl (cA, 32, .inr (.inl su)))]) := by
  refine z_met (fun A => va_Qv (fun (u : va_W) => ∃ dg' : Nat → Int32, (∀ i, i / 16 ≠ to → dg' i = dg i) ∧ (∀ k, k < 16 → dg' (16 * to + k) = if k = 0 then v else 0) ∧ u = [(om, .inr (3, [.int fp, .int fs, .int fr, .ref aSc, .ref aPt, .ref aDg, .ref aSu])), (aSc, .inl (cA, 4, .inr (.inl scf))), (aPt, .inl (cA, 4, .inr (.inl ptf))), (aDg, .inl (cI, 208, .inl dg')), (aSu, .inl (cA, 32, .inr (.inl su)))]) (zB D ((cA, .long) :: (cI, .int) :: tys) A) A) (by decide) rfl (Nat.le_of_ble_eq_true rfl) ?_
  intro p e s m below meth c hx hb hr hml hts hown hlocks hname A hA hP hK hD hS ls hl
  have hown : s.vm.findClass RX3 = some m.cls := hown
  have hl : lv_has ls 4 [(0, .ref om), (1, .int (nI to)), (2, .int v)] := hl
  refine lv_iconst (v := nI 0) hx hb dX3_setSmall_0 (by decide) ?_
  refine lv_istore_n (lv' := [(3, .int (nI 0)), (0, .ref om), (1, .int (nI to)), (2, .int v)]) hx hb dX3_setSmall_1 rfl hl (by decide) rfl (fun ls hl => ?_)
  refine z_loop (fun i H locs ls => ∃ dg' : Nat → Int32, (∀ j, j / 16 ≠ to → dg' j = dg j) ∧ (∀ k, k < i → dg' (16 * to + k) = if k = 0 then v else 0) ∧ zH D A s.heap ([(om, .inr (3, [.int fp, .int fs, .int fr, .ref aSc, .ref aPt, .ref aDg, .ref aSu])), (aSc, .inl (cA, 4, .inr (.inl scf))), (aPt, .inl (cA, 4, .inr (.inl ptf))), (aDg, .inl (cI, 208, .inl dg')), (aSu, .inl (cA, 32, .inr (.inl su)))]) H locs ∧ lv_has ls 4 [(3, .int (nI i)), (0, .ref om), (1, .int (nI to)), (2, .int v)]) 16 ?_ ?_ ?_
  · exact ⟨dg, fun _ _ => rfl, fun k h => by omega, ⟨hP, hD, hS⟩, hl⟩
  · rintro i H locs ls hi ⟨dg', h1, h2, ⟨hP, hD, hS⟩, hl⟩ ih
    refine lv_iload_n hx hb dX3_setSmall_2 rfl (lv_at hl 0 rfl) ?_
    refine lv_bipush (v := nI 16) hx hb dX3_setSmall_3 (by decide) ?_
    refine lv_icmp_ge (tgt := 34) hx hb dX3_setSmall_5 (by decide) (fun c5 => absurd ((nI_leI (by omega) (by omega)).mp c5) (by omega)) (fun c5 => ?_)
    refine lv_aload_n hx hb dX3_setSmall_8 rfl (lv_at hl 1 rfl) ?_
    refine va_get (D := D) (ci := 3) (v := .ref aDg) (C := RX3) (T := TX3) (N := 7) hx hb hts (by decide +kernel) hown hK hP 0 rfl rfl 5 (by decide) (hts (.fieldLink RX3 16 "LadderDeskModel" "digits" "[I") (by decide +kernel)) (fun _ h9 => h9) rfl dX3_setSmall_9 ?_
    refine lv_bipush (v := nI 16) hx hb dX3_setSmall_12 (by decide) ?_
    refine lv_iload_n hx hb dX3_setSmall_14 rfl (lv_at hl 2 rfl) ?_
    refine lv_imul hx hb dX3_setSmall_15 ?_
    refine zi (pk_mul _ _) ?_
    refine lv_iload_n hx hb dX3_setSmall_16 rfl (lv_at hl 0 rfl) ?_
    refine lv_iadd hx hb dX3_setSmall_17 ?_
    refine zi (nI_add _ _) ?_
    refine lv_iload_n hx hb dX3_setSmall_18 rfl (lv_at hl 0 rfl) ?_
    refine lv_if_ne (tgt := 26) hx hb dX3_setSmall_19 (by decide) (fun c19 => ?_) (fun c19 => ?_)
    · have hc : ¬ i = 0 := fun e => c19 (by rw [e]; rfl)
      refine lv_iconst (v := nI 0) hx hb dX3_setSmall_26 (by decide) ?_
      refine y_sti hx hb hK hP hD hS 3 1 rfl rfl ((16 * to) + i) rfl (by omega) (by omega) dX3_setSmall_27 (fun H locs hP hD hS => ?_)
      have hP : va_P D vwCl ([(om, .inr (3, [.int fp, .int fs, .int fr, .ref aSc, .ref aPt, .ref aDg, .ref aSu])), (aSc, .inl (cA, 4, .inr (.inl scf))), (aPt, .inl (cA, 4, .inr (.inl ptf))), (aDg, .inl (cI, 208, .inl (upd dg' ((16 * to) + i) (nI 0)))), (aSu, .inl (cA, 32, .inr (.inl su)))]) H := hP
      have hD : va_D A ([(om, .inr (3, [.int fp, .int fs, .int fr, .ref aSc, .ref aPt, .ref aDg, .ref aSu])), (aSc, .inl (cA, 4, .inr (.inl scf))), (aPt, .inl (cA, 4, .inr (.inl ptf))), (aDg, .inl (cI, 208, .inl (upd dg' ((16 * to) + i) (nI 0)))), (aSu, .inl (cA, 32, .inr (.inl su)))]) := hD
      refine lv_iinc (v := nI (i + 1)) (lv' := [(3, .int (nI (i + 1))), (0, .ref om), (1, .int (nI to)), (2, .int v)]) hx hb dX3_setSmall_28 hl (k := 0) rfl (by show nI _ + nI 1 = _; exact nI_add _ _) (by decide) rfl (fun ls hl => ?_)
      refine lv_goto (tgt := 2) hx hb dX3_setSmall_31 (by decide) ?_
      exact ih _ _ _ ⟨_, fun j hj => by rw [pk_un (by omega)]; exact h1 j hj, fun k hk => by
        by_cases e : k = i
        · subst e; rw [pk_us, if_neg hc]; rfl
        · rw [pk_un (by omega)]; exact h2 k (by omega), ⟨hP, hD, hS⟩, hl⟩
    · have hc : i = 0 := (nI_eq (by omega) (by omega)).mp c19
      refine lv_iload_n hx hb dX3_setSmall_22 rfl (lv_at hl 3 rfl) ?_
      refine lv_goto (tgt := 27) hx hb dX3_setSmall_23 (by decide) ?_
      refine y_sti hx hb hK hP hD hS 3 1 rfl rfl ((16 * to) + i) rfl (by omega) (by omega) dX3_setSmall_27 (fun H locs hP hD hS => ?_)
      have hP : va_P D vwCl ([(om, .inr (3, [.int fp, .int fs, .int fr, .ref aSc, .ref aPt, .ref aDg, .ref aSu])), (aSc, .inl (cA, 4, .inr (.inl scf))), (aPt, .inl (cA, 4, .inr (.inl ptf))), (aDg, .inl (cI, 208, .inl (upd dg' ((16 * to) + i) v))), (aSu, .inl (cA, 32, .inr (.inl su)))]) H := hP
      have hD : va_D A ([(om, .inr (3, [.int fp, .int fs, .int fr, .ref aSc, .ref aPt, .ref aDg, .ref aSu])), (aSc, .inl (cA, 4, .inr (.inl scf))), (aPt, .inl (cA, 4, .inr (.inl ptf))), (aDg, .inl (cI, 208, .inl (upd dg' ((16 * to) + i) v))), (aSu, .inl (cA, 32, .inr (.inl su)))]) := hD
      refine lv_iinc (v := nI (i + 1)) (lv' := [(3, .int (nI (i + 1))), (0, .ref om), (1, .int (nI to)), (2, .int v)]) hx hb dX3_setSmall_28 hl (k := 0) rfl (by show nI _ + nI 1 = _; exact nI_add _ _) (by decide) rfl (fun ls hl => ?_)
      refine lv_goto (tgt := 2) hx hb dX3_setSmall_31 (by decide) ?_
      exact ih _ _ _ ⟨_, fun j hj => by rw [pk_un (by omega)]; exact h1 j hj, fun k hk => by
        by_cases e : k = i
        · subst e; rw [pk_us, if_pos hc]
        · rw [pk_un (by omega)]; exact h2 k (by omega), ⟨hP, hD, hS⟩, hl⟩
  · rintro H locs ls ⟨dg', h1, h2, ⟨hP, hD, hS⟩, hl⟩
    refine lv_iload_n hx hb dX3_setSmall_2 rfl (lv_at hl 0 rfl) ?_
    refine lv_bipush (v := nI 16) hx hb dX3_setSmall_3 (by decide) ?_
    refine lv_icmp_ge (tgt := 34) hx hb dX3_setSmall_5 (by decide) (fun c5 => ?_) (fun c5 => absurd ((nI_leI (by omega) (by omega)).mpr (by omega)) c5)
    exact z_vret hx hb hr hlocks dX3_setSmall_34 hK hP hD hS (⟨dg', h1, h2, rfl⟩)
set_option maxRecDepth 100000 in
set_option maxHeartbeats 4000000 in
theorem m_copy (l : Launch) (D : va_G) (cA cI : ClassId) (tys : List (ClassId × FieldType)) (om aSc aPt aDg aSu : Nat) (fp fs fr : Int32) (scf ptf : Nat → Int64) (dg : Nat → Int32) (su : Nat → Int64) (to a : Nat) (hto : to < 13) (ha : a < 13) (hne : a ≠ to) : zCv l D ((cA, .long) :: (cI, .int) :: tys) yX3_copy wsX3_copy ({ frames := 0, cells := 0, slots := 0, locals := 0 }) [.ref om, .int (nI to), .int (nI a)] ([(om, .inr (3, [.int fp, .int fs, .int fr, .ref aSc, .ref aPt, .ref aDg, .ref aSu])), (aSc, .inl (cA, 4, .inr (.inl scf))), (aPt, .inl (cA, 4, .inr (.inl ptf))), (aDg, .inl (cI, 208, .inl dg)), (aSu, .inl (cA, 32, .inr (.inl su)))]) (fun (u : va_W) => ∃ dg' : Nat → Int32, (∀ i, i / 16 ≠ to → dg' i = dg i) ∧ (∀ k, k < 16 → dg' (16 * to + k) = dg (16 * a + k)) ∧ u = [(om, .inr (3, [.int fp, .int fs, .int fr, .ref aSc, .ref aPt, .ref aDg, .ref aSu])), (aSc, .inl (cA, 4, .inr (.inl scf))), (aPt, .inl (cA, 4, .inr (.inl ptf))), (aDg, .inl (cI, 208, .inl dg')), (aSu, .inl (cA, 32, .inr (.inl su)))]) := by
  refine z_met (fun A => va_Qv (fun (u : va_W) => ∃ dg' : Nat → Int32, (∀ i, i / 16 ≠ to → dg' i = dg i) ∧ (∀ k, k < 16 → dg' (16 * to + k) = dg (16 * a + k)) ∧ u = [(om, .inr (3, [.int fp, .int fs, .int fr, .ref aSc, .ref aPt, .ref aDg, .ref aSu])), (aSc, .inl (cA, 4, .inr (.inl scf))), (aPt, .inl (cA, 4, .inr (.inl ptf))), (aDg, .inl (cI, 208, .inl dg')), (aSu, .inl (cA, 32, .inr (.inl su)))]) (zB D ((cA, .long) :: (cI, .int) :: tys) A) A) (by decide) rfl (Nat.le_of_ble_eq_true rfl) ?_
  intro p e s m below meth c hx hb hr hml hts hown hlocks hname A hA hP hK hD hS ls hl
  have hown : s.vm.findClass RX3 = some m.cls := hown
  have hl : lv_has ls 4 [(0, .ref om), (1, .int (nI to)), (2, .int (nI a))] := hl
  refine lv_iconst (v := nI 0) hx hb dX3_copy_0 (by decide) ?_
  refine lv_istore_n (lv' := [(3, .int (nI 0)), (0, .ref om), (1, .int (nI to)), (2, .int (nI a))]) hx hb dX3_copy_1 rfl hl (by decide) rfl (fun ls hl => ?_)
  refine z_loop (fun i H locs ls => ∃ dg' : Nat → Int32, (∀ j, j / 16 ≠ to → dg' j = dg j) ∧ (∀ k, k < i → dg' (16 * to + k) = dg (16 * a + k)) ∧ zH D A s.heap ([(om, .inr (3, [.int fp, .int fs, .int fr, .ref aSc, .ref aPt, .ref aDg, .ref aSu])), (aSc, .inl (cA, 4, .inr (.inl scf))), (aPt, .inl (cA, 4, .inr (.inl ptf))), (aDg, .inl (cI, 208, .inl dg')), (aSu, .inl (cA, 32, .inr (.inl su)))]) H locs ∧ lv_has ls 4 [(3, .int (nI i)), (0, .ref om), (1, .int (nI to)), (2, .int (nI a))]) 16 ?_ ?_ ?_
  · exact ⟨dg, fun _ _ => rfl, fun k h => by omega, ⟨hP, hD, hS⟩, hl⟩
  · rintro i H locs ls hi ⟨dg', h1, h2, ⟨hP, hD, hS⟩, hl⟩ ih
    refine lv_iload_n hx hb dX3_copy_2 rfl (lv_at hl 0 rfl) ?_
    refine lv_bipush (v := nI 16) hx hb dX3_copy_3 (by decide) ?_
    refine lv_icmp_ge (tgt := 36) hx hb dX3_copy_5 (by decide) (fun c5 => absurd ((nI_leI (by omega) (by omega)).mp c5) (by omega)) (fun c5 => ?_)
    refine lv_aload_n hx hb dX3_copy_8 rfl (lv_at hl 1 rfl) ?_
    refine va_get (D := D) (ci := 3) (v := .ref aDg) (C := RX3) (T := TX3) (N := 7) hx hb hts (by decide +kernel) hown hK hP 0 rfl rfl 5 (by decide) (hts (.fieldLink RX3 16 "LadderDeskModel" "digits" "[I") (by decide +kernel)) (fun _ h9 => h9) rfl dX3_copy_9 ?_
    refine lv_bipush (v := nI 16) hx hb dX3_copy_12 (by decide) ?_
    refine lv_iload_n hx hb dX3_copy_14 rfl (lv_at hl 2 rfl) ?_
    refine lv_imul hx hb dX3_copy_15 ?_
    refine zi (pk_mul _ _) ?_
    refine lv_iload_n hx hb dX3_copy_16 rfl (lv_at hl 0 rfl) ?_
    refine lv_iadd hx hb dX3_copy_17 ?_
    refine zi (nI_add _ _) ?_
    refine lv_aload_n hx hb dX3_copy_18 rfl (lv_at hl 1 rfl) ?_
    refine va_get (D := D) (ci := 3) (v := .ref aDg) (C := RX3) (T := TX3) (N := 7) hx hb hts (by decide +kernel) hown hK hP 0 rfl rfl 5 (by decide) (hts (.fieldLink RX3 16 "LadderDeskModel" "digits" "[I") (by decide +kernel)) (fun _ h9 => h9) rfl dX3_copy_19 ?_
    refine lv_bipush (v := nI 16) hx hb dX3_copy_22 (by decide) ?_
    refine lv_iload_n hx hb dX3_copy_24 rfl (lv_at hl 3 rfl) ?_
    refine lv_imul hx hb dX3_copy_25 ?_
    refine zi (pk_mul _ _) ?_
    refine lv_iload_n hx hb dX3_copy_26 rfl (lv_at hl 0 rfl) ?_
    refine lv_iadd hx hb dX3_copy_27 ?_
    refine zi (nI_add _ _) ?_
    refine y_ldi hx hb hK hP 3 1 rfl rfl ((16 * a) + i) rfl (by omega) (by omega) dX3_copy_28 ?_
    refine lv_topi (fun v28 e28 => ?_)
    refine y_sti hx hb hK hP hD hS 3 1 rfl rfl ((16 * to) + i) rfl (by omega) (by omega) dX3_copy_29 (fun H locs hP hD hS => ?_)
    have hP : va_P D vwCl ([(om, .inr (3, [.int fp, .int fs, .int fr, .ref aSc, .ref aPt, .ref aDg, .ref aSu])), (aSc, .inl (cA, 4, .inr (.inl scf))), (aPt, .inl (cA, 4, .inr (.inl ptf))), (aDg, .inl (cI, 208, .inl (upd dg' ((16 * to) + i) v28))), (aSu, .inl (cA, 32, .inr (.inl su)))]) H := hP
    have hD : va_D A ([(om, .inr (3, [.int fp, .int fs, .int fr, .ref aSc, .ref aPt, .ref aDg, .ref aSu])), (aSc, .inl (cA, 4, .inr (.inl scf))), (aPt, .inl (cA, 4, .inr (.inl ptf))), (aDg, .inl (cI, 208, .inl (upd dg' ((16 * to) + i) v28))), (aSu, .inl (cA, 32, .inr (.inl su)))]) := hD
    refine lv_iinc (v := nI (i + 1)) (lv' := [(3, .int (nI (i + 1))), (0, .ref om), (1, .int (nI to)), (2, .int (nI a))]) hx hb dX3_copy_30 hl (k := 0) rfl (by show nI _ + nI 1 = _; exact nI_add _ _) (by decide) rfl (fun ls hl => ?_)
    refine lv_goto (tgt := 2) hx hb dX3_copy_33 (by decide) ?_
    exact ih _ _ _ ⟨_, fun j hj => by rw [pk_un (by omega)]; exact h1 j hj, fun k hk => by
      by_cases e : k = i
      · subst e; rw [pk_us, e28, h1 _ (by omega)]
      · rw [pk_un (by omega)]; exact h2 k (by omega), ⟨hP, hD, hS⟩, hl⟩
  · rintro H locs ls ⟨dg', h1, h2, ⟨hP, hD, hS⟩, hl⟩
    refine lv_iload_n hx hb dX3_copy_2 rfl (lv_at hl 0 rfl) ?_
    refine lv_bipush (v := nI 16) hx hb dX3_copy_3 (by decide) ?_
    refine lv_icmp_ge (tgt := 36) hx hb dX3_copy_5 (by decide) (fun c5 => ?_) (fun c5 => absurd ((nI_leI (by omega) (by omega)).mpr (by omega)) c5)
    exact z_vret hx hb hr hlocks dX3_copy_36 hK hP hD hS (⟨dg', h1, h2, rfl⟩)
theorem dh_cp {dg dg' : Nat → Int32} {a to : Nat} {x : Int} (h : dh dg a x) (hc : ∀ k, k < 16 → dg' (16 * to + k) = dg (16 * a + k)) : dh dg' to x := by
  have e : ∀ k, k < 16 → dd dg' to k = dd dg a k := fun k hk => by unfold dd; rw [hc k hk]
  exact ⟨fun k hk => by rw [e k hk]; exact h.1 k hk, by rw [sv_congr e]; exact h.2.1, h.2.2⟩
set_option maxRecDepth 100000 in
set_option maxHeartbeats 4000000 in
theorem m_swap (l : Launch) (D : va_G) (cA cI : ClassId) (tys : List (ClassId × FieldType)) (om aSc aPt aDg aSu : Nat) (fp fs fr : Int32) (scf ptf : Nat → Int64) (dg : Nat → Int32) (su : Nat → Int64) (a b : Nat) (ha : a < 12) (hb12 : b < 12) (hne : a ≠ b) (x y : Int) (hxa : dh dg a x) (hyb : dh dg b y) : zCv l D ((cA, .long) :: (cI, .int) :: tys) yX3_swap wsX3_swap ({ frames := 1, cells := 0, slots := 0, locals := 23 }) [.ref om, .int (nI a), .int (nI b)] ([(om, .inr (3, [.int fp, .int fs, .int fr, .ref aSc, .ref aPt, .ref aDg, .ref aSu])), (aSc, .inl (cA, 4, .inr (.inl scf))), (aPt, .inl (cA, 4, .inr (.inl ptf))), (aDg, .inl (cI, 208, .inl dg)), (aSu, .inl (cA, 32, .inr (.inl su)))]) (fun (u : va_W) => ∃ dg' : Nat → Int32, (∀ i, i / 16 ≠ a → i / 16 ≠ b → i / 16 ≠ 12 → dg' i = dg i) ∧ dh dg' a y ∧ dh dg' b x ∧ u = [(om, .inr (3, [.int fp, .int fs, .int fr, .ref aSc, .ref aPt, .ref aDg, .ref aSu])), (aSc, .inl (cA, 4, .inr (.inl scf))), (aPt, .inl (cA, 4, .inr (.inl ptf))), (aDg, .inl (cI, 208, .inl dg')), (aSu, .inl (cA, 32, .inr (.inl su)))]) := by
  refine z_met (fun A => va_Qv (fun (u : va_W) => ∃ dg' : Nat → Int32, (∀ i, i / 16 ≠ a → i / 16 ≠ b → i / 16 ≠ 12 → dg' i = dg i) ∧ dh dg' a y ∧ dh dg' b x ∧ u = [(om, .inr (3, [.int fp, .int fs, .int fr, .ref aSc, .ref aPt, .ref aDg, .ref aSu])), (aSc, .inl (cA, 4, .inr (.inl scf))), (aPt, .inl (cA, 4, .inr (.inl ptf))), (aDg, .inl (cI, 208, .inl dg')), (aSu, .inl (cA, 32, .inr (.inl su)))]) (zB D ((cA, .long) :: (cI, .int) :: tys) A) A) (by decide) rfl (Nat.le_of_ble_eq_true rfl) ?_
  intro p e s m below meth c hx hb hr hml hts hown hlocks hname A hA hP hK hD hS ls hl
  have hown : s.vm.findClass RX3 = some m.cls := hown
  have hl : lv_has ls 3 [(0, .ref om), (1, .int (nI a)), (2, .int (nI b))] := hl
  refine lv_aload_n hx hb dX3_swap_0 rfl (lv_at hl 0 rfl) ?_
  refine lv_bipush (v := nI 12) hx hb dX3_swap_1 (by decide) ?_
  refine lv_iload_n hx hb dX3_swap_3 rfl (lv_at hl 1 rfl) ?_
  refine z_callv (va_runV (As := [.int (nI 12), .int (nI a)]) (rest := []) ⟨hx, hb, hml, hown, hts⟩ (m_copy l D cA cI tys om aSc aPt aDg aSu fp fs fr scf ptf dg su 12 a (by omega) (by omega) (by omega) _) (cwV 2 hts gX3_swap_X3_copy rfl rfl rfl (by decide +kernel) ⟨Nat.le_of_ble_eq_true rfl, Nat.le_of_ble_eq_true rfl⟩) (z_preV _ hK hP hD (ci := 3) (q0 := 0) rfl rfl) rfl rfl hl.1 rfl (lv_room (Nat.le_of_ble_eq_true rfl)) dX3_swap_4 ⟨Nat.le_of_ble_eq_true rfl, Nat.le_of_ble_eq_true rfl⟩) hD hS hA (fun u H locs hu hP hD hS => ?_)
  obtain ⟨d1, k1, c1, rfl⟩ := hu
  refine lv_aload_n hx hb dX3_swap_7 rfl (lv_at hl 0 rfl) ?_
  refine lv_iload_n hx hb dX3_swap_8 rfl (lv_at hl 1 rfl) ?_
  refine lv_iload_n hx hb dX3_swap_9 rfl (lv_at hl 2 rfl) ?_
  refine z_callv (va_runV (As := [.int (nI a), .int (nI b)]) (rest := []) ⟨hx, hb, hml, hown, hts⟩ (m_copy l D cA cI tys om aSc aPt aDg aSu fp fs fr scf ptf d1 su a b (by omega) (by omega) (fun e => hne e.symm) _) (cwV 2 hts gX3_swap_X3_copy rfl rfl rfl (by decide +kernel) ⟨Nat.le_of_ble_eq_true rfl, Nat.le_of_ble_eq_true rfl⟩) (z_preV _ hK hP hD (ci := 3) (q0 := 0) rfl rfl) rfl rfl hl.1 rfl (lv_room (Nat.le_of_ble_eq_true rfl)) dX3_swap_10 ⟨Nat.le_of_ble_eq_true rfl, Nat.le_of_ble_eq_true rfl⟩) hD hS hA (fun u H locs hu hP hD hS => ?_)
  obtain ⟨d2, k2, c2, rfl⟩ := hu
  refine lv_aload_n hx hb dX3_swap_13 rfl (lv_at hl 0 rfl) ?_
  refine lv_iload_n hx hb dX3_swap_14 rfl (lv_at hl 2 rfl) ?_
  refine lv_bipush (v := nI 12) hx hb dX3_swap_15 (by decide) ?_
  refine z_callv (va_runV (As := [.int (nI b), .int (nI 12)]) (rest := []) ⟨hx, hb, hml, hown, hts⟩ (m_copy l D cA cI tys om aSc aPt aDg aSu fp fs fr scf ptf d2 su b 12 (by omega) (by omega) (by omega) _) (cwV 2 hts gX3_swap_X3_copy rfl rfl rfl (by decide +kernel) ⟨Nat.le_of_ble_eq_true rfl, Nat.le_of_ble_eq_true rfl⟩) (z_preV _ hK hP hD (ci := 3) (q0 := 0) rfl rfl) rfl rfl hl.1 rfl (lv_room (Nat.le_of_ble_eq_true rfl)) dX3_swap_17 ⟨Nat.le_of_ble_eq_true rfl, Nat.le_of_ble_eq_true rfl⟩) hD hS hA (fun u H locs hu hP hD hS => ?_)
  obtain ⟨d3, k3, c3, rfl⟩ := hu
  exact z_vret hx hb hr hlocks dX3_swap_20 hK hP hD hS (⟨d3, fun i h1 h2 h3 => by rw [k3 i h2, k2 i h1, k1 i h3], dh_kp (dh_cp (dh_kp hyb (by omega) k1) c2) hne k3, dh_cp (dh_kp (dh_cp hxa c1) (by omega) k2) c3, rfl⟩)
theorem dn_15 : ∀ i, i < 16 → nI (15 - i) + Int32.ofInt (-1) = nI 15 - nI (i + 1) := by decide +kernel
set_option maxRecDepth 100000 in
set_option maxHeartbeats 4000000 in
theorem m_isGreat (l : Launch) (D : va_G) (cA cI : ClassId) (tys : List (ClassId × FieldType)) (om aSc aPt aDg aSu : Nat) (fp fs fr : Int32) (scf ptf : Nat → Int64) (dg : Nat → Int32) (su : Nat → Int64) (hs : ∀ k, k < 16 → 0 ≤ fI su k ∧ fI su k < cB) : zCi l D ((cA, .long) :: (cI, .int) :: tys) yX3_isGreat wsX3_isGreat ({ frames := 1, cells := 0, slots := 0, locals := 20 }) [.ref om] ([(om, .inr (3, [.int fp, .int fs, .int fr, .ref aSc, .ref aPt, .ref aDg, .ref aSu])), (aSc, .inl (cA, 4, .inr (.inl scf))), (aPt, .inl (cA, 4, .inr (.inl ptf))), (aDg, .inl (cI, 208, .inl dg)), (aSu, .inl (cA, 32, .inr (.inl su)))]) (fun r (u : va_W) => (∃ gr : Bool, (gr = true ↔ pP ≤ sv cB (fI su) 16) ∧ r = if gr then 1 else 0) ∧ u = [(om, .inr (3, [.int fp, .int fs, .int fr, .ref aSc, .ref aPt, .ref aDg, .ref aSu])), (aSc, .inl (cA, 4, .inr (.inl scf))), (aPt, .inl (cA, 4, .inr (.inl ptf))), (aDg, .inl (cI, 208, .inl dg)), (aSu, .inl (cA, 32, .inr (.inl su)))]) := by
  refine z_met (fun A => va_Qi (fun r (u : va_W) => (∃ gr : Bool, (gr = true ↔ pP ≤ sv cB (fI su) 16) ∧ r = if gr then 1 else 0) ∧ u = [(om, .inr (3, [.int fp, .int fs, .int fr, .ref aSc, .ref aPt, .ref aDg, .ref aSu])), (aSc, .inl (cA, 4, .inr (.inl scf))), (aPt, .inl (cA, 4, .inr (.inl ptf))), (aDg, .inl (cI, 208, .inl dg)), (aSu, .inl (cA, 32, .inr (.inl su)))]) (zB D ((cA, .long) :: (cI, .int) :: tys) A) A) (by decide) rfl (Nat.le_of_ble_eq_true rfl) ?_
  intro p e s m below meth c hx hb hr hml hts hown hlocks hname A hA hP hK hD hS ls hl
  have hown : s.vm.findClass RX3 = some m.cls := hown
  have hl : lv_has ls 2 [(0, .ref om)] := hl
  refine lv_bipush (v := nI 15) hx hb dX3_isGreat_0 (by decide) ?_
  refine lv_istore_n (lv' := [(1, .int (nI 15)), (0, .ref om)]) hx hb dX3_isGreat_2 rfl hl (by decide) rfl (fun ls hl => ?_)
  refine z_loop (fun i H locs ls => (∀ j, 16 ≤ j + i → j < 16 → fI su j = pD j) ∧ zH D A s.heap ([(om, .inr (3, [.int fp, .int fs, .int fr, .ref aSc, .ref aPt, .ref aDg, .ref aSu])), (aSc, .inl (cA, 4, .inr (.inl scf))), (aPt, .inl (cA, 4, .inr (.inl ptf))), (aDg, .inl (cI, 208, .inl dg)), (aSu, .inl (cA, 32, .inr (.inl su)))]) H locs ∧ lv_has ls 2 [(1, .int (nI 15 - nI i)), (0, .ref om)]) 16 ?_ ?_ ?_
  · exact ⟨fun j h1 h2 => by omega, ⟨hP, hD, hS⟩, lv_eq (by rw [show nI 15 - nI 0 = nI 15 from by decide]) hl⟩
  · rintro i H locs ls hi ⟨h1, ⟨hP, hD, hS⟩, hl⟩ ih
    have hl : lv_has ls 2 [(1, .int (nI (15 - i))), (0, .ref om)] := by rw [← pk_sub (show i ≤ 15 by omega)]; exact hl
    refine lv_iload_n hx hb dX3_isGreat_3 rfl (lv_at hl 0 rfl) ?_
    refine lv_if_lt (tgt := 49) hx hb dX3_isGreat_4 (by decide) (fun c4 => absurd c4 (nI_pos (by omega))) (fun c4 => ?_)
    refine lv_aload_n hx hb dX3_isGreat_7 rfl (lv_at hl 1 rfl) ?_
    refine va_get (D := D) (ci := 3) (v := .ref aSu) (C := RX3) (T := TX3) (N := 7) hx hb hts (by decide +kernel) hown hK hP 0 rfl rfl 6 (by decide) (hts (.fieldLink RX3 20 "LadderDeskModel" "sums" "[J") (by decide +kernel)) (fun _ h9 => h9) rfl dX3_isGreat_8 ?_
    refine lv_iload_n hx hb dX3_isGreat_11 rfl (lv_at hl 0 rfl) ?_
    refine y_ld hx hb hK hP 4 0 rfl rfl (15 - i) rfl (by omega) (by omega) dX3_isGreat_12 ?_
    refine lv_topl (fun v12 e12 => ?_)
    refine lv_iload_n hx hb dX3_isGreat_13 rfl (lv_at hl 0 rfl) ?_
    refine z_calli (va_runS (As := [.int (nI (15 - i))]) (rest := [.long v12]) ⟨hx, hb, hml, hown, hts⟩ (c_ofP l D ((cA, .long) :: (cI, .int) :: tys) _ (15 - i) (by omega) _) (va_cwS 1 hts gX3_isGreat_X3_ofP rfl rfl rfl (by decide +kernel) ⟨Nat.le_of_ble_eq_true rfl, Nat.le_of_ble_eq_true rfl⟩) (z_preS _ hK hP hD) rfl rfl hl.1 rfl (lv_room (Nat.le_of_ble_eq_true rfl)) dX3_isGreat_14 ⟨Nat.le_of_ble_eq_true rfl, Nat.le_of_ble_eq_true rfl⟩) hD hS hA (fun r14 u H locs hu hP hD hS => ?_)
    obtain ⟨rfl, ho14⟩ := hu
    refine lv_i2l hx hb dX3_isGreat_17 rfl ?_
    refine lv_topl (fun v17 e17 => ?_)
    refine W.lcmp hx hb dX3_isGreat_18 ?_
    refine lv_if_eq (tgt := 43) hx hb dX3_isGreat_19 (by decide) (fun c19 => ?_) (fun c19 => ?_)
    · have hc := (lg_cmp_eq _ _).mp c19
      have he : fI su (15 - i) = pD (15 - i) := by rw [fI_at, ← e12, hc, e17, tl_i2l, ho14]
      refine lv_iinc (v := nI 15 - nI (i + 1)) (lv' := [(1, .int (nI 15 - nI (i + 1))), (0, .ref om)]) hx hb dX3_isGreat_43 hl (k := 0) rfl (dn_15 i hi) (by decide) rfl (fun ls hl => ?_)
      refine lv_goto (tgt := 3) hx hb dX3_isGreat_46 (by decide) ?_
      exact ih _ _ _ ⟨fun j a1 a2 => by
        by_cases e : j = 15 - i
        · rw [e]; exact he
        · exact h1 j (by omega) a2, ⟨hP, hD, hS⟩, hl⟩
    · have hc := cmp_ne c19
      have hne : fI su (15 - i) ≠ pD (15 - i) := fun h => hc (Int64.toInt_inj.mp (by rw [e12, e17, tl_i2l, ho14]; exact h))
      refine lv_aload_n hx hb dX3_isGreat_22 rfl (lv_at hl 1 rfl) ?_
      refine va_get (D := D) (ci := 3) (v := .ref aSu) (C := RX3) (T := TX3) (N := 7) hx hb hts (by decide +kernel) hown hK hP 0 rfl rfl 6 (by decide) (hts (.fieldLink RX3 20 "LadderDeskModel" "sums" "[J") (by decide +kernel)) (fun _ h9 => h9) rfl dX3_isGreat_23 ?_
      refine lv_iload_n hx hb dX3_isGreat_26 rfl (lv_at hl 0 rfl) ?_
      refine y_ld hx hb hK hP 4 0 rfl rfl (15 - i) rfl (by omega) (by omega) dX3_isGreat_27 ?_
      refine lv_topl (fun v27 e27 => ?_)
      refine lv_iload_n hx hb dX3_isGreat_28 rfl (lv_at hl 0 rfl) ?_
      refine z_calli (va_runS (As := [.int (nI (15 - i))]) (rest := [.long v27]) ⟨hx, hb, hml, hown, hts⟩ (c_ofP l D ((cA, .long) :: (cI, .int) :: tys) _ (15 - i) (by omega) _) (va_cwS 1 hts gX3_isGreat_X3_ofP rfl rfl rfl (by decide +kernel) ⟨Nat.le_of_ble_eq_true rfl, Nat.le_of_ble_eq_true rfl⟩) (z_preS _ hK hP hD) rfl rfl hl.1 rfl (lv_room (Nat.le_of_ble_eq_true rfl)) dX3_isGreat_29 ⟨Nat.le_of_ble_eq_true rfl, Nat.le_of_ble_eq_true rfl⟩) hD hS hA (fun r29 u H locs hu hP hD hS => ?_)
      obtain ⟨rfl, ho29⟩ := hu
      refine lv_i2l hx hb dX3_isGreat_32 rfl ?_
      refine lv_topl (fun v32 e32 => ?_)
      refine W.lcmp hx hb dX3_isGreat_33 ?_
      refine lv_if_le (tgt := 41) hx hb dX3_isGreat_34 (by decide) (fun c34 => ?_) (fun c34 => ?_)
      · have hc2 := Int64.le_iff_toInt_le.mp ((lg_cmp_le _ _).mp c34)
        rw [e27, e32, tl_i2l, ho29] at hc2
        have hlt : fI su (15 - i) < pD (15 - i) := by have : (su (15 - i)).toInt = fI su (15 - i) := rfl; omega
        have hv := great_lt (s := fI su) (k := 15 - i) hs (by omega) (fun j a1 a2 => h1 j (by omega) a2) hlt
        refine lv_iconst (v := nI 0) hx hb dX3_isGreat_41 (by decide) ?_
        exact z_zret hx hb hr hlocks dX3_isGreat_42 rfl hK hP hD hS (⟨⟨false, ⟨fun h => absurd h (by decide), fun h => by omega⟩, rfl⟩, rfl⟩)
      · have hc2 := mt (fun h => (lg_cmp_le v27 v32).mpr (Int64.le_iff_toInt_le.mpr h)) c34
        rw [e27, e32, tl_i2l, ho29] at hc2
        have hgt : pD (15 - i) < fI su (15 - i) := by have : (su (15 - i)).toInt = fI su (15 - i) := rfl; omega
        have hv := great_gt (s := fI su) (k := 15 - i) hs (by omega) (fun j a1 a2 => h1 j (by omega) a2) hgt
        refine lv_iconst (v := nI 1) hx hb dX3_isGreat_37 (by decide) ?_
        refine lv_goto (tgt := 42) hx hb dX3_isGreat_38 (by decide) ?_
        exact z_zret hx hb hr hlocks dX3_isGreat_42 rfl hK hP hD hS (⟨⟨true, ⟨fun _ => by omega, fun _ => rfl⟩, rfl⟩, rfl⟩)
  · rintro H locs ls ⟨h1, ⟨hP, hD, hS⟩, hl⟩
    refine lv_iload_n hx hb dX3_isGreat_3 rfl (lv_at hl 0 rfl) ?_
    refine lv_if_lt (tgt := 49) hx hb dX3_isGreat_4 (by decide) (fun c4 => ?_) (fun c4 => absurd (by decide) c4)
    have hv := great_eq (s := fI su) (fun j hj => h1 j (by omega) hj)
    refine lv_iconst (v := nI 1) hx hb dX3_isGreat_49 (by decide) ?_
    exact z_zret hx hb hr hlocks dX3_isGreat_50 rfl hK hP hD hS (⟨⟨true, ⟨fun _ => by omega, fun _ => rfl⟩, rfl⟩, rfl⟩)
set_option maxRecDepth 100000 in
set_option maxHeartbeats 4000000 in
theorem m_store (l : Launch) (D : va_G) (cA cI : ClassId) (tys : List (ClassId × FieldType)) (om aSc aPt aDg aSu : Nat) (fp fs fr : Int32) (scf ptf : Nat → Int64) (dg : Nat → Int32) (su : Nat → Int64) (to : Nat) (hto : to < 13) (hs : ∀ k, k < 16 → 0 ≤ fI su k ∧ fI su k < 8796093022208) : zCv l D ((cA, .long) :: (cI, .int) :: tys) yX3_store wsX3_store ({ frames := 2, cells := 0, slots := 0, locals := 41 }) [.ref om, .int (nI to)] ([(om, .inr (3, [.int fp, .int fs, .int fr, .ref aSc, .ref aPt, .ref aDg, .ref aSu])), (aSc, .inl (cA, 4, .inr (.inl scf))), (aPt, .inl (cA, 4, .inr (.inl ptf))), (aDg, .inl (cI, 208, .inl dg)), (aSu, .inl (cA, 32, .inr (.inl su)))]) (fun (u : va_W) => ∃ (dg' : Nat → Int32) (su' : Nat → Int64), (∀ i, i / 16 ≠ to → dg' i = dg i) ∧ dh dg' to (sv cB (fI su) 16 % pP) ∧ u = [(om, .inr (3, [.int fp, .int fs, .int fr, .ref aSc, .ref aPt, .ref aDg, .ref aSu])), (aSc, .inl (cA, 4, .inr (.inl scf))), (aPt, .inl (cA, 4, .inr (.inl ptf))), (aDg, .inl (cI, 208, .inl dg')), (aSu, .inl (cA, 32, .inr (.inl su')))]) := by
  refine z_met (fun A => va_Qv (fun (u : va_W) => ∃ (dg' : Nat → Int32) (su' : Nat → Int64), (∀ i, i / 16 ≠ to → dg' i = dg i) ∧ dh dg' to (sv cB (fI su) 16 % pP) ∧ u = [(om, .inr (3, [.int fp, .int fs, .int fr, .ref aSc, .ref aPt, .ref aDg, .ref aSu])), (aSc, .inl (cA, 4, .inr (.inl scf))), (aPt, .inl (cA, 4, .inr (.inl ptf))), (aDg, .inl (cI, 208, .inl dg')), (aSu, .inl (cA, 32, .inr (.inl su')))]) (zB D ((cA, .long) :: (cI, .int) :: tys) A) A) (by decide) rfl (Nat.le_of_ble_eq_true rfl) ?_
  intro p e s m below meth c hx hb hr hml hts hown hlocks hname A hA hP hK hD hS ls hl
  have hown : s.vm.findClass RX3 = some m.cls := hown
  have hl : lv_has ls 10 [(0, .ref om), (1, .int (nI to))] := hl
  refine lv_iconst (v := nI 0) hx hb dX3_store_0 (by decide) ?_
  refine lv_istore_n (lv' := [(2, .int (nI 0)), (0, .ref om), (1, .int (nI to))]) hx hb dX3_store_1 rfl hl (by decide) rfl (fun ls hl => ?_)
  refine z_loop (fun i H locs ls => ∃ f : Nat → Int64, Jt su f i ∧ zH D A s.heap ([(om, .inr (3, [.int fp, .int fs, .int fr, .ref aSc, .ref aPt, .ref aDg, .ref aSu])), (aSc, .inl (cA, 4, .inr (.inl scf))), (aPt, .inl (cA, 4, .inr (.inl ptf))), (aDg, .inl (cI, 208, .inl dg)), (aSu, .inl (cA, 32, .inr (.inl f)))]) H locs ∧ lv_has ls 10 [(2, .int (nI i)), (0, .ref om), (1, .int (nI to))]) 3 ?_ ?_ ?_
  · exact ⟨su, Jt_0 hs, ⟨hP, hD, hS⟩, hl⟩
  · rintro i H locs ls hi ⟨f, hJ, ⟨hP, hD, hS⟩, hl⟩ ih
    refine lv_iload_n hx hb dX3_store_2 rfl (lv_at hl 0 rfl) ?_
    refine lv_iconst (v := nI 3) hx hb dX3_store_3 (by decide) ?_
    refine lv_icmp_ge (tgt := 116) hx hb dX3_store_4 (by decide) (fun c4 => absurd ((nI_leI (by omega) (by omega)).mp c4) (by omega)) (fun c4 => ?_)
    refine lv_lconst (v := 0) hx hb dX3_store_7 (by decide) ?_
    refine lv_lstore_n (lv' := [(3, .long 0), (2, .int (nI i)), (0, .ref om), (1, .int (nI to))]) hx hb dX3_store_8 rfl hl (by decide) rfl (fun ls hl => ?_)
    refine lv_iconst (v := nI 0) hx hb dX3_store_9 (by decide) ?_
    refine lv_istore (lv' := [(5, .int (nI 0)), (3, .long 0), (2, .int (nI i)), (0, .ref om), (1, .int (nI to))]) hx hb dX3_store_10 hl (by decide) rfl (fun ls hl => ?_)
    refine z_loop (fun k H locs ls => ∃ (g : Nat → Int64) (o : Int64), Jcar f g k o ∧ zH D A s.heap ([(om, .inr (3, [.int fp, .int fs, .int fr, .ref aSc, .ref aPt, .ref aDg, .ref aSu])), (aSc, .inl (cA, 4, .inr (.inl scf))), (aPt, .inl (cA, 4, .inr (.inl ptf))), (aDg, .inl (cI, 208, .inl dg)), (aSu, .inl (cA, 32, .inr (.inl g)))]) H locs ∧ lv_has ls 10 [(5, .int (nI k)), (3, .long o), (2, .int (nI i)), (0, .ref om), (1, .int (nI to))]) 16 ?_ ?_ ?_
    · exact ⟨f, 0, Jcar_0 f, ⟨hP, hD, hS⟩, hl⟩
    · rintro k H locs ls hk ⟨g, o, hC, ⟨hP, hD, hS⟩, hl⟩ ih2
      refine lv_iload hx hb dX3_store_12 (lv_at hl 0 rfl) ?_
      refine lv_bipush (v := nI 16) hx hb dX3_store_14 (by decide) ?_
      refine lv_icmp_ge (tgt := 55) hx hb dX3_store_16 (by decide) (fun c16 => absurd ((nI_leI (by omega) (by omega)).mp c16) (by omega)) (fun c16 => ?_)
      refine lv_aload_n hx hb dX3_store_19 rfl (lv_at hl 3 rfl) ?_
      refine va_get (D := D) (ci := 3) (v := .ref aSu) (C := RX3) (T := TX3) (N := 7) hx hb hts (by decide +kernel) hown hK hP 0 rfl rfl 6 (by decide) (hts (.fieldLink RX3 20 "LadderDeskModel" "sums" "[J") (by decide +kernel)) (fun _ h9 => h9) rfl dX3_store_20 ?_
      refine lv_iload hx hb dX3_store_23 (lv_at hl 0 rfl) ?_
      refine y_ld hx hb hK hP 4 0 rfl rfl k rfl (by omega) (by omega) dX3_store_25 ?_
      refine lv_topl (fun v25 e25 => ?_)
      refine lv_lload_n hx hb dX3_store_26 rfl (lv_at hl 1 rfl) ?_
      refine lv_ladd hx hb dX3_store_27 ?_
      refine lv_topl (fun v27 e27 => ?_)
      refine lv_lstore (lv' := [(6, .long v27), (5, .int (nI k)), (3, .long o), (2, .int (nI i)), (0, .ref om), (1, .int (nI to))]) hx hb dX3_store_28 hl (by decide) rfl (fun ls hl => ?_)
      refine lv_aload_n hx hb dX3_store_30 rfl (lv_at hl 4 rfl) ?_
      refine va_get (D := D) (ci := 3) (v := .ref aSu) (C := RX3) (T := TX3) (N := 7) hx hb hts (by decide +kernel) hown hK hP 0 rfl rfl 6 (by decide) (hts (.fieldLink RX3 20 "LadderDeskModel" "sums" "[J") (by decide +kernel)) (fun _ h9 => h9) rfl dX3_store_31 ?_
      refine lv_iload hx hb dX3_store_34 (lv_at hl 1 rfl) ?_
      refine lv_lload hx hb dX3_store_36 (lv_at hl 0 rfl) ?_
      refine lv_ldc2 (v := 65535) hx hb hown (hts (.constantLong RX3 33 (65535)) (by decide +kernel)) dX3_store_38 ?_
      refine lv_land hx hb dX3_store_41 ?_
      refine lv_topl (fun v41 e41 => ?_)
      refine y_st hx hb hK hP hD hS 4 0 rfl rfl k rfl (by omega) (by omega) dX3_store_42 (fun H locs hP hD hS => ?_)
      have hP : va_P D vwCl ([(om, .inr (3, [.int fp, .int fs, .int fr, .ref aSc, .ref aPt, .ref aDg, .ref aSu])), (aSc, .inl (cA, 4, .inr (.inl scf))), (aPt, .inl (cA, 4, .inr (.inl ptf))), (aDg, .inl (cI, 208, .inl dg)), (aSu, .inl (cA, 32, .inr (.inl (vp_updL g k v41))))]) H := hP
      have hD : va_D A ([(om, .inr (3, [.int fp, .int fs, .int fr, .ref aSc, .ref aPt, .ref aDg, .ref aSu])), (aSc, .inl (cA, 4, .inr (.inl scf))), (aPt, .inl (cA, 4, .inr (.inl ptf))), (aDg, .inl (cI, 208, .inl dg)), (aSu, .inl (cA, 32, .inr (.inl (vp_updL g k v41))))]) := hD
      refine lv_lload hx hb dX3_store_43 (lv_at hl 0 rfl) ?_
      refine lv_bipush (v := nI 16) hx hb dX3_store_45 (by decide) ?_
      refine lv_lshr hx hb dX3_store_47 rfl ?_
      refine lv_topl (fun v47 e47 => ?_)
      refine lv_lstore_n (lv' := [(3, .long v47), (6, .long v27), (5, .int (nI k)), (2, .int (nI i)), (0, .ref om), (1, .int (nI to))]) hx hb dX3_store_48 rfl hl (by decide) rfl (fun ls hl => ?_)
      refine lv_iinc (v := nI (k + 1)) (lv' := [(5, .int (nI (k + 1))), (3, .long v47), (6, .long v27), (2, .int (nI i)), (0, .ref om), (1, .int (nI to))]) hx hb dX3_store_49 hl (k := 2) rfl (by show nI _ + nI 1 = _; exact nI_add _ _) (by decide) rfl (fun ls hl => ?_)
      refine lv_goto (tgt := 12) hx hb dX3_store_52 (by decide) ?_
      exact ih2 _ _ _ ⟨_, _, Jcar_s (v := v27) hC (hJ.1 k hk) (by rw [e27, e25]) e41 e47, ⟨hP, hD, hS⟩, lv_sub hl [0, 1, 3, 4, 5] rfl⟩
    · rintro H locs ls ⟨g, o, hC, ⟨hP, hD, hS⟩, hl⟩
      refine lv_iload hx hb dX3_store_12 (lv_at hl 0 rfl) ?_
      refine lv_bipush (v := nI 16) hx hb dX3_store_14 (by decide) ?_
      refine lv_icmp_ge (tgt := 55) hx hb dX3_store_16 (by decide) (fun c16 => ?_) (fun c16 => absurd ((nI_leI (by omega) (by omega)).mpr (by omega)) c16)
      refine lv_lload_n hx hb dX3_store_55 rfl (lv_at hl 1 rfl) ?_
      refine lv_ldc2 (v := 2) hx hb hown (hts (.constantLong RX3 35 (2)) (by decide +kernel)) dX3_store_56 ?_
      refine lv_lmul hx hb dX3_store_59 ?_
      refine lv_topl (fun v59 e59 => ?_)
      refine lv_aload_n hx hb dX3_store_60 rfl (lv_at hl 3 rfl) ?_
      refine va_get (D := D) (ci := 3) (v := .ref aSu) (C := RX3) (T := TX3) (N := 7) hx hb hts (by decide +kernel) hown hK hP 0 rfl rfl 6 (by decide) (hts (.fieldLink RX3 20 "LadderDeskModel" "sums" "[J") (by decide +kernel)) (fun _ h9 => h9) rfl dX3_store_61 ?_
      refine lv_bipush (v := nI 15) hx hb dX3_store_64 (by decide) ?_
      refine y_ld hx hb hK hP 4 0 rfl rfl 15 rfl (by omega) (by omega) dX3_store_66 ?_
      refine lv_topl (fun v66 e66 => ?_)
      refine lv_bipush (v := nI 15) hx hb dX3_store_67 (by decide) ?_
      refine lv_lshr hx hb dX3_store_69 rfl ?_
      refine lv_topl (fun v69 e69 => ?_)
      refine lv_ladd hx hb dX3_store_70 ?_
      refine lv_topl (fun v70 e70 => ?_)
      refine lv_lstore (lv' := [(5, .long v70), (3, .long o), (2, .int (nI i)), (0, .ref om), (1, .int (nI to))]) hx hb dX3_store_71 hl (by decide) rfl (fun ls hl => ?_)
      refine lv_aload_n hx hb dX3_store_73 rfl (lv_at hl 3 rfl) ?_
      refine va_get (D := D) (ci := 3) (v := .ref aSu) (C := RX3) (T := TX3) (N := 7) hx hb hts (by decide +kernel) hown hK hP 0 rfl rfl 6 (by decide) (hts (.fieldLink RX3 20 "LadderDeskModel" "sums" "[J") (by decide +kernel)) (fun _ h9 => h9) rfl dX3_store_74 ?_
      refine lv_bipush (v := nI 15) hx hb dX3_store_77 (by decide) ?_
      refine lv_aload_n hx hb dX3_store_79 rfl (lv_at hl 3 rfl) ?_
      refine va_get (D := D) (ci := 3) (v := .ref aSu) (C := RX3) (T := TX3) (N := 7) hx hb hts (by decide +kernel) hown hK hP 0 rfl rfl 6 (by decide) (hts (.fieldLink RX3 20 "LadderDeskModel" "sums" "[J") (by decide +kernel)) (fun _ h9 => h9) rfl dX3_store_80 ?_
      refine lv_bipush (v := nI 15) hx hb dX3_store_83 (by decide) ?_
      refine y_ld hx hb hK hP 4 0 rfl rfl 15 rfl (by omega) (by omega) dX3_store_85 ?_
      refine lv_topl (fun v85 e85 => ?_)
      refine lv_ldc2 (v := 32767) hx hb hown (hts (.constantLong RX3 37 (32767)) (by decide +kernel)) dX3_store_86 ?_
      refine lv_land hx hb dX3_store_89 ?_
      refine lv_topl (fun v89 e89 => ?_)
      refine y_st hx hb hK hP hD hS 4 0 rfl rfl 15 rfl (by omega) (by omega) dX3_store_90 (fun H locs hP hD hS => ?_)
      have hP : va_P D vwCl ([(om, .inr (3, [.int fp, .int fs, .int fr, .ref aSc, .ref aPt, .ref aDg, .ref aSu])), (aSc, .inl (cA, 4, .inr (.inl scf))), (aPt, .inl (cA, 4, .inr (.inl ptf))), (aDg, .inl (cI, 208, .inl dg)), (aSu, .inl (cA, 32, .inr (.inl (vp_updL g 15 v89))))]) H := hP
      have hD : va_D A ([(om, .inr (3, [.int fp, .int fs, .int fr, .ref aSc, .ref aPt, .ref aDg, .ref aSu])), (aSc, .inl (cA, 4, .inr (.inl scf))), (aPt, .inl (cA, 4, .inr (.inl ptf))), (aDg, .inl (cI, 208, .inl dg)), (aSu, .inl (cA, 32, .inr (.inl (vp_updL g 15 v89))))]) := hD
      refine lv_aload_n hx hb dX3_store_91 rfl (lv_at hl 3 rfl) ?_
      refine va_get (D := D) (ci := 3) (v := .ref aSu) (C := RX3) (T := TX3) (N := 7) hx hb hts (by decide +kernel) hown hK hP 0 rfl rfl 6 (by decide) (hts (.fieldLink RX3 20 "LadderDeskModel" "sums" "[J") (by decide +kernel)) (fun _ h9 => h9) rfl dX3_store_92 ?_
      refine lv_iconst (v := nI 0) hx hb dX3_store_95 (by decide) ?_
      refine lv_aload_n hx hb dX3_store_96 rfl (lv_at hl 3 rfl) ?_
      refine va_get (D := D) (ci := 3) (v := .ref aSu) (C := RX3) (T := TX3) (N := 7) hx hb hts (by decide +kernel) hown hK hP 0 rfl rfl 6 (by decide) (hts (.fieldLink RX3 20 "LadderDeskModel" "sums" "[J") (by decide +kernel)) (fun _ h9 => h9) rfl dX3_store_97 ?_
      refine lv_iconst (v := nI 0) hx hb dX3_store_100 (by decide) ?_
      refine y_ld hx hb hK hP 4 0 rfl rfl 0 rfl (by omega) (by omega) dX3_store_101 ?_
      refine lv_topl (fun v101 e101 => ?_)
      refine lv_ldc2 (v := 19) hx hb hown (hts (.constantLong RX3 39 (19)) (by decide +kernel)) dX3_store_102 ?_
      refine lv_lload hx hb dX3_store_105 (lv_at hl 0 rfl) ?_
      refine lv_lmul hx hb dX3_store_107 ?_
      refine lv_topl (fun v107 e107 => ?_)
      refine lv_ladd hx hb dX3_store_108 ?_
      refine lv_topl (fun v108 e108 => ?_)
      refine y_st hx hb hK hP hD hS 4 0 rfl rfl 0 rfl (by omega) (by omega) dX3_store_109 (fun H locs hP hD hS => ?_)
      have hP : va_P D vwCl ([(om, .inr (3, [.int fp, .int fs, .int fr, .ref aSc, .ref aPt, .ref aDg, .ref aSu])), (aSc, .inl (cA, 4, .inr (.inl scf))), (aPt, .inl (cA, 4, .inr (.inl ptf))), (aDg, .inl (cI, 208, .inl dg)), (aSu, .inl (cA, 32, .inr (.inl (vp_updL (vp_updL g 15 v89) 0 v108))))]) H := hP
      have hD : va_D A ([(om, .inr (3, [.int fp, .int fs, .int fr, .ref aSc, .ref aPt, .ref aDg, .ref aSu])), (aSc, .inl (cA, 4, .inr (.inl scf))), (aPt, .inl (cA, 4, .inr (.inl ptf))), (aDg, .inl (cI, 208, .inl dg)), (aSu, .inl (cA, 32, .inr (.inl (vp_updL (vp_updL g 15 v89) 0 v108))))]) := hD
      refine lv_iinc (v := nI (i + 1)) (lv' := [(2, .int (nI (i + 1))), (5, .long v70), (3, .long o), (0, .ref om), (1, .int (nI to))]) hx hb dX3_store_110 hl (k := 2) rfl (by show nI _ + nI 1 = _; exact nI_add _ _) (by decide) rfl (fun ls hl => ?_)
      refine lv_goto (tgt := 2) hx hb dX3_store_113 (by decide) ?_
      have e101 : v101 = g 0 := by rw [e101]; unfold vp_updL; rw [if_neg (by omega)]
      exact ih _ _ _ ⟨_, Jt_s hJ (Jcar_t (a2 := v59) (b := v69) (ab := v70) (z := v89) (c := v107) (d := v108) hC e59 (by rw [e69, e66]) e70 (by rw [e89, e85]) e107 (by rw [e108, e101])), ⟨hP, hD, hS⟩, lv_sub hl [0, 3, 4] rfl⟩
  · rintro H locs ls ⟨f, hJ, ⟨hP, hD, hS⟩, hl⟩
    have hJ2 := hJ.2.2.2 (by omega)
    refine lv_iload_n hx hb dX3_store_2 rfl (lv_at hl 0 rfl) ?_
    refine lv_iconst (v := nI 3) hx hb dX3_store_3 (by decide) ?_
    refine lv_icmp_ge (tgt := 116) hx hb dX3_store_4 (by decide) (fun c4 => ?_) (fun c4 => absurd ((nI_leI (by omega) (by omega)).mpr (by omega)) c4)
    refine lv_lconst (v := 0) hx hb dX3_store_116 (by decide) ?_
    refine lv_lstore_n (lv' := [(2, .long 0), (0, .ref om), (1, .int (nI to))]) hx hb dX3_store_117 rfl hl (by decide) rfl (fun ls hl => ?_)
    refine lv_iconst (v := nI 0) hx hb dX3_store_118 (by decide) ?_
    refine lv_istore (lv' := [(4, .int (nI 0)), (2, .long 0), (0, .ref om), (1, .int (nI to))]) hx hb dX3_store_119 hl (by decide) rfl (fun ls hl => ?_)
    refine z_loop (fun k H locs ls => ∃ (g : Nat → Int64) (o : Int64), Jcar f g k o ∧ zH D A s.heap ([(om, .inr (3, [.int fp, .int fs, .int fr, .ref aSc, .ref aPt, .ref aDg, .ref aSu])), (aSc, .inl (cA, 4, .inr (.inl scf))), (aPt, .inl (cA, 4, .inr (.inl ptf))), (aDg, .inl (cI, 208, .inl dg)), (aSu, .inl (cA, 32, .inr (.inl g)))]) H locs ∧ lv_has ls 10 [(4, .int (nI k)), (2, .long o), (0, .ref om), (1, .int (nI to))]) 16 ?_ ?_ ?_
    · exact ⟨f, 0, Jcar_0 f, ⟨hP, hD, hS⟩, lv_sub hl [0, 1, 2, 3] rfl⟩
    · rintro k H locs ls hk ⟨g, o, hC, ⟨hP, hD, hS⟩, hl⟩ ih2
      refine lv_iload hx hb dX3_store_121 (lv_at hl 0 rfl) ?_
      refine lv_bipush (v := nI 16) hx hb dX3_store_123 (by decide) ?_
      refine lv_icmp_ge (tgt := 164) hx hb dX3_store_125 (by decide) (fun c125 => absurd ((nI_leI (by omega) (by omega)).mp c125) (by omega)) (fun c125 => ?_)
      refine lv_aload_n hx hb dX3_store_128 rfl (lv_at hl 2 rfl) ?_
      refine va_get (D := D) (ci := 3) (v := .ref aSu) (C := RX3) (T := TX3) (N := 7) hx hb hts (by decide +kernel) hown hK hP 0 rfl rfl 6 (by decide) (hts (.fieldLink RX3 20 "LadderDeskModel" "sums" "[J") (by decide +kernel)) (fun _ h9 => h9) rfl dX3_store_129 ?_
      refine lv_iload hx hb dX3_store_132 (lv_at hl 0 rfl) ?_
      refine y_ld hx hb hK hP 4 0 rfl rfl k rfl (by omega) (by omega) dX3_store_134 ?_
      refine lv_topl (fun v134 e134 => ?_)
      refine lv_lload_n hx hb dX3_store_135 rfl (lv_at hl 1 rfl) ?_
      refine lv_ladd hx hb dX3_store_136 ?_
      refine lv_topl (fun v136 e136 => ?_)
      refine lv_lstore (lv' := [(5, .long v136), (4, .int (nI k)), (2, .long o), (0, .ref om), (1, .int (nI to))]) hx hb dX3_store_137 hl (by decide) rfl (fun ls hl => ?_)
      refine lv_aload_n hx hb dX3_store_139 rfl (lv_at hl 3 rfl) ?_
      refine va_get (D := D) (ci := 3) (v := .ref aSu) (C := RX3) (T := TX3) (N := 7) hx hb hts (by decide +kernel) hown hK hP 0 rfl rfl 6 (by decide) (hts (.fieldLink RX3 20 "LadderDeskModel" "sums" "[J") (by decide +kernel)) (fun _ h9 => h9) rfl dX3_store_140 ?_
      refine lv_iload hx hb dX3_store_143 (lv_at hl 1 rfl) ?_
      refine lv_lload hx hb dX3_store_145 (lv_at hl 0 rfl) ?_
      refine lv_ldc2 (v := 65535) hx hb hown (hts (.constantLong RX3 33 (65535)) (by decide +kernel)) dX3_store_147 ?_
      refine lv_land hx hb dX3_store_150 ?_
      refine lv_topl (fun v150 e150 => ?_)
      refine y_st hx hb hK hP hD hS 4 0 rfl rfl k rfl (by omega) (by omega) dX3_store_151 (fun H locs hP hD hS => ?_)
      have hP : va_P D vwCl ([(om, .inr (3, [.int fp, .int fs, .int fr, .ref aSc, .ref aPt, .ref aDg, .ref aSu])), (aSc, .inl (cA, 4, .inr (.inl scf))), (aPt, .inl (cA, 4, .inr (.inl ptf))), (aDg, .inl (cI, 208, .inl dg)), (aSu, .inl (cA, 32, .inr (.inl (vp_updL g k v150))))]) H := hP
      have hD : va_D A ([(om, .inr (3, [.int fp, .int fs, .int fr, .ref aSc, .ref aPt, .ref aDg, .ref aSu])), (aSc, .inl (cA, 4, .inr (.inl scf))), (aPt, .inl (cA, 4, .inr (.inl ptf))), (aDg, .inl (cI, 208, .inl dg)), (aSu, .inl (cA, 32, .inr (.inl (vp_updL g k v150))))]) := hD
      refine lv_lload hx hb dX3_store_152 (lv_at hl 0 rfl) ?_
      refine lv_bipush (v := nI 16) hx hb dX3_store_154 (by decide) ?_
      refine lv_lshr hx hb dX3_store_156 rfl ?_
      refine lv_topl (fun v156 e156 => ?_)
      refine lv_lstore_n (lv' := [(2, .long v156), (5, .long v136), (4, .int (nI k)), (0, .ref om), (1, .int (nI to))]) hx hb dX3_store_157 rfl hl (by decide) rfl (fun ls hl => ?_)
      refine lv_iinc (v := nI (k + 1)) (lv' := [(4, .int (nI (k + 1))), (2, .long v156), (5, .long v136), (0, .ref om), (1, .int (nI to))]) hx hb dX3_store_158 hl (k := 2) rfl (by show nI _ + nI 1 = _; exact nI_add _ _) (by decide) rfl (fun ls hl => ?_)
      refine lv_goto (tgt := 121) hx hb dX3_store_161 (by decide) ?_
      exact ih2 _ _ _ ⟨_, _, Jcar_s (v := v136) hC (hJ.1 k hk) (by rw [e136, e134]) e150 e156, ⟨hP, hD, hS⟩, lv_sub hl [0, 1, 3, 4] rfl⟩
    · rintro H locs ls ⟨g, o, hC, ⟨hP, hD, hS⟩, hl⟩
      obtain ⟨hG1, hG2⟩ := Jcar_e hC hJ2
      refine lv_iload hx hb dX3_store_121 (lv_at hl 0 rfl) ?_
      refine lv_bipush (v := nI 16) hx hb dX3_store_123 (by decide) ?_
      refine lv_icmp_ge (tgt := 164) hx hb dX3_store_125 (by decide) (fun c125 => ?_) (fun c125 => absurd ((nI_leI (by omega) (by omega)).mpr (by omega)) c125)
      refine lv_aload_n hx hb dX3_store_164 rfl (lv_at hl 2 rfl) ?_
      refine z_calli (va_runV (As := []) (rest := []) ⟨hx, hb, hml, hown, hts⟩ (m_isGreat l D cA cI tys om aSc aPt aDg aSu fp fs fr scf ptf dg g hG1 _) (cwV 0 hts gX3_store_X3_isGreat rfl rfl rfl (by decide +kernel) ⟨Nat.le_of_ble_eq_true rfl, Nat.le_of_ble_eq_true rfl⟩) (z_preV _ hK hP hD (ci := 3) (q0 := 0) rfl rfl) rfl rfl hl.1 rfl (lv_room (Nat.le_of_ble_eq_true rfl)) dX3_store_165 ⟨Nat.le_of_ble_eq_true rfl, Nat.le_of_ble_eq_true rfl⟩) hD hS hA (fun r165 u H locs hu hP hD hS => ?_)
      obtain ⟨⟨gr, hgr, hr165⟩, rfl⟩ := hu
      refine lv_istore (lv' := [(4, .int r165), (2, .long o), (0, .ref om), (1, .int (nI to))]) hx hb dX3_store_168 hl (by decide) rfl (fun ls hl => ?_)
      refine lv_lconst (v := 0) hx hb dX3_store_170 (by decide) ?_
      refine lv_lstore (lv' := [(5, .long 0), (4, .int r165), (2, .long o), (0, .ref om), (1, .int (nI to))]) hx hb dX3_store_171 hl (by decide) rfl (fun ls hl => ?_)
      refine lv_iconst (v := nI 0) hx hb dX3_store_173 (by decide) ?_
      refine lv_istore (lv' := [(7, .int (nI 0)), (5, .long 0), (4, .int r165), (2, .long o), (0, .ref om), (1, .int (nI to))]) hx hb dX3_store_174 hl (by decide) rfl (fun ls hl => ?_)
      refine z_loop (fun k H locs ls => ∃ (dg' : Nat → Int32) (o : Int64), Jst (fI g) gr dg dg' to k o ∧ zH D A s.heap ([(om, .inr (3, [.int fp, .int fs, .int fr, .ref aSc, .ref aPt, .ref aDg, .ref aSu])), (aSc, .inl (cA, 4, .inr (.inl scf))), (aPt, .inl (cA, 4, .inr (.inl ptf))), (aDg, .inl (cI, 208, .inl dg')), (aSu, .inl (cA, 32, .inr (.inl g)))]) H locs ∧ lv_has ls 10 [(7, .int (nI k)), (5, .long o), (4, .int r165), (0, .ref om), (1, .int (nI to))]) 16 ?_ ?_ ?_
      · exact ⟨dg, 0, Jst_0 _ gr dg to, ⟨hP, hD, hS⟩, lv_sub hl [0, 1, 2, 4, 5] rfl⟩
      · rintro k H locs ls hk ⟨dg', o, hC2, ⟨hP, hD, hS⟩, hl⟩ ih2
        refine lv_iload hx hb dX3_store_176 (lv_at hl 0 rfl) ?_
        refine lv_bipush (v := nI 16) hx hb dX3_store_178 (by decide) ?_
        refine lv_icmp_ge (tgt := 243) hx hb dX3_store_180 (by decide) (fun c180 => absurd ((nI_leI (by omega) (by omega)).mp c180) (by omega)) (fun c180 => ?_)
        refine lv_aload_n hx hb dX3_store_183 rfl (lv_at hl 3 rfl) ?_
        refine va_get (D := D) (ci := 3) (v := .ref aSu) (C := RX3) (T := TX3) (N := 7) hx hb hts (by decide +kernel) hown hK hP 0 rfl rfl 6 (by decide) (hts (.fieldLink RX3 20 "LadderDeskModel" "sums" "[J") (by decide +kernel)) (fun _ h9 => h9) rfl dX3_store_184 ?_
        refine lv_iload hx hb dX3_store_187 (lv_at hl 0 rfl) ?_
        refine y_ld hx hb hK hP 4 0 rfl rfl k rfl (by omega) (by omega) dX3_store_189 ?_
        refine lv_topl (fun v189 e189 => ?_)
        refine lv_iload hx hb dX3_store_190 (lv_at hl 2 rfl) ?_
        refine lv_if_eq (tgt := 203) hx hb dX3_store_192 (by decide) (fun c192 => ?_) (fun c192 => ?_)
        · have hf : gr = false := by cases gr with | false => rfl | true => rw [hr165] at c192; exact absurd c192 (by decide)
          refine lv_iconst (v := nI 0) hx hb dX3_store_203 (by decide) ?_
          refine lv_i2l hx hb dX3_store_204 rfl ?_
          refine lv_topl (fun v204 e204 => ?_)
          refine lv_lsub hx hb dX3_store_205 ?_
          refine lv_topl (fun v205 e205 => ?_)
          refine lv_lload hx hb dX3_store_206 (lv_at hl 1 rfl) ?_
          refine lv_ladd hx hb dX3_store_208 ?_
          refine lv_topl (fun v208 e208 => ?_)
          refine lv_lstore (lv' := [(8, .long v208), (7, .int (nI k)), (5, .long o), (4, .int r165), (0, .ref om), (1, .int (nI to))]) hx hb dX3_store_209 hl (by decide) rfl (fun ls hl => ?_)
          refine lv_aload_n hx hb dX3_store_211 rfl (lv_at hl 4 rfl) ?_
          refine va_get (D := D) (ci := 3) (v := .ref aDg) (C := RX3) (T := TX3) (N := 7) hx hb hts (by decide +kernel) hown hK hP 0 rfl rfl 5 (by decide) (hts (.fieldLink RX3 16 "LadderDeskModel" "digits" "[I") (by decide +kernel)) (fun _ h9 => h9) rfl dX3_store_212 ?_
          refine lv_bipush (v := nI 16) hx hb dX3_store_215 (by decide) ?_
          refine lv_iload_n hx hb dX3_store_217 rfl (lv_at hl 5 rfl) ?_
          refine lv_imul hx hb dX3_store_218 ?_
          refine zi (pk_mul _ _) ?_
          refine lv_iload hx hb dX3_store_219 (lv_at hl 1 rfl) ?_
          refine lv_iadd hx hb dX3_store_221 ?_
          refine zi (nI_add _ _) ?_
          refine lv_lload hx hb dX3_store_222 (lv_at hl 0 rfl) ?_
          refine lv_ldc2 (v := 65535) hx hb hown (hts (.constantLong RX3 33 (65535)) (by decide +kernel)) dX3_store_224 ?_
          refine lv_land hx hb dX3_store_227 ?_
          refine lv_topl (fun v227 e227 => ?_)
          refine lv_l2i hx hb dX3_store_228 rfl ?_
          refine lv_topi (fun v228 e228 => ?_)
          refine y_sti hx hb hK hP hD hS 3 1 rfl rfl ((16 * to) + k) rfl (by omega) (by omega) dX3_store_229 (fun H locs hP hD hS => ?_)
          have hP : va_P D vwCl ([(om, .inr (3, [.int fp, .int fs, .int fr, .ref aSc, .ref aPt, .ref aDg, .ref aSu])), (aSc, .inl (cA, 4, .inr (.inl scf))), (aPt, .inl (cA, 4, .inr (.inl ptf))), (aDg, .inl (cI, 208, .inl (upd dg' ((16 * to) + k) v228))), (aSu, .inl (cA, 32, .inr (.inl g)))]) H := hP
          have hD : va_D A ([(om, .inr (3, [.int fp, .int fs, .int fr, .ref aSc, .ref aPt, .ref aDg, .ref aSu])), (aSc, .inl (cA, 4, .inr (.inl scf))), (aPt, .inl (cA, 4, .inr (.inl ptf))), (aDg, .inl (cI, 208, .inl (upd dg' ((16 * to) + k) v228))), (aSu, .inl (cA, 32, .inr (.inl g)))]) := hD
          refine lv_lload hx hb dX3_store_230 (lv_at hl 0 rfl) ?_
          refine lv_bipush (v := nI 16) hx hb dX3_store_232 (by decide) ?_
          refine lv_lshr hx hb dX3_store_234 rfl ?_
          refine lv_topl (fun v234 e234 => ?_)
          refine lv_lstore (lv' := [(5, .long v234), (8, .long v208), (7, .int (nI k)), (4, .int r165), (0, .ref om), (1, .int (nI to))]) hx hb dX3_store_235 hl (by decide) rfl (fun ls hl => ?_)
          refine lv_iinc (v := nI (k + 1)) (lv' := [(7, .int (nI (k + 1))), (5, .long v234), (8, .long v208), (4, .int r165), (0, .ref om), (1, .int (nI to))]) hx hb dX3_store_237 hl (k := 2) rfl (by show nI _ + nI 1 = _; exact nI_add _ _) (by decide) rfl (fun ls hl => ?_)
          refine lv_goto (tgt := 176) hx hb dX3_store_240 (by decide) ?_
          exact ih2 _ _ _ ⟨_, _, Jst_s (x := v189) (y := v204) (z := v205) (lf := v208) (r := v227) hC2 hk (hG1 k hk) (by rw [e189]; rfl) (by rw [e204, tl_i2l, hf]; rfl) e205 e208 e227 e228 e234, ⟨hP, hD, hS⟩, lv_sub hl [0, 1, 3, 4, 5] rfl⟩
        · have hf : gr = true := by cases gr with | true => rfl | false => rw [hr165] at c192; exact absurd rfl c192
          refine lv_iload hx hb dX3_store_195 (lv_at hl 0 rfl) ?_
          refine z_calli (va_runS (As := [.int (nI k)]) (rest := [.long v189]) ⟨hx, hb, hml, hown, hts⟩ (c_ofP l D ((cA, .long) :: (cI, .int) :: tys) _ k (by omega) _) (va_cwS 1 hts gX3_store_X3_ofP rfl rfl rfl (by decide +kernel) ⟨Nat.le_of_ble_eq_true rfl, Nat.le_of_ble_eq_true rfl⟩) (z_preS _ hK hP hD) rfl rfl hl.1 rfl (lv_room (Nat.le_of_ble_eq_true rfl)) dX3_store_197 ⟨Nat.le_of_ble_eq_true rfl, Nat.le_of_ble_eq_true rfl⟩) hD hS hA (fun r197 u H locs hu hP hD hS => ?_)
          obtain ⟨rfl, ho197⟩ := hu
          refine lv_goto (tgt := 204) hx hb dX3_store_200 (by decide) ?_
          refine lv_i2l hx hb dX3_store_204 rfl ?_
          refine lv_topl (fun v204 e204 => ?_)
          refine lv_lsub hx hb dX3_store_205 ?_
          refine lv_topl (fun v205 e205 => ?_)
          refine lv_lload hx hb dX3_store_206 (lv_at hl 1 rfl) ?_
          refine lv_ladd hx hb dX3_store_208 ?_
          refine lv_topl (fun v208 e208 => ?_)
          refine lv_lstore (lv' := [(8, .long v208), (7, .int (nI k)), (5, .long o), (4, .int r165), (0, .ref om), (1, .int (nI to))]) hx hb dX3_store_209 hl (by decide) rfl (fun ls hl => ?_)
          refine lv_aload_n hx hb dX3_store_211 rfl (lv_at hl 4 rfl) ?_
          refine va_get (D := D) (ci := 3) (v := .ref aDg) (C := RX3) (T := TX3) (N := 7) hx hb hts (by decide +kernel) hown hK hP 0 rfl rfl 5 (by decide) (hts (.fieldLink RX3 16 "LadderDeskModel" "digits" "[I") (by decide +kernel)) (fun _ h9 => h9) rfl dX3_store_212 ?_
          refine lv_bipush (v := nI 16) hx hb dX3_store_215 (by decide) ?_
          refine lv_iload_n hx hb dX3_store_217 rfl (lv_at hl 5 rfl) ?_
          refine lv_imul hx hb dX3_store_218 ?_
          refine zi (pk_mul _ _) ?_
          refine lv_iload hx hb dX3_store_219 (lv_at hl 1 rfl) ?_
          refine lv_iadd hx hb dX3_store_221 ?_
          refine zi (nI_add _ _) ?_
          refine lv_lload hx hb dX3_store_222 (lv_at hl 0 rfl) ?_
          refine lv_ldc2 (v := 65535) hx hb hown (hts (.constantLong RX3 33 (65535)) (by decide +kernel)) dX3_store_224 ?_
          refine lv_land hx hb dX3_store_227 ?_
          refine lv_topl (fun v227 e227 => ?_)
          refine lv_l2i hx hb dX3_store_228 rfl ?_
          refine lv_topi (fun v228 e228 => ?_)
          refine y_sti hx hb hK hP hD hS 3 1 rfl rfl ((16 * to) + k) rfl (by omega) (by omega) dX3_store_229 (fun H locs hP hD hS => ?_)
          have hP : va_P D vwCl ([(om, .inr (3, [.int fp, .int fs, .int fr, .ref aSc, .ref aPt, .ref aDg, .ref aSu])), (aSc, .inl (cA, 4, .inr (.inl scf))), (aPt, .inl (cA, 4, .inr (.inl ptf))), (aDg, .inl (cI, 208, .inl (upd dg' ((16 * to) + k) v228))), (aSu, .inl (cA, 32, .inr (.inl g)))]) H := hP
          have hD : va_D A ([(om, .inr (3, [.int fp, .int fs, .int fr, .ref aSc, .ref aPt, .ref aDg, .ref aSu])), (aSc, .inl (cA, 4, .inr (.inl scf))), (aPt, .inl (cA, 4, .inr (.inl ptf))), (aDg, .inl (cI, 208, .inl (upd dg' ((16 * to) + k) v228))), (aSu, .inl (cA, 32, .inr (.inl g)))]) := hD
          refine lv_lload hx hb dX3_store_230 (lv_at hl 0 rfl) ?_
          refine lv_bipush (v := nI 16) hx hb dX3_store_232 (by decide) ?_
          refine lv_lshr hx hb dX3_store_234 rfl ?_
          refine lv_topl (fun v234 e234 => ?_)
          refine lv_lstore (lv' := [(5, .long v234), (8, .long v208), (7, .int (nI k)), (4, .int r165), (0, .ref om), (1, .int (nI to))]) hx hb dX3_store_235 hl (by decide) rfl (fun ls hl => ?_)
          refine lv_iinc (v := nI (k + 1)) (lv' := [(7, .int (nI (k + 1))), (5, .long v234), (8, .long v208), (4, .int r165), (0, .ref om), (1, .int (nI to))]) hx hb dX3_store_237 hl (k := 2) rfl (by show nI _ + nI 1 = _; exact nI_add _ _) (by decide) rfl (fun ls hl => ?_)
          refine lv_goto (tgt := 176) hx hb dX3_store_240 (by decide) ?_
          exact ih2 _ _ _ ⟨_, _, Jst_s (x := v189) (y := v204) (z := v205) (lf := v208) (r := v227) hC2 hk (hG1 k hk) (by rw [e189]; rfl) (by rw [e204, tl_i2l, hf, ho197]; rfl) e205 e208 e227 e228 e234, ⟨hP, hD, hS⟩, lv_sub hl [0, 1, 3, 4, 5] rfl⟩
      · rintro H locs ls ⟨dg', o, hC2, ⟨hP, hD, hS⟩, hl⟩
        refine lv_iload hx hb dX3_store_176 (lv_at hl 0 rfl) ?_
        refine lv_bipush (v := nI 16) hx hb dX3_store_178 (by decide) ?_
        refine lv_icmp_ge (tgt := 243) hx hb dX3_store_180 (by decide) (fun c180 => ?_) (fun c180 => absurd ((nI_leI (by omega) (by omega)).mpr (by omega)) c180)
        have hE := Jst_e hC2 (sv_nn (by decide) (fun j hj => (hG1 j hj).1)) (by omega) hgr
        rw [hG2, cg_emod hJ.2.1] at hE
        exact z_vret hx hb hr hlocks dX3_store_243 hK hP hD hS (⟨dg', g, hC2.2.1, hE, rfl⟩)
