/-! THE CLAIM OUT OF ONE WALK OF THE LAW'S BODY. Your part is whole_start (and what it stands on); all else here is the same for every law, but numbers. -/
def R_law : String := "LadderDeskLaw"
def lw_P (b : Addr) (xs : List Int32) (args : Array Value) (s : State) : Prop := args = #[.ref b] ∧ s.IntsAt b xs ∧ xs.length ≤ 2048 ∧ (Jvm.Cond.and given_1 narrow_1).before args s = true
def lw_Q (_ : Array Value) (s : State) (o : Outcome) (t : State) : Prop := o = .returned (some (.int 1)) ∧ Framed s o t [] 600000 7302250
def lw_Z (below : List Frame) (a : Array Value) (s : State) : State → Prop := fun t => ∃ o, t.status = .running ∧ Ended t below o ∧ lw_Q a s o t
/-- the law's own end, with 1 on the stack, nothing written that was there before, its room as the claim has it -/
theorem lw_ret {p : Program} {l : Launch} {e : Env} {s : State} {m : MethodId} {below : List Frame} {meth : Method} {c : Code} {b : Nat} (hx : p.tables.exec = Jvm.exec) (hb : c.code = code) (hr : meth.sig.returnType = ret) (hlocks : meth.locks = false) {pc : Nat} {H : Heap} {ls : Array Slot} (hdg : decode code pc = .ok (.ireturn, 1)) : W p l e room_1 s m #[Value.ref b] below meth c H [] 600000 7302250 (lw_Z below #[Value.ref b] s) (F0 m pc ls [.int 1]) := by
  intro T hT X
  obtain ⟨fs, hret, hrun, hended, hW, hframe⟩ := X.leave (v := some (.int 1)) (hlocks := hlocks) (fun h => by rw [hr] at h; cases h)
  have hmeth' : T.vm.method? m = some meth := X.method'
  refine ⟨T.setFrames fs, ?_, .returned (some (.int 1)), hrun, hended, rfl, ⟨_, rfl⟩, hW, hframe⟩
  jvm_step X.here [X.here.top, hx, hb, hdg, hmeth', hr, ret, narrow_b1]
  (try refine ⟨rfl, ?_⟩); (try refine ⟨rfl, ?_⟩)
  first | (intro acts; rw [hret _ acts rfl rfl rfl]) | rw [hret _ _ rfl rfl rfl]
  exact Steps.refl _
/-- what holds at the law's entry: the machine, the code, the tables' words (any of lw_tbl by 'hts w (by decide +kernel)'), the script of L ints xs at the cell b, what the Statement gives of the start (any of its parts by flat_of_before) -/
def lw_At (p : Program) (s : State) (m : MethodId) (meth : Method) (c : Code) (b L : Nat) (xs : Nat → Int32) : Prop :=
  p.tables.exec = Jvm.exec ∧ c.code = code ∧ meth.sig.returnType = ret ∧ c.maxLocals = 4 ∧ s.vm.findClass R_law = some m.cls ∧ (∀ w ∈ lw_tbl, w.before #[Value.ref b] s = true) ∧ va_X b L xs s s.heap ∧ b < s.heap.size ∧ meth.locks = false ∧ (Jvm.Cond.and given_1 narrow_1).before #[Value.ref b] s = true
theorem CI_recv {cA : ClassId} {od ph st : Nat} {rs : Int32} {sc pt : Nat → Int64} {ws : va_W} (h : CI cA od ph st rs sc pt ws) : ∃ fs : List Value, ws[0]? = some (od, .inr (2, fs)) := by
  obtain ⟨ol, hf, L, n, t, q, wd, wh, aU, aA, aB, aC, aD, aE, aAA, aBB, aDA, aCB, aSP, aLE, aRI, x2, z2, x3, z3, aSC, aPT, aRS, aAN, rfl, -⟩ := h
  exact ⟨_, rfl⟩
theorem MI_recv {cA cI : ClassId} {om ph st : Nat} {rs : Int32} {sc pt : Nat → Int64} {ws : va_W} (h : MI cA cI om ph st rs sc pt ws) : ∃ fs : List Value, ws[0]? = some (om, .inr (3, fs)) := by
  obtain ⟨aSc, aPt, aDg, aSu, scf, ptf, dg, su, rfl, -⟩ := h
  exact ⟨_, rfl⟩
theorem P_swap {D : va_G} {a b : va_W} {H : Heap} (h : va_P D vwCl (a ++ b) H) : va_P D vwCl (b ++ a) H := va_P.swap (a := []) (b := a) (c := b) h
theorem D_swap {A : Nat → Prop} {a b : va_W} (h : va_D A (a ++ b)) : va_D A (b ++ a) := va_D.swap (a := []) (b := a) (c := b) h
section ZSL
variable {p : Program} {l : Launch} {e : Env} {R : Room} {s : State} {m : MethodId} {args : Array Value} {below : List Frame} {meth : Method} {c : Code} {H : Heap} {locs : List Loc} {cells slots : Nat} {Q : State → Prop} {cc : ByteArray} {pc : Nat} {ls : Array Slot} {rest : List Value} {A : Nat → Prop} {H0 : Heap}
theorem z_sl (hexec : p.tables.exec = Jvm.exec) (hb : c.code = cc) {b L : Nat} {xs : Nat → Int32} (hX : va_X b L xs s H0) (hbl : b < H0.size) (hbA : ¬ A b) (hS : va_S A H0 H locs) (j : Nat) (hj : j < L) (hL : L ≤ 2048) (hdg : decode cc pc = .ok (.iaload, 1))
    (kk : W p l e R s m args below meth c H locs cells slots Q (F0 m (pc + 1) ls (.int (xs j) :: rest))) : W p l e R s m args below meth c H locs cells slots Q (F0 m pc ls (.int (nI j) :: .ref b :: rest)) := by
  refine va_sld hexec hb hX hbl hbA hS (vp_in_nI hj (by omega)) hdg ?_
  rw [nI_clamp (by omega)]
  exact kk
end ZSL
/-- what holds at the head of the law's loop -/
def LI (D : va_G) (cA cI : ClassId) (s : State) (b od om : Nat) (i : Nat) (H : Heap) (locs : List Loc) (ls : Array Slot) : Prop := ∃ (ph st : Nat) (rs : Int32) (sc pt : Nat → Int64) (wsC wsM : va_W), CI cA od ph st rs sc pt wsC ∧ MI cA cI om ph st rs sc pt wsM ∧ zH D (fun q : Nat => s.heap.size ≤ q) s.heap (wsM ++ wsC) H locs ∧ lv_has ls 4 [(3, .int (nI (4 * i))), (0, .ref b), (1, .ref od), (2, .ref om)]
set_option maxRecDepth 100000 in
set_option maxHeartbeats 4000000 in
theorem law_scalar {p : Program} {l : Launch} {e : Env} {s : State} {m : MethodId} {below : List Frame} {meth : Method} {c : Code} {D : va_G} {cA cI : ClassId} {b L od om : Nat} {xs : Nat → Int32} (hL : L ≤ 2048) (C0 : lw_At p s m meth c b L xs) (hK : va_K D vwCl [(cA, .long), (cI, .int)] s) {i : Nat} (hi : 4 * i + 4 ≤ L) {H : Heap} {locs : List Loc} {ls : Array Slot} {ph st : Nat} {rs : Int32} {sc pt : Nat → Int64} {wsC wsM : va_W} (hC : CI cA od ph st rs sc pt wsC) (hM : MI cA cI om ph st rs sc pt wsM) (hH : zH D (fun q : Nat => s.heap.size ≤ q) s.heap (wsM ++ wsC) H locs) (hl : lv_has ls 4 [(3, .int (nI (4 * i))), (0, .ref b), (1, .ref od), (2, .ref om)])
    (kk : ∀ (H : Heap) (locs : List Loc) (ls : Array Slot), LI D cA cI s b od om (i + 1) H locs ls → W p l e room_1 s m #[Value.ref b] below meth c H locs 31 487 (lw_Z below #[Value.ref b] s) (F0 m 18 ls [])) : W p l e room_1 s m #[Value.ref b] below meth c H locs 31 487 (lw_Z below #[Value.ref b] s) (F0 m 100 ls []) := by
  obtain ⟨hx, hb, hr, hml, hown, hts, hX, hbl, hlocks, hgv⟩ := id C0
  have hts := fun w h => hts w (wsL_law_in w h)
  have hown : s.vm.findClass RL = some m.cls := hown
  have hA : ∀ q : Nat, s.heap.size ≤ q → (fun q : Nat => s.heap.size ≤ q) q := fun _ h => h
  have hbA : ¬ (fun q : Nat => s.heap.size ≤ q) b := Nat.not_le.mpr hbl
  obtain ⟨hP, hD, hS⟩ := hH
  refine lv_aload_n hx hb dL_law_100 rfl (lv_at hl 2 rfl) ?_
  refine lv_aload_n hx hb dL_law_101 rfl (lv_at hl 1 rfl) ?_
  refine lv_iload_n hx hb dL_law_102 rfl (lv_at hl 0 rfl) ?_
  refine lv_iconst (v := nI 1) hx hb dL_law_103 (by decide) ?_
  refine lv_iadd hx hb dL_law_104 ?_
  refine zi (nI_add _ _) ?_
  refine z_sl hx hb hX hbl hbA hS ((4 * i) + 1) (by omega) hL dL_law_105 ?_
  refine lv_aload_n hx hb dL_law_106 rfl (lv_at hl 1 rfl) ?_
  refine lv_iload_n hx hb dL_law_107 rfl (lv_at hl 0 rfl) ?_
  refine lv_iconst (v := nI 2) hx hb dL_law_108 (by decide) ?_
  refine lv_iadd hx hb dL_law_109 ?_
  refine zi (nI_add _ _) ?_
  refine z_sl hx hb hX hbl hbA hS ((4 * i) + 2) (by omega) hL dL_law_110 ?_
  refine lv_i2l hx hb dL_law_111 rfl ?_
  refine lv_topl (fun v111 e111 => ?_)
  refine lv_bipush (v := nI 32) hx hb dL_law_112 (by decide) ?_
  refine lv_lshl hx hb dL_law_114 rfl ?_
  refine lv_topl (fun v114 e114 => ?_)
  refine lv_aload_n hx hb dL_law_115 rfl (lv_at hl 1 rfl) ?_
  refine lv_iload_n hx hb dL_law_116 rfl (lv_at hl 0 rfl) ?_
  refine lv_iconst (v := nI 3) hx hb dL_law_117 (by decide) ?_
  refine lv_iadd hx hb dL_law_118 ?_
  refine zi (nI_add _ _) ?_
  refine z_sl hx hb hX hbl hbA hS ((4 * i) + 3) (by omega) hL dL_law_119 ?_
  refine lv_i2l hx hb dL_law_120 rfl ?_
  refine lv_topl (fun v120 e120 => ?_)
  refine lv_ldc2 (v := 4294967295) hx hb hown (hts (.constantLong RL 13 (4294967295)) (by decide +kernel)) dL_law_121 ?_
  refine lv_land hx hb dL_law_124 ?_
  refine lv_topl (fun v124 e124 => ?_)
  refine lv_lor hx hb dL_law_125 ?_
  refine lv_topl (fun v125 e125 => ?_)
  obtain ⟨fs126, hfs126⟩ := CI_recv hC
  refine z_fcalli (wr := wsM) (wc := wsC) (va_runV (As := [.int (xs ((4 * i) + 1)), .long v125]) (rest := []) ⟨hx, hb, hml, hown, hts⟩ (C_scalar l D cA [(cI, .int)] od ph st rs sc pt wsC hC (xs ((4 * i) + 1)) v125 _) (cwV 2 hts gL_law_X2_scalar rfl rfl rfl (by decide +kernel) ⟨Nat.le_of_ble_eq_true rfl, Nat.le_of_ble_eq_true rfl⟩) (z_preV _ hK (va_P.rt hP) (va_D.rt hD) (ci := 2) (q0 := 0) rfl hfs126) rfl rfl hl.1 rfl (lv_room (Nat.le_of_ble_eq_true rfl)) dL_law_126 ⟨Nat.le_of_ble_eq_true rfl, Nat.le_of_ble_eq_true rfl⟩) hP hD hS hA (fun r126 wsCN H locs hu hP hD hS => ?_)
  obtain ⟨hr1, hC⟩ := hu
  have hP : va_P D vwCl (wsM ++ wsCN) H := hP
  refine lv_aload_n hx hb dL_law_129 rfl (lv_at hl 3 rfl) ?_
  refine lv_aload_n hx hb dL_law_130 rfl (lv_at hl 1 rfl) ?_
  refine lv_iload_n hx hb dL_law_131 rfl (lv_at hl 0 rfl) ?_
  refine lv_iconst (v := nI 1) hx hb dL_law_132 (by decide) ?_
  refine lv_iadd hx hb dL_law_133 ?_
  refine zi (nI_add _ _) ?_
  refine z_sl hx hb hX hbl hbA hS ((4 * i) + 1) (by omega) hL dL_law_134 ?_
  refine lv_aload_n hx hb dL_law_135 rfl (lv_at hl 1 rfl) ?_
  refine lv_iload_n hx hb dL_law_136 rfl (lv_at hl 0 rfl) ?_
  refine lv_iconst (v := nI 2) hx hb dL_law_137 (by decide) ?_
  refine lv_iadd hx hb dL_law_138 ?_
  refine zi (nI_add _ _) ?_
  refine z_sl hx hb hX hbl hbA hS ((4 * i) + 2) (by omega) hL dL_law_139 ?_
  refine lv_i2l hx hb dL_law_140 rfl ?_
  refine lv_topl (fun v140 e140 => ?_)
  refine lv_bipush (v := nI 32) hx hb dL_law_141 (by decide) ?_
  refine lv_lshl hx hb dL_law_143 rfl ?_
  refine lv_topl (fun v143 e143 => ?_)
  refine lv_aload_n hx hb dL_law_144 rfl (lv_at hl 1 rfl) ?_
  refine lv_iload_n hx hb dL_law_145 rfl (lv_at hl 0 rfl) ?_
  refine lv_iconst (v := nI 3) hx hb dL_law_146 (by decide) ?_
  refine lv_iadd hx hb dL_law_147 ?_
  refine zi (nI_add _ _) ?_
  refine z_sl hx hb hX hbl hbA hS ((4 * i) + 3) (by omega) hL dL_law_148 ?_
  refine lv_i2l hx hb dL_law_149 rfl ?_
  refine lv_topl (fun v149 e149 => ?_)
  refine lv_ldc2 (v := 4294967295) hx hb hown (hts (.constantLong RL 13 (4294967295)) (by decide +kernel)) dL_law_150 ?_
  refine lv_land hx hb dL_law_153 ?_
  refine lv_topl (fun v153 e153 => ?_)
  refine lv_lor hx hb dL_law_154 ?_
  refine lv_topl (fun v154 e154 => ?_)
  have ev : v125 = v154 := by rw [e125, e114, e111, e124, e120, e154, e143, e140, e153, e149]
  subst ev
  have hP := P_swap hP
  have hD := D_swap hD
  obtain ⟨fs155, hfs155⟩ := MI_recv hM
  refine z_fcalli (wr := wsCN) (wc := wsM) (va_runV (As := [.int (xs ((4 * i) + 1)), .long v125]) (rest := [.int r126]) ⟨hx, hb, hml, hown, hts⟩ (M_scalar l D cA cI [] om ph st rs sc pt wsM hM (xs ((4 * i) + 1)) v125 _) (cwV 2 hts gL_law_X3_scalar rfl rfl rfl (by decide +kernel) ⟨Nat.le_of_ble_eq_true rfl, Nat.le_of_ble_eq_true rfl⟩) (z_preV _ hK (va_P.rt hP) (va_D.rt hD) (ci := 3) (q0 := 0) rfl hfs155) rfl rfl hl.1 rfl (lv_room (Nat.le_of_ble_eq_true rfl)) dL_law_155 ⟨Nat.le_of_ble_eq_true rfl, Nat.le_of_ble_eq_true rfl⟩) hP hD hS hA (fun r155 wsMN H locs hu hP hD hS => ?_)
  obtain ⟨hr2, hM⟩ := hu
  have heq : r126 = r155 := hr1.trans hr2.symm
  refine lv_icmp_eq (tgt := 442) hx hb dL_law_158 (by decide) (fun c158 => ?_) (fun c158 => absurd heq c158)
  refine lv_iinc (v := nI ((4 * i) + 4)) (lv' := [(3, .int (nI ((4 * i) + 4))), (0, .ref b), (1, .ref od), (2, .ref om)]) hx hb dL_law_442 hl (k := 0) rfl (by show nI _ + nI 4 = _; exact nI_add _ _) (by decide) rfl (fun ls hl => ?_)
  refine lv_goto (tgt := 18) hx hb dL_law_445 (by decide) ?_
  exact kk _ _ _ ⟨_, _, _, _, _, wsCN, wsMN, hC, hM, ⟨P_swap hP, D_swap hD, hS⟩, hl⟩
set_option maxRecDepth 100000 in
set_option maxHeartbeats 4000000 in
theorem law_point {p : Program} {l : Launch} {e : Env} {s : State} {m : MethodId} {below : List Frame} {meth : Method} {c : Code} {D : va_G} {cA cI : ClassId} {b L od om : Nat} {xs : Nat → Int32} (hL : L ≤ 2048) (C0 : lw_At p s m meth c b L xs) (hK : va_K D vwCl [(cA, .long), (cI, .int)] s) {i : Nat} (hi : 4 * i + 4 ≤ L) {H : Heap} {locs : List Loc} {ls : Array Slot} {ph st : Nat} {rs : Int32} {sc pt : Nat → Int64} {wsC wsM : va_W} (hC : CI cA od ph st rs sc pt wsC) (hM : MI cA cI om ph st rs sc pt wsM) (hH : zH D (fun q : Nat => s.heap.size ≤ q) s.heap (wsM ++ wsC) H locs) (hl : lv_has ls 4 [(3, .int (nI (4 * i))), (0, .ref b), (1, .ref od), (2, .ref om)])
    (kk : ∀ (H : Heap) (locs : List Loc) (ls : Array Slot), LI D cA cI s b od om (i + 1) H locs ls → W p l e room_1 s m #[Value.ref b] below meth c H locs 31 487 (lw_Z below #[Value.ref b] s) (F0 m 18 ls [])) : W p l e room_1 s m #[Value.ref b] below meth c H locs 31 487 (lw_Z below #[Value.ref b] s) (F0 m 163 ls []) := by
  obtain ⟨hx, hb, hr, hml, hown, hts, hX, hbl, hlocks, hgv⟩ := id C0
  have hts := fun w h => hts w (wsL_law_in w h)
  have hown : s.vm.findClass RL = some m.cls := hown
  have hA : ∀ q : Nat, s.heap.size ≤ q → (fun q : Nat => s.heap.size ≤ q) q := fun _ h => h
  have hbA : ¬ (fun q : Nat => s.heap.size ≤ q) b := Nat.not_le.mpr hbl
  obtain ⟨hP, hD, hS⟩ := hH
  refine lv_aload_n hx hb dL_law_163 rfl (lv_at hl 2 rfl) ?_
  refine lv_aload_n hx hb dL_law_164 rfl (lv_at hl 1 rfl) ?_
  refine lv_iload_n hx hb dL_law_165 rfl (lv_at hl 0 rfl) ?_
  refine lv_iconst (v := nI 1) hx hb dL_law_166 (by decide) ?_
  refine lv_iadd hx hb dL_law_167 ?_
  refine zi (nI_add _ _) ?_
  refine z_sl hx hb hX hbl hbA hS ((4 * i) + 1) (by omega) hL dL_law_168 ?_
  refine lv_aload_n hx hb dL_law_169 rfl (lv_at hl 1 rfl) ?_
  refine lv_iload_n hx hb dL_law_170 rfl (lv_at hl 0 rfl) ?_
  refine lv_iconst (v := nI 2) hx hb dL_law_171 (by decide) ?_
  refine lv_iadd hx hb dL_law_172 ?_
  refine zi (nI_add _ _) ?_
  refine z_sl hx hb hX hbl hbA hS ((4 * i) + 2) (by omega) hL dL_law_173 ?_
  refine lv_i2l hx hb dL_law_174 rfl ?_
  refine lv_topl (fun v174 e174 => ?_)
  refine lv_bipush (v := nI 32) hx hb dL_law_175 (by decide) ?_
  refine lv_lshl hx hb dL_law_177 rfl ?_
  refine lv_topl (fun v177 e177 => ?_)
  refine lv_aload_n hx hb dL_law_178 rfl (lv_at hl 1 rfl) ?_
  refine lv_iload_n hx hb dL_law_179 rfl (lv_at hl 0 rfl) ?_
  refine lv_iconst (v := nI 3) hx hb dL_law_180 (by decide) ?_
  refine lv_iadd hx hb dL_law_181 ?_
  refine zi (nI_add _ _) ?_
  refine z_sl hx hb hX hbl hbA hS ((4 * i) + 3) (by omega) hL dL_law_182 ?_
  refine lv_i2l hx hb dL_law_183 rfl ?_
  refine lv_topl (fun v183 e183 => ?_)
  refine lv_ldc2 (v := 4294967295) hx hb hown (hts (.constantLong RL 13 (4294967295)) (by decide +kernel)) dL_law_184 ?_
  refine lv_land hx hb dL_law_187 ?_
  refine lv_topl (fun v187 e187 => ?_)
  refine lv_lor hx hb dL_law_188 ?_
  refine lv_topl (fun v188 e188 => ?_)
  obtain ⟨fs189, hfs189⟩ := CI_recv hC
  refine z_fcalli (wr := wsM) (wc := wsC) (va_runV (As := [.int (xs ((4 * i) + 1)), .long v188]) (rest := []) ⟨hx, hb, hml, hown, hts⟩ (C_point l D cA [(cI, .int)] od ph st rs sc pt wsC hC (xs ((4 * i) + 1)) v188 _) (cwV 2 hts gL_law_X2_point rfl rfl rfl (by decide +kernel) ⟨Nat.le_of_ble_eq_true rfl, Nat.le_of_ble_eq_true rfl⟩) (z_preV _ hK (va_P.rt hP) (va_D.rt hD) (ci := 2) (q0 := 0) rfl hfs189) rfl rfl hl.1 rfl (lv_room (Nat.le_of_ble_eq_true rfl)) dL_law_189 ⟨Nat.le_of_ble_eq_true rfl, Nat.le_of_ble_eq_true rfl⟩) hP hD hS hA (fun r189 wsCN H locs hu hP hD hS => ?_)
  obtain ⟨hr1, hC⟩ := hu
  have hP : va_P D vwCl (wsM ++ wsCN) H := hP
  refine lv_aload_n hx hb dL_law_192 rfl (lv_at hl 3 rfl) ?_
  refine lv_aload_n hx hb dL_law_193 rfl (lv_at hl 1 rfl) ?_
  refine lv_iload_n hx hb dL_law_194 rfl (lv_at hl 0 rfl) ?_
  refine lv_iconst (v := nI 1) hx hb dL_law_195 (by decide) ?_
  refine lv_iadd hx hb dL_law_196 ?_
  refine zi (nI_add _ _) ?_
  refine z_sl hx hb hX hbl hbA hS ((4 * i) + 1) (by omega) hL dL_law_197 ?_
  refine lv_aload_n hx hb dL_law_198 rfl (lv_at hl 1 rfl) ?_
  refine lv_iload_n hx hb dL_law_199 rfl (lv_at hl 0 rfl) ?_
  refine lv_iconst (v := nI 2) hx hb dL_law_200 (by decide) ?_
  refine lv_iadd hx hb dL_law_201 ?_
  refine zi (nI_add _ _) ?_
  refine z_sl hx hb hX hbl hbA hS ((4 * i) + 2) (by omega) hL dL_law_202 ?_
  refine lv_i2l hx hb dL_law_203 rfl ?_
  refine lv_topl (fun v203 e203 => ?_)
  refine lv_bipush (v := nI 32) hx hb dL_law_204 (by decide) ?_
  refine lv_lshl hx hb dL_law_206 rfl ?_
  refine lv_topl (fun v206 e206 => ?_)
  refine lv_aload_n hx hb dL_law_207 rfl (lv_at hl 1 rfl) ?_
  refine lv_iload_n hx hb dL_law_208 rfl (lv_at hl 0 rfl) ?_
  refine lv_iconst (v := nI 3) hx hb dL_law_209 (by decide) ?_
  refine lv_iadd hx hb dL_law_210 ?_
  refine zi (nI_add _ _) ?_
  refine z_sl hx hb hX hbl hbA hS ((4 * i) + 3) (by omega) hL dL_law_211 ?_
  refine lv_i2l hx hb dL_law_212 rfl ?_
  refine lv_topl (fun v212 e212 => ?_)
  refine lv_ldc2 (v := 4294967295) hx hb hown (hts (.constantLong RL 13 (4294967295)) (by decide +kernel)) dL_law_213 ?_
  refine lv_land hx hb dL_law_216 ?_
  refine lv_topl (fun v216 e216 => ?_)
  refine lv_lor hx hb dL_law_217 ?_
  refine lv_topl (fun v217 e217 => ?_)
  have ev : v188 = v217 := by rw [e188, e177, e174, e187, e183, e217, e206, e203, e216, e212]
  subst ev
  have hP := P_swap hP
  have hD := D_swap hD
  obtain ⟨fs218, hfs218⟩ := MI_recv hM
  refine z_fcalli (wr := wsCN) (wc := wsM) (va_runV (As := [.int (xs ((4 * i) + 1)), .long v188]) (rest := [.int r189]) ⟨hx, hb, hml, hown, hts⟩ (M_point l D cA cI [] om ph st rs sc pt wsM hM (xs ((4 * i) + 1)) v188 _) (cwV 2 hts gL_law_X3_point rfl rfl rfl (by decide +kernel) ⟨Nat.le_of_ble_eq_true rfl, Nat.le_of_ble_eq_true rfl⟩) (z_preV _ hK (va_P.rt hP) (va_D.rt hD) (ci := 3) (q0 := 0) rfl hfs218) rfl rfl hl.1 rfl (lv_room (Nat.le_of_ble_eq_true rfl)) dL_law_218 ⟨Nat.le_of_ble_eq_true rfl, Nat.le_of_ble_eq_true rfl⟩) hP hD hS hA (fun r218 wsMN H locs hu hP hD hS => ?_)
  obtain ⟨hr2, hM⟩ := hu
  have heq : r189 = r218 := hr1.trans hr2.symm
  refine lv_icmp_eq (tgt := 442) hx hb dL_law_221 (by decide) (fun c221 => ?_) (fun c221 => absurd heq c221)
  refine lv_iinc (v := nI ((4 * i) + 4)) (lv' := [(3, .int (nI ((4 * i) + 4))), (0, .ref b), (1, .ref od), (2, .ref om)]) hx hb dL_law_442 hl (k := 0) rfl (by show nI _ + nI 4 = _; exact nI_add _ _) (by decide) rfl (fun ls hl => ?_)
  refine lv_goto (tgt := 18) hx hb dL_law_445 (by decide) ?_
  exact kk _ _ _ ⟨_, _, _, _, _, wsCN, wsMN, hC, hM, ⟨P_swap hP, D_swap hD, hS⟩, hl⟩
set_option maxRecDepth 100000 in
set_option maxHeartbeats 4000000 in
theorem law_start {p : Program} {l : Launch} {e : Env} {s : State} {m : MethodId} {below : List Frame} {meth : Method} {c : Code} {D : va_G} {cA cI : ClassId} {b L od om : Nat} {xs : Nat → Int32} (hL : L ≤ 2048) (C0 : lw_At p s m meth c b L xs) (hK : va_K D vwCl [(cA, .long), (cI, .int)] s) {i : Nat} (hi : 4 * i + 4 ≤ L) {H : Heap} {locs : List Loc} {ls : Array Slot} {ph st : Nat} {rs : Int32} {sc pt : Nat → Int64} {wsC wsM : va_W} (hC : CI cA od ph st rs sc pt wsC) (hM : MI cA cI om ph st rs sc pt wsM) (hH : zH D (fun q : Nat => s.heap.size ≤ q) s.heap (wsM ++ wsC) H locs) (hl : lv_has ls 4 [(3, .int (nI (4 * i))), (0, .ref b), (1, .ref od), (2, .ref om)])
    (kk : ∀ (H : Heap) (locs : List Loc) (ls : Array Slot), LI D cA cI s b od om (i + 1) H locs ls → W p l e room_1 s m #[Value.ref b] below meth c H locs 31 487 (lw_Z below #[Value.ref b] s) (F0 m 18 ls [])) : W p l e room_1 s m #[Value.ref b] below meth c H locs 31 487 (lw_Z below #[Value.ref b] s) (F0 m 226 ls []) := by
  obtain ⟨hx, hb, hr, hml, hown, hts, hX, hbl, hlocks, hgv⟩ := id C0
  have hts := fun w h => hts w (wsL_law_in w h)
  have hown : s.vm.findClass RL = some m.cls := hown
  have hA : ∀ q : Nat, s.heap.size ≤ q → (fun q : Nat => s.heap.size ≤ q) q := fun _ h => h
  have hbA : ¬ (fun q : Nat => s.heap.size ≤ q) b := Nat.not_le.mpr hbl
  obtain ⟨hP, hD, hS⟩ := hH
  refine lv_aload_n hx hb dL_law_226 rfl (lv_at hl 2 rfl) ?_
  obtain ⟨fs227, hfs227⟩ := CI_recv hC
  refine z_fcalli (wr := wsM) (wc := wsC) (va_runV (As := []) (rest := []) ⟨hx, hb, hml, hown, hts⟩ (C_start l D cA [(cI, .int)] od ph st rs sc pt wsC hC  _) (cwV 0 hts gL_law_X2_start rfl rfl rfl (by decide +kernel) ⟨Nat.le_of_ble_eq_true rfl, Nat.le_of_ble_eq_true rfl⟩) (z_preV _ hK (va_P.rt hP) (va_D.rt hD) (ci := 2) (q0 := 0) rfl hfs227) rfl rfl hl.1 rfl (lv_room (Nat.le_of_ble_eq_true rfl)) dL_law_227 ⟨Nat.le_of_ble_eq_true rfl, Nat.le_of_ble_eq_true rfl⟩) hP hD hS hA (fun r227 wsCN H locs hu hP hD hS => ?_)
  have hu1 := hu
  have hP : va_P D vwCl (wsM ++ wsCN) H := hP
  refine lv_aload_n hx hb dL_law_230 rfl (lv_at hl 3 rfl) ?_
  have hP := P_swap hP
  have hD := D_swap hD
  obtain ⟨fs231, hfs231⟩ := MI_recv hM
  refine z_fcalli (wr := wsCN) (wc := wsM) (va_runV (As := []) (rest := [.int r227]) ⟨hx, hb, hml, hown, hts⟩ (M_start l D cA cI [] om ph st rs sc pt wsM hM  _) (cwV 0 hts gL_law_X3_start rfl rfl rfl (by decide +kernel) ⟨Nat.le_of_ble_eq_true rfl, Nat.le_of_ble_eq_true rfl⟩) (z_preV _ hK (va_P.rt hP) (va_D.rt hD) (ci := 3) (q0 := 0) rfl hfs231) rfl rfl hl.1 rfl (lv_room (Nat.le_of_ble_eq_true rfl)) dL_law_231 ⟨Nat.le_of_ble_eq_true rfl, Nat.le_of_ble_eq_true rfl⟩) hP hD hS hA (fun r231 wsMN H locs hu hP hD hS => ?_)
  rcases hu1 with h1 | h1 <;> rcases hu with h2 | h2
  · have q1 := h1.2.1
    have heq : r227 = r231 := h1.2.1.trans h2.2.1.symm
    refine lv_icmp_eq (tgt := 442) hx hb dL_law_234 (by decide) (fun c234 => ?_) (fun c234 => absurd heq c234)
    refine lv_iinc (v := nI ((4 * i) + 4)) (lv' := [(3, .int (nI ((4 * i) + 4))), (0, .ref b), (1, .ref od), (2, .ref om)]) hx hb dL_law_442 hl (k := 0) rfl (by show nI _ + nI 4 = _; exact nI_add _ _) (by decide) rfl (fun ls hl => ?_)
    refine lv_goto (tgt := 18) hx hb dL_law_445 (by decide) ?_
    exact kk _ _ _ ⟨_, _, _, _, _, wsCN, wsMN, h1.2.2, h2.2.2, ⟨P_swap hP, D_swap hD, hS⟩, hl⟩
  · exact absurd h1.1 h2.1
  · exact absurd h2.1 h1.1
  · have q1 := h1.2.1
    have heq : r227 = r231 := h1.2.1.trans h2.2.1.symm
    refine lv_icmp_eq (tgt := 442) hx hb dL_law_234 (by decide) (fun c234 => ?_) (fun c234 => absurd heq c234)
    refine lv_iinc (v := nI ((4 * i) + 4)) (lv' := [(3, .int (nI ((4 * i) + 4))), (0, .ref b), (1, .ref od), (2, .ref om)]) hx hb dL_law_442 hl (k := 0) rfl (by show nI _ + nI 4 = _; exact nI_add _ _) (by decide) rfl (fun ls hl => ?_)
    refine lv_goto (tgt := 18) hx hb dL_law_445 (by decide) ?_
    exact kk _ _ _ ⟨_, _, _, _, _, wsCN, wsMN, h1.2.2, h2.2.2, ⟨P_swap hP, D_swap hD, hS⟩, hl⟩
set_option maxRecDepth 100000 in
set_option maxHeartbeats 4000000 in
theorem law_step {p : Program} {l : Launch} {e : Env} {s : State} {m : MethodId} {below : List Frame} {meth : Method} {c : Code} {D : va_G} {cA cI : ClassId} {b L od om : Nat} {xs : Nat → Int32} (hL : L ≤ 2048) (C0 : lw_At p s m meth c b L xs) (hK : va_K D vwCl [(cA, .long), (cI, .int)] s) {i : Nat} (hi : 4 * i + 4 ≤ L) {H : Heap} {locs : List Loc} {ls : Array Slot} {ph st : Nat} {rs : Int32} {sc pt : Nat → Int64} {wsC wsM : va_W} (hC : CI cA od ph st rs sc pt wsC) (hM : MI cA cI om ph st rs sc pt wsM) (hH : zH D (fun q : Nat => s.heap.size ≤ q) s.heap (wsM ++ wsC) H locs) (hl : lv_has ls 4 [(3, .int (nI (4 * i))), (0, .ref b), (1, .ref od), (2, .ref om)])
    (kk : ∀ (H : Heap) (locs : List Loc) (ls : Array Slot), LI D cA cI s b od om (i + 1) H locs ls → W p l e room_1 s m #[Value.ref b] below meth c H locs 31 487 (lw_Z below #[Value.ref b] s) (F0 m 18 ls [])) : W p l e room_1 s m #[Value.ref b] below meth c H locs 31 487 (lw_Z below #[Value.ref b] s) (F0 m 239 ls []) := by
  obtain ⟨hx, hb, hr, hml, hown, hts, hX, hbl, hlocks, hgv⟩ := id C0
  have hts := fun w h => hts w (wsL_law_in w h)
  have hown : s.vm.findClass RL = some m.cls := hown
  have hA : ∀ q : Nat, s.heap.size ≤ q → (fun q : Nat => s.heap.size ≤ q) q := fun _ h => h
  have hbA : ¬ (fun q : Nat => s.heap.size ≤ q) b := Nat.not_le.mpr hbl
  obtain ⟨hP, hD, hS⟩ := hH
  refine lv_aload_n hx hb dL_law_239 rfl (lv_at hl 2 rfl) ?_
  refine lv_aload_n hx hb dL_law_240 rfl (lv_at hl 1 rfl) ?_
  refine lv_iload_n hx hb dL_law_241 rfl (lv_at hl 0 rfl) ?_
  refine lv_iconst (v := nI 1) hx hb dL_law_242 (by decide) ?_
  refine lv_iadd hx hb dL_law_243 ?_
  refine zi (nI_add _ _) ?_
  refine z_sl hx hb hX hbl hbA hS ((4 * i) + 1) (by omega) hL dL_law_244 ?_
  obtain ⟨fs245, hfs245⟩ := CI_recv hC
  refine z_fcalli (wr := wsM) (wc := wsC) (va_runV (As := [.int (xs ((4 * i) + 1))]) (rest := []) ⟨hx, hb, hml, hown, hts⟩ (C_step l D cA [(cI, .int)] od ph st rs sc pt wsC hC (xs ((4 * i) + 1)) _) (cwV 1 hts gL_law_X2_step rfl rfl rfl (by decide +kernel) ⟨Nat.le_of_ble_eq_true rfl, Nat.le_of_ble_eq_true rfl⟩) (z_preV _ hK (va_P.rt hP) (va_D.rt hD) (ci := 2) (q0 := 0) rfl hfs245) rfl rfl hl.1 rfl (lv_room (Nat.le_of_ble_eq_true rfl)) dL_law_245 ⟨Nat.le_of_ble_eq_true rfl, Nat.le_of_ble_eq_true rfl⟩) hP hD hS hA (fun r245 wsCN H locs hu hP hD hS => ?_)
  obtain ⟨hr1, hC⟩ := hu
  have hP : va_P D vwCl (wsM ++ wsCN) H := hP
  refine lv_aload_n hx hb dL_law_248 rfl (lv_at hl 3 rfl) ?_
  refine lv_aload_n hx hb dL_law_249 rfl (lv_at hl 1 rfl) ?_
  refine lv_iload_n hx hb dL_law_250 rfl (lv_at hl 0 rfl) ?_
  refine lv_iconst (v := nI 1) hx hb dL_law_251 (by decide) ?_
  refine lv_iadd hx hb dL_law_252 ?_
  refine zi (nI_add _ _) ?_
  refine z_sl hx hb hX hbl hbA hS ((4 * i) + 1) (by omega) hL dL_law_253 ?_
  have hP := P_swap hP
  have hD := D_swap hD
  obtain ⟨fs254, hfs254⟩ := MI_recv hM
  refine z_fcalli (wr := wsCN) (wc := wsM) (va_runV (As := [.int (xs ((4 * i) + 1))]) (rest := [.int r245]) ⟨hx, hb, hml, hown, hts⟩ (M_step l D cA cI [] om ph st rs sc pt wsM hM (xs ((4 * i) + 1)) _) (cwV 1 hts gL_law_X3_step rfl rfl rfl (by decide +kernel) ⟨Nat.le_of_ble_eq_true rfl, Nat.le_of_ble_eq_true rfl⟩) (z_preV _ hK (va_P.rt hP) (va_D.rt hD) (ci := 3) (q0 := 0) rfl hfs254) rfl rfl hl.1 rfl (lv_room (Nat.le_of_ble_eq_true rfl)) dL_law_254 ⟨Nat.le_of_ble_eq_true rfl, Nat.le_of_ble_eq_true rfl⟩) hP hD hS hA (fun r254 wsMN H locs hu hP hD hS => ?_)
  obtain ⟨hr2, hM⟩ := hu
  have heq : r245 = r254 := hr1.trans hr2.symm
  refine lv_icmp_eq (tgt := 442) hx hb dL_law_257 (by decide) (fun c257 => ?_) (fun c257 => absurd heq c257)
  refine lv_iinc (v := nI ((4 * i) + 4)) (lv' := [(3, .int (nI ((4 * i) + 4))), (0, .ref b), (1, .ref od), (2, .ref om)]) hx hb dL_law_442 hl (k := 0) rfl (by show nI _ + nI 4 = _; exact nI_add _ _) (by decide) rfl (fun ls hl => ?_)
  refine lv_goto (tgt := 18) hx hb dL_law_445 (by decide) ?_
  exact kk _ _ _ ⟨_, _, _, _, _, wsCN, wsMN, hC, hM, ⟨P_swap hP, D_swap hD, hS⟩, hl⟩
set_option maxRecDepth 100000 in
set_option maxHeartbeats 4000000 in
theorem law_finish {p : Program} {l : Launch} {e : Env} {s : State} {m : MethodId} {below : List Frame} {meth : Method} {c : Code} {D : va_G} {cA cI : ClassId} {b L od om : Nat} {xs : Nat → Int32} (hL : L ≤ 2048) (C0 : lw_At p s m meth c b L xs) (hK : va_K D vwCl [(cA, .long), (cI, .int)] s) {i : Nat} (hi : 4 * i + 4 ≤ L) {H : Heap} {locs : List Loc} {ls : Array Slot} {ph st : Nat} {rs : Int32} {sc pt : Nat → Int64} {wsC wsM : va_W} (hC : CI cA od ph st rs sc pt wsC) (hM : MI cA cI om ph st rs sc pt wsM) (hH : zH D (fun q : Nat => s.heap.size ≤ q) s.heap (wsM ++ wsC) H locs) (hl : lv_has ls 4 [(3, .int (nI (4 * i))), (0, .ref b), (1, .ref od), (2, .ref om)])
    (kk : ∀ (H : Heap) (locs : List Loc) (ls : Array Slot), LI D cA cI s b od om (i + 1) H locs ls → W p l e room_1 s m #[Value.ref b] below meth c H locs 31 487 (lw_Z below #[Value.ref b] s) (F0 m 18 ls [])) : W p l e room_1 s m #[Value.ref b] below meth c H locs 31 487 (lw_Z below #[Value.ref b] s) (F0 m 262 ls []) := by
  obtain ⟨hx, hb, hr, hml, hown, hts, hX, hbl, hlocks, hgv⟩ := id C0
  have hts := fun w h => hts w (wsL_law_in w h)
  have hown : s.vm.findClass RL = some m.cls := hown
  have hA : ∀ q : Nat, s.heap.size ≤ q → (fun q : Nat => s.heap.size ≤ q) q := fun _ h => h
  have hbA : ¬ (fun q : Nat => s.heap.size ≤ q) b := Nat.not_le.mpr hbl
  obtain ⟨hP, hD, hS⟩ := hH
  refine lv_aload_n hx hb dL_law_262 rfl (lv_at hl 2 rfl) ?_
  obtain ⟨fs263, hfs263⟩ := CI_recv hC
  refine z_fcalli (wr := wsM) (wc := wsC) (va_runV (As := []) (rest := []) ⟨hx, hb, hml, hown, hts⟩ (C_finish l D cA [(cI, .int)] od ph st rs sc pt wsC hC  _) (cwV 0 hts gL_law_X2_finish rfl rfl rfl (by decide +kernel) ⟨Nat.le_of_ble_eq_true rfl, Nat.le_of_ble_eq_true rfl⟩) (z_preV _ hK (va_P.rt hP) (va_D.rt hD) (ci := 2) (q0 := 0) rfl hfs263) rfl rfl hl.1 rfl (lv_room (Nat.le_of_ble_eq_true rfl)) dL_law_263 ⟨Nat.le_of_ble_eq_true rfl, Nat.le_of_ble_eq_true rfl⟩) hP hD hS hA (fun r263 wsCN H locs hu hP hD hS => ?_)
  have hu1 := hu
  have hP : va_P D vwCl (wsM ++ wsCN) H := hP
  refine lv_aload_n hx hb dL_law_266 rfl (lv_at hl 3 rfl) ?_
  have hP := P_swap hP
  have hD := D_swap hD
  obtain ⟨fs267, hfs267⟩ := MI_recv hM
  refine z_fcalli (wr := wsCN) (wc := wsM) (va_runV (As := []) (rest := [.int r263]) ⟨hx, hb, hml, hown, hts⟩ (M_finish l D cA cI [] om ph st rs sc pt wsM hM  _) (cwV 0 hts gL_law_X3_finish rfl rfl rfl (by decide +kernel) ⟨Nat.le_of_ble_eq_true rfl, Nat.le_of_ble_eq_true rfl⟩) (z_preV _ hK (va_P.rt hP) (va_D.rt hD) (ci := 3) (q0 := 0) rfl hfs267) rfl rfl hl.1 rfl (lv_room (Nat.le_of_ble_eq_true rfl)) dL_law_267 ⟨Nat.le_of_ble_eq_true rfl, Nat.le_of_ble_eq_true rfl⟩) hP hD hS hA (fun r267 wsMN H locs hu hP hD hS => ?_)
  rcases hu1 with h1 | h1 <;> rcases hu with h2 | h2
  · have q1 := h1.2.2.1
    have heq : r263 = r267 := h1.2.2.1.trans h2.2.2.1.symm
    refine lv_icmp_eq (tgt := 442) hx hb dL_law_270 (by decide) (fun c270 => ?_) (fun c270 => absurd heq c270)
    refine lv_iinc (v := nI ((4 * i) + 4)) (lv' := [(3, .int (nI ((4 * i) + 4))), (0, .ref b), (1, .ref od), (2, .ref om)]) hx hb dL_law_442 hl (k := 0) rfl (by show nI _ + nI 4 = _; exact nI_add _ _) (by decide) rfl (fun ls hl => ?_)
    refine lv_goto (tgt := 18) hx hb dL_law_445 (by decide) ?_
    exact kk _ _ _ ⟨_, _, _, _, _, wsCN, wsMN, h1.2.2.2, h2.2.2.2, ⟨P_swap hP, D_swap hD, hS⟩, hl⟩
  · exact absurd ⟨h1.1, h1.2.1⟩ h2.1
  · exact absurd ⟨h2.1, h2.2.1⟩ h1.1
  · have q1 := h1.2.1
    have heq : r263 = r267 := h1.2.1.trans h2.2.1.symm
    refine lv_icmp_eq (tgt := 442) hx hb dL_law_270 (by decide) (fun c270 => ?_) (fun c270 => absurd heq c270)
    refine lv_iinc (v := nI ((4 * i) + 4)) (lv' := [(3, .int (nI ((4 * i) + 4))), (0, .ref b), (1, .ref od), (2, .ref om)]) hx hb dL_law_442 hl (k := 0) rfl (by show nI _ + nI 4 = _; exact nI_add _ _) (by decide) rfl (fun ls hl => ?_)
    refine lv_goto (tgt := 18) hx hb dL_law_445 (by decide) ?_
    exact kk _ _ _ ⟨_, _, _, _, _, wsCN, wsMN, h1.2.2, h2.2.2, ⟨P_swap hP, D_swap hD, hS⟩, hl⟩
set_option maxRecDepth 100000 in
set_option maxHeartbeats 4000000 in
theorem law_again {p : Program} {l : Launch} {e : Env} {s : State} {m : MethodId} {below : List Frame} {meth : Method} {c : Code} {D : va_G} {cA cI : ClassId} {b L od om : Nat} {xs : Nat → Int32} (hL : L ≤ 2048) (C0 : lw_At p s m meth c b L xs) (hK : va_K D vwCl [(cA, .long), (cI, .int)] s) {i : Nat} (hi : 4 * i + 4 ≤ L) {H : Heap} {locs : List Loc} {ls : Array Slot} {ph st : Nat} {rs : Int32} {sc pt : Nat → Int64} {wsC wsM : va_W} (hC : CI cA od ph st rs sc pt wsC) (hM : MI cA cI om ph st rs sc pt wsM) (hH : zH D (fun q : Nat => s.heap.size ≤ q) s.heap (wsM ++ wsC) H locs) (hl : lv_has ls 4 [(3, .int (nI (4 * i))), (0, .ref b), (1, .ref od), (2, .ref om)])
    (kk : ∀ (H : Heap) (locs : List Loc) (ls : Array Slot), LI D cA cI s b od om (i + 1) H locs ls → W p l e room_1 s m #[Value.ref b] below meth c H locs 31 487 (lw_Z below #[Value.ref b] s) (F0 m 18 ls [])) : W p l e room_1 s m #[Value.ref b] below meth c H locs 31 487 (lw_Z below #[Value.ref b] s) (F0 m 275 ls []) := by
  obtain ⟨hx, hb, hr, hml, hown, hts, hX, hbl, hlocks, hgv⟩ := id C0
  have hts := fun w h => hts w (wsL_law_in w h)
  have hown : s.vm.findClass RL = some m.cls := hown
  have hA : ∀ q : Nat, s.heap.size ≤ q → (fun q : Nat => s.heap.size ≤ q) q := fun _ h => h
  have hbA : ¬ (fun q : Nat => s.heap.size ≤ q) b := Nat.not_le.mpr hbl
  obtain ⟨hP, hD, hS⟩ := hH
  refine lv_aload_n hx hb dL_law_275 rfl (lv_at hl 2 rfl) ?_
  obtain ⟨fs276, hfs276⟩ := CI_recv hC
  refine z_fcalli (wr := wsM) (wc := wsC) (va_runV (As := []) (rest := []) ⟨hx, hb, hml, hown, hts⟩ (C_again l D cA [(cI, .int)] od ph st rs sc pt wsC hC  _) (cwV 0 hts gL_law_X2_again rfl rfl rfl (by decide +kernel) ⟨Nat.le_of_ble_eq_true rfl, Nat.le_of_ble_eq_true rfl⟩) (z_preV _ hK (va_P.rt hP) (va_D.rt hD) (ci := 2) (q0 := 0) rfl hfs276) rfl rfl hl.1 rfl (lv_room (Nat.le_of_ble_eq_true rfl)) dL_law_276 ⟨Nat.le_of_ble_eq_true rfl, Nat.le_of_ble_eq_true rfl⟩) hP hD hS hA (fun r276 wsCN H locs hu hP hD hS => ?_)
  have hu1 := hu
  have hP : va_P D vwCl (wsM ++ wsCN) H := hP
  refine lv_aload_n hx hb dL_law_279 rfl (lv_at hl 3 rfl) ?_
  have hP := P_swap hP
  have hD := D_swap hD
  obtain ⟨fs280, hfs280⟩ := MI_recv hM
  refine z_fcalli (wr := wsCN) (wc := wsM) (va_runV (As := []) (rest := [.int r276]) ⟨hx, hb, hml, hown, hts⟩ (M_again l D cA cI [] om ph st rs sc pt wsM hM  _) (cwV 0 hts gL_law_X3_again rfl rfl rfl (by decide +kernel) ⟨Nat.le_of_ble_eq_true rfl, Nat.le_of_ble_eq_true rfl⟩) (z_preV _ hK (va_P.rt hP) (va_D.rt hD) (ci := 3) (q0 := 0) rfl hfs280) rfl rfl hl.1 rfl (lv_room (Nat.le_of_ble_eq_true rfl)) dL_law_280 ⟨Nat.le_of_ble_eq_true rfl, Nat.le_of_ble_eq_true rfl⟩) hP hD hS hA (fun r280 wsMN H locs hu hP hD hS => ?_)
  rcases hu1 with h1 | h1 <;> rcases hu with h2 | h2
  · have q1 := h1.2.1
    have heq : r276 = r280 := h1.2.1.trans h2.2.1.symm
    refine lv_icmp_eq (tgt := 442) hx hb dL_law_283 (by decide) (fun c283 => ?_) (fun c283 => absurd heq c283)
    refine lv_iinc (v := nI ((4 * i) + 4)) (lv' := [(3, .int (nI ((4 * i) + 4))), (0, .ref b), (1, .ref od), (2, .ref om)]) hx hb dL_law_442 hl (k := 0) rfl (by show nI _ + nI 4 = _; exact nI_add _ _) (by decide) rfl (fun ls hl => ?_)
    refine lv_goto (tgt := 18) hx hb dL_law_445 (by decide) ?_
    exact kk _ _ _ ⟨_, _, _, _, _, wsCN, wsMN, h1.2.2, h2.2.2, ⟨P_swap hP, D_swap hD, hS⟩, hl⟩
  · exact absurd h1.1 h2.1
  · exact absurd h2.1 h1.1
  · have q1 := h1.2.1
    have heq : r276 = r280 := h1.2.1.trans h2.2.1.symm
    refine lv_icmp_eq (tgt := 442) hx hb dL_law_283 (by decide) (fun c283 => ?_) (fun c283 => absurd heq c283)
    refine lv_iinc (v := nI ((4 * i) + 4)) (lv' := [(3, .int (nI ((4 * i) + 4))), (0, .ref b), (1, .ref od), (2, .ref om)]) hx hb dL_law_442 hl (k := 0) rfl (by show nI _ + nI 4 = _; exact nI_add _ _) (by decide) rfl (fun ls hl => ?_)
    refine lv_goto (tgt := 18) hx hb dL_law_445 (by decide) ?_
    exact kk _ _ _ ⟨_, _, _, _, _, wsCN, wsMN, h1.2.2, h2.2.2, ⟨P_swap hP, D_swap hD, hS⟩, hl⟩
set_option maxRecDepth 100000 in
set_option maxHeartbeats 4000000 in
theorem law_reset {p : Program} {l : Launch} {e : Env} {s : State} {m : MethodId} {below : List Frame} {meth : Method} {c : Code} {D : va_G} {cA cI : ClassId} {b L od om : Nat} {xs : Nat → Int32} (hL : L ≤ 2048) (C0 : lw_At p s m meth c b L xs) (hK : va_K D vwCl [(cA, .long), (cI, .int)] s) {i : Nat} (hi : 4 * i + 4 ≤ L) {H : Heap} {locs : List Loc} {ls : Array Slot} {ph st : Nat} {rs : Int32} {sc pt : Nat → Int64} {wsC wsM : va_W} (hC : CI cA od ph st rs sc pt wsC) (hM : MI cA cI om ph st rs sc pt wsM) (hH : zH D (fun q : Nat => s.heap.size ≤ q) s.heap (wsM ++ wsC) H locs) (hl : lv_has ls 4 [(3, .int (nI (4 * i))), (0, .ref b), (1, .ref od), (2, .ref om)])
    (kk : ∀ (H : Heap) (locs : List Loc) (ls : Array Slot), LI D cA cI s b od om (i + 1) H locs ls → W p l e room_1 s m #[Value.ref b] below meth c H locs 31 487 (lw_Z below #[Value.ref b] s) (F0 m 18 ls [])) : W p l e room_1 s m #[Value.ref b] below meth c H locs 31 487 (lw_Z below #[Value.ref b] s) (F0 m 288 ls []) := by
  obtain ⟨hx, hb, hr, hml, hown, hts, hX, hbl, hlocks, hgv⟩ := id C0
  have hts := fun w h => hts w (wsL_law_in w h)
  have hown : s.vm.findClass RL = some m.cls := hown
  have hA : ∀ q : Nat, s.heap.size ≤ q → (fun q : Nat => s.heap.size ≤ q) q := fun _ h => h
  have hbA : ¬ (fun q : Nat => s.heap.size ≤ q) b := Nat.not_le.mpr hbl
  obtain ⟨hP, hD, hS⟩ := hH
  refine lv_aload_n hx hb dL_law_288 rfl (lv_at hl 2 rfl) ?_
  obtain ⟨fs289, hfs289⟩ := CI_recv hC
  refine z_fcalli (wr := wsM) (wc := wsC) (va_runV (As := []) (rest := []) ⟨hx, hb, hml, hown, hts⟩ (C_reset l D cA [(cI, .int)] od ph st rs sc pt wsC hC  _) (cwV 0 hts gL_law_X2_reset rfl rfl rfl (by decide +kernel) ⟨Nat.le_of_ble_eq_true rfl, Nat.le_of_ble_eq_true rfl⟩) (z_preV _ hK (va_P.rt hP) (va_D.rt hD) (ci := 2) (q0 := 0) rfl hfs289) rfl rfl hl.1 rfl (lv_room (Nat.le_of_ble_eq_true rfl)) dL_law_289 ⟨Nat.le_of_ble_eq_true rfl, Nat.le_of_ble_eq_true rfl⟩) hP hD hS hA (fun r289 wsCN H locs hu hP hD hS => ?_)
  obtain ⟨hr1, hC⟩ := hu
  have hP : va_P D vwCl (wsM ++ wsCN) H := hP
  refine lv_aload_n hx hb dL_law_292 rfl (lv_at hl 3 rfl) ?_
  have hP := P_swap hP
  have hD := D_swap hD
  obtain ⟨fs293, hfs293⟩ := MI_recv hM
  refine z_fcalli (wr := wsCN) (wc := wsM) (va_runV (As := []) (rest := [.int r289]) ⟨hx, hb, hml, hown, hts⟩ (M_reset l D cA cI [] om ph st rs sc pt wsM hM  _) (cwV 0 hts gL_law_X3_reset rfl rfl rfl (by decide +kernel) ⟨Nat.le_of_ble_eq_true rfl, Nat.le_of_ble_eq_true rfl⟩) (z_preV _ hK (va_P.rt hP) (va_D.rt hD) (ci := 3) (q0 := 0) rfl hfs293) rfl rfl hl.1 rfl (lv_room (Nat.le_of_ble_eq_true rfl)) dL_law_293 ⟨Nat.le_of_ble_eq_true rfl, Nat.le_of_ble_eq_true rfl⟩) hP hD hS hA (fun r293 wsMN H locs hu hP hD hS => ?_)
  obtain ⟨hr2, hM⟩ := hu
  have heq : r289 = r293 := hr1.trans hr2.symm
  refine lv_icmp_eq (tgt := 442) hx hb dL_law_296 (by decide) (fun c296 => ?_) (fun c296 => absurd heq c296)
  refine lv_iinc (v := nI ((4 * i) + 4)) (lv' := [(3, .int (nI ((4 * i) + 4))), (0, .ref b), (1, .ref od), (2, .ref om)]) hx hb dL_law_442 hl (k := 0) rfl (by show nI _ + nI 4 = _; exact nI_add _ _) (by decide) rfl (fun ls hl => ?_)
  refine lv_goto (tgt := 18) hx hb dL_law_445 (by decide) ?_
  exact kk _ _ _ ⟨_, _, _, _, _, wsCN, wsMN, hC, hM, ⟨P_swap hP, D_swap hD, hS⟩, hl⟩
set_option maxRecDepth 100000 in
set_option maxHeartbeats 4000000 in
theorem law_phase {p : Program} {l : Launch} {e : Env} {s : State} {m : MethodId} {below : List Frame} {meth : Method} {c : Code} {D : va_G} {cA cI : ClassId} {b L od om : Nat} {xs : Nat → Int32} (hL : L ≤ 2048) (C0 : lw_At p s m meth c b L xs) (hK : va_K D vwCl [(cA, .long), (cI, .int)] s) {i : Nat} (hi : 4 * i + 4 ≤ L) {H : Heap} {locs : List Loc} {ls : Array Slot} {ph st : Nat} {rs : Int32} {sc pt : Nat → Int64} {wsC wsM : va_W} (hC : CI cA od ph st rs sc pt wsC) (hM : MI cA cI om ph st rs sc pt wsM) (hH : zH D (fun q : Nat => s.heap.size ≤ q) s.heap (wsM ++ wsC) H locs) (hl : lv_has ls 4 [(3, .int (nI (4 * i))), (0, .ref b), (1, .ref od), (2, .ref om)])
    (kk : ∀ (H : Heap) (locs : List Loc) (ls : Array Slot), LI D cA cI s b od om (i + 1) H locs ls → W p l e room_1 s m #[Value.ref b] below meth c H locs 31 487 (lw_Z below #[Value.ref b] s) (F0 m 18 ls [])) : W p l e room_1 s m #[Value.ref b] below meth c H locs 31 487 (lw_Z below #[Value.ref b] s) (F0 m 301 ls []) := by
  obtain ⟨hx, hb, hr, hml, hown, hts, hX, hbl, hlocks, hgv⟩ := id C0
  have hts := fun w h => hts w (wsL_law_in w h)
  have hown : s.vm.findClass RL = some m.cls := hown
  have hA : ∀ q : Nat, s.heap.size ≤ q → (fun q : Nat => s.heap.size ≤ q) q := fun _ h => h
  have hbA : ¬ (fun q : Nat => s.heap.size ≤ q) b := Nat.not_le.mpr hbl
  obtain ⟨hP, hD, hS⟩ := hH
  refine lv_aload_n hx hb dL_law_301 rfl (lv_at hl 2 rfl) ?_
  obtain ⟨fs302, hfs302⟩ := CI_recv hC
  refine z_fcalli (wr := wsM) (wc := wsC) (va_runV (As := []) (rest := []) ⟨hx, hb, hml, hown, hts⟩ (C_phase l D cA [(cI, .int)] od ph st rs sc pt wsC hC  _) (cwV 0 hts gL_law_X2_phase rfl rfl rfl (by decide +kernel) ⟨Nat.le_of_ble_eq_true rfl, Nat.le_of_ble_eq_true rfl⟩) (z_preV _ hK (va_P.rt hP) (va_D.rt hD) (ci := 2) (q0 := 0) rfl hfs302) rfl rfl hl.1 rfl (lv_room (Nat.le_of_ble_eq_true rfl)) dL_law_302 ⟨Nat.le_of_ble_eq_true rfl, Nat.le_of_ble_eq_true rfl⟩) hP hD hS hA (fun r302 wsCN H locs hu hP hD hS => ?_)
  obtain ⟨hr1, hC⟩ := hu
  have hP : va_P D vwCl (wsM ++ wsCN) H := hP
  refine lv_aload_n hx hb dL_law_305 rfl (lv_at hl 3 rfl) ?_
  have hP := P_swap hP
  have hD := D_swap hD
  obtain ⟨fs306, hfs306⟩ := MI_recv hM
  refine z_fcalli (wr := wsCN) (wc := wsM) (va_runV (As := []) (rest := [.int r302]) ⟨hx, hb, hml, hown, hts⟩ (M_phase l D cA cI [] om ph st rs sc pt wsM hM  _) (cwV 0 hts gL_law_X3_phase rfl rfl rfl (by decide +kernel) ⟨Nat.le_of_ble_eq_true rfl, Nat.le_of_ble_eq_true rfl⟩) (z_preV _ hK (va_P.rt hP) (va_D.rt hD) (ci := 3) (q0 := 0) rfl hfs306) rfl rfl hl.1 rfl (lv_room (Nat.le_of_ble_eq_true rfl)) dL_law_306 ⟨Nat.le_of_ble_eq_true rfl, Nat.le_of_ble_eq_true rfl⟩) hP hD hS hA (fun r306 wsMN H locs hu hP hD hS => ?_)
  obtain ⟨hr2, hM⟩ := hu
  have heq : r302 = r306 := hr1.trans hr2.symm
  refine lv_icmp_eq (tgt := 442) hx hb dL_law_309 (by decide) (fun c309 => ?_) (fun c309 => absurd heq c309)
  refine lv_iinc (v := nI ((4 * i) + 4)) (lv' := [(3, .int (nI ((4 * i) + 4))), (0, .ref b), (1, .ref od), (2, .ref om)]) hx hb dL_law_442 hl (k := 0) rfl (by show nI _ + nI 4 = _; exact nI_add _ _) (by decide) rfl (fun ls hl => ?_)
  refine lv_goto (tgt := 18) hx hb dL_law_445 (by decide) ?_
  exact kk _ _ _ ⟨_, _, _, _, _, wsCN, wsMN, hC, hM, ⟨P_swap hP, D_swap hD, hS⟩, hl⟩
set_option maxRecDepth 100000 in
set_option maxHeartbeats 4000000 in
theorem law_out {p : Program} {l : Launch} {e : Env} {s : State} {m : MethodId} {below : List Frame} {meth : Method} {c : Code} {D : va_G} {cA cI : ClassId} {b L od om : Nat} {xs : Nat → Int32} (hL : L ≤ 2048) (C0 : lw_At p s m meth c b L xs) (hK : va_K D vwCl [(cA, .long), (cI, .int)] s) {i : Nat} (hi : 4 * i + 4 ≤ L) {H : Heap} {locs : List Loc} {ls : Array Slot} {ph st : Nat} {rs : Int32} {sc pt : Nat → Int64} {wsC wsM : va_W} (hC : CI cA od ph st rs sc pt wsC) (hM : MI cA cI om ph st rs sc pt wsM) (hH : zH D (fun q : Nat => s.heap.size ≤ q) s.heap (wsM ++ wsC) H locs) (hl : lv_has ls 4 [(3, .int (nI (4 * i))), (0, .ref b), (1, .ref od), (2, .ref om)])
    (kk : ∀ (H : Heap) (locs : List Loc) (ls : Array Slot), LI D cA cI s b od om (i + 1) H locs ls → W p l e room_1 s m #[Value.ref b] below meth c H locs 31 487 (lw_Z below #[Value.ref b] s) (F0 m 18 ls [])) : W p l e room_1 s m #[Value.ref b] below meth c H locs 31 487 (lw_Z below #[Value.ref b] s) (F0 m 314 ls []) := by
  obtain ⟨hx, hb, hr, hml, hown, hts, hX, hbl, hlocks, hgv⟩ := id C0
  have hts := fun w h => hts w (wsL_law_in w h)
  have hown : s.vm.findClass RL = some m.cls := hown
  have hA : ∀ q : Nat, s.heap.size ≤ q → (fun q : Nat => s.heap.size ≤ q) q := fun _ h => h
  have hbA : ¬ (fun q : Nat => s.heap.size ≤ q) b := Nat.not_le.mpr hbl
  obtain ⟨hP, hD, hS⟩ := hH
  refine lv_aload_n hx hb dL_law_314 rfl (lv_at hl 2 rfl) ?_
  refine lv_aload_n hx hb dL_law_315 rfl (lv_at hl 1 rfl) ?_
  refine lv_iload_n hx hb dL_law_316 rfl (lv_at hl 0 rfl) ?_
  refine lv_iconst (v := nI 1) hx hb dL_law_317 (by decide) ?_
  refine lv_iadd hx hb dL_law_318 ?_
  refine zi (nI_add _ _) ?_
  refine z_sl hx hb hX hbl hbA hS ((4 * i) + 1) (by omega) hL dL_law_319 ?_
  obtain ⟨fs320, hfs320⟩ := CI_recv hC
  refine z_fcalll (wr := wsM) (wc := wsC) (va_runV (As := [.int (xs ((4 * i) + 1))]) (rest := []) ⟨hx, hb, hml, hown, hts⟩ (C_out l D cA [(cI, .int)] od ph st rs sc pt wsC hC (xs ((4 * i) + 1)) _) (cwV 1 hts gL_law_X2_out rfl rfl rfl (by decide +kernel) ⟨Nat.le_of_ble_eq_true rfl, Nat.le_of_ble_eq_true rfl⟩) (z_preV _ hK (va_P.rt hP) (va_D.rt hD) (ci := 2) (q0 := 0) rfl hfs320) rfl rfl hl.1 rfl (lv_room (Nat.le_of_ble_eq_true rfl)) dL_law_320 ⟨Nat.le_of_ble_eq_true rfl, Nat.le_of_ble_eq_true rfl⟩) hP hD hS hA (fun r320 wsCN H locs hu hP hD hS => ?_)
  obtain ⟨hr1, hC⟩ := hu
  have hP : va_P D vwCl (wsM ++ wsCN) H := hP
  refine lv_aload_n hx hb dL_law_323 rfl (lv_at hl 3 rfl) ?_
  refine lv_aload_n hx hb dL_law_324 rfl (lv_at hl 1 rfl) ?_
  refine lv_iload_n hx hb dL_law_325 rfl (lv_at hl 0 rfl) ?_
  refine lv_iconst (v := nI 1) hx hb dL_law_326 (by decide) ?_
  refine lv_iadd hx hb dL_law_327 ?_
  refine zi (nI_add _ _) ?_
  refine z_sl hx hb hX hbl hbA hS ((4 * i) + 1) (by omega) hL dL_law_328 ?_
  have hP := P_swap hP
  have hD := D_swap hD
  obtain ⟨fs329, hfs329⟩ := MI_recv hM
  refine z_fcalll (wr := wsCN) (wc := wsM) (va_runV (As := [.int (xs ((4 * i) + 1))]) (rest := [.long r320]) ⟨hx, hb, hml, hown, hts⟩ (M_out l D cA cI [] om ph st rs sc pt wsM hM (xs ((4 * i) + 1)) _) (cwV 1 hts gL_law_X3_out rfl rfl rfl (by decide +kernel) ⟨Nat.le_of_ble_eq_true rfl, Nat.le_of_ble_eq_true rfl⟩) (z_preV _ hK (va_P.rt hP) (va_D.rt hD) (ci := 3) (q0 := 0) rfl hfs329) rfl rfl hl.1 rfl (lv_room (Nat.le_of_ble_eq_true rfl)) dL_law_329 ⟨Nat.le_of_ble_eq_true rfl, Nat.le_of_ble_eq_true rfl⟩) hP hD hS hA (fun r329 wsMN H locs hu hP hD hS => ?_)
  obtain ⟨hr2, hM⟩ := hu
  have heq : r320 = r329 := hr1.trans hr2.symm
  refine W.lcmp hx hb dL_law_332 ?_
  refine lv_if_eq (tgt := 442) hx hb dL_law_333 (by decide) (fun c333 => ?_) (fun c333 => absurd ((lg_cmp_eq _ _).mpr heq) c333)
  refine lv_iinc (v := nI ((4 * i) + 4)) (lv' := [(3, .int (nI ((4 * i) + 4))), (0, .ref b), (1, .ref od), (2, .ref om)]) hx hb dL_law_442 hl (k := 0) rfl (by show nI _ + nI 4 = _; exact nI_add _ _) (by decide) rfl (fun ls hl => ?_)
  refine lv_goto (tgt := 18) hx hb dL_law_445 (by decide) ?_
  exact kk _ _ _ ⟨_, _, _, _, _, wsCN, wsMN, hC, hM, ⟨P_swap hP, D_swap hD, hS⟩, hl⟩
set_option maxRecDepth 100000 in
set_option maxHeartbeats 4000000 in
theorem law_part {p : Program} {l : Launch} {e : Env} {s : State} {m : MethodId} {below : List Frame} {meth : Method} {c : Code} {D : va_G} {cA cI : ClassId} {b L od om : Nat} {xs : Nat → Int32} (hL : L ≤ 2048) (C0 : lw_At p s m meth c b L xs) (hK : va_K D vwCl [(cA, .long), (cI, .int)] s) {i : Nat} (hi : 4 * i + 4 ≤ L) {H : Heap} {locs : List Loc} {ls : Array Slot} {ph st : Nat} {rs : Int32} {sc pt : Nat → Int64} {wsC wsM : va_W} (hC : CI cA od ph st rs sc pt wsC) (hM : MI cA cI om ph st rs sc pt wsM) (hH : zH D (fun q : Nat => s.heap.size ≤ q) s.heap (wsM ++ wsC) H locs) (hl : lv_has ls 4 [(3, .int (nI (4 * i))), (0, .ref b), (1, .ref od), (2, .ref om)])
    (kk : ∀ (H : Heap) (locs : List Loc) (ls : Array Slot), LI D cA cI s b od om (i + 1) H locs ls → W p l e room_1 s m #[Value.ref b] below meth c H locs 31 487 (lw_Z below #[Value.ref b] s) (F0 m 18 ls [])) : W p l e room_1 s m #[Value.ref b] below meth c H locs 31 487 (lw_Z below #[Value.ref b] s) (F0 m 338 ls []) := by
  obtain ⟨hx, hb, hr, hml, hown, hts, hX, hbl, hlocks, hgv⟩ := id C0
  have hts := fun w h => hts w (wsL_law_in w h)
  have hown : s.vm.findClass RL = some m.cls := hown
  have hA : ∀ q : Nat, s.heap.size ≤ q → (fun q : Nat => s.heap.size ≤ q) q := fun _ h => h
  have hbA : ¬ (fun q : Nat => s.heap.size ≤ q) b := Nat.not_le.mpr hbl
  obtain ⟨hP, hD, hS⟩ := hH
  refine lv_aload_n hx hb dL_law_338 rfl (lv_at hl 2 rfl) ?_
  refine lv_aload_n hx hb dL_law_339 rfl (lv_at hl 1 rfl) ?_
  refine lv_iload_n hx hb dL_law_340 rfl (lv_at hl 0 rfl) ?_
  refine lv_iconst (v := nI 1) hx hb dL_law_341 (by decide) ?_
  refine lv_iadd hx hb dL_law_342 ?_
  refine zi (nI_add _ _) ?_
  refine z_sl hx hb hX hbl hbA hS ((4 * i) + 1) (by omega) hL dL_law_343 ?_
  refine lv_aload_n hx hb dL_law_344 rfl (lv_at hl 1 rfl) ?_
  refine lv_iload_n hx hb dL_law_345 rfl (lv_at hl 0 rfl) ?_
  refine lv_iconst (v := nI 2) hx hb dL_law_346 (by decide) ?_
  refine lv_iadd hx hb dL_law_347 ?_
  refine zi (nI_add _ _) ?_
  refine z_sl hx hb hX hbl hbA hS ((4 * i) + 2) (by omega) hL dL_law_348 ?_
  obtain ⟨fs349, hfs349⟩ := CI_recv hC
  refine z_fcalll (wr := wsM) (wc := wsC) (va_runV (As := [.int (xs ((4 * i) + 1)), .int (xs ((4 * i) + 2))]) (rest := []) ⟨hx, hb, hml, hown, hts⟩ (C_part l D cA [(cI, .int)] od ph st rs sc pt wsC hC (xs ((4 * i) + 1)) (xs ((4 * i) + 2)) _) (cwV 2 hts gL_law_X2_part rfl rfl rfl (by decide +kernel) ⟨Nat.le_of_ble_eq_true rfl, Nat.le_of_ble_eq_true rfl⟩) (z_preV _ hK (va_P.rt hP) (va_D.rt hD) (ci := 2) (q0 := 0) rfl hfs349) rfl rfl hl.1 rfl (lv_room (Nat.le_of_ble_eq_true rfl)) dL_law_349 ⟨Nat.le_of_ble_eq_true rfl, Nat.le_of_ble_eq_true rfl⟩) hP hD hS hA (fun r349 wsCN H locs hu hP hD hS => ?_)
  obtain ⟨hr1, hC⟩ := hu
  have hP : va_P D vwCl (wsM ++ wsCN) H := hP
  refine lv_aload_n hx hb dL_law_352 rfl (lv_at hl 3 rfl) ?_
  refine lv_aload_n hx hb dL_law_353 rfl (lv_at hl 1 rfl) ?_
  refine lv_iload_n hx hb dL_law_354 rfl (lv_at hl 0 rfl) ?_
  refine lv_iconst (v := nI 1) hx hb dL_law_355 (by decide) ?_
  refine lv_iadd hx hb dL_law_356 ?_
  refine zi (nI_add _ _) ?_
  refine z_sl hx hb hX hbl hbA hS ((4 * i) + 1) (by omega) hL dL_law_357 ?_
  refine lv_aload_n hx hb dL_law_358 rfl (lv_at hl 1 rfl) ?_
  refine lv_iload_n hx hb dL_law_359 rfl (lv_at hl 0 rfl) ?_
  refine lv_iconst (v := nI 2) hx hb dL_law_360 (by decide) ?_
  refine lv_iadd hx hb dL_law_361 ?_
  refine zi (nI_add _ _) ?_
  refine z_sl hx hb hX hbl hbA hS ((4 * i) + 2) (by omega) hL dL_law_362 ?_
  have hP := P_swap hP
  have hD := D_swap hD
  obtain ⟨fs363, hfs363⟩ := MI_recv hM
  refine z_fcalll (wr := wsCN) (wc := wsM) (va_runV (As := [.int (xs ((4 * i) + 1)), .int (xs ((4 * i) + 2))]) (rest := [.long r349]) ⟨hx, hb, hml, hown, hts⟩ (M_part l D cA cI [] om ph st rs sc pt wsM hM (xs ((4 * i) + 1)) (xs ((4 * i) + 2)) _) (cwV 2 hts gL_law_X3_part rfl rfl rfl (by decide +kernel) ⟨Nat.le_of_ble_eq_true rfl, Nat.le_of_ble_eq_true rfl⟩) (z_preV _ hK (va_P.rt hP) (va_D.rt hD) (ci := 3) (q0 := 0) rfl hfs363) rfl rfl hl.1 rfl (lv_room (Nat.le_of_ble_eq_true rfl)) dL_law_363 ⟨Nat.le_of_ble_eq_true rfl, Nat.le_of_ble_eq_true rfl⟩) hP hD hS hA (fun r363 wsMN H locs hu hP hD hS => ?_)
  obtain ⟨hr2, hM⟩ := hu
  have heq : r349 = r363 := hr1.trans hr2.symm
  refine W.lcmp hx hb dL_law_366 ?_
  refine lv_if_eq (tgt := 442) hx hb dL_law_367 (by decide) (fun c367 => ?_) (fun c367 => absurd ((lg_cmp_eq _ _).mpr heq) c367)
  refine lv_iinc (v := nI ((4 * i) + 4)) (lv' := [(3, .int (nI ((4 * i) + 4))), (0, .ref b), (1, .ref od), (2, .ref om)]) hx hb dL_law_442 hl (k := 0) rfl (by show nI _ + nI 4 = _; exact nI_add _ _) (by decide) rfl (fun ls hl => ?_)
  refine lv_goto (tgt := 18) hx hb dL_law_445 (by decide) ?_
  exact kk _ _ _ ⟨_, _, _, _, _, wsCN, wsMN, hC, hM, ⟨P_swap hP, D_swap hD, hS⟩, hl⟩
set_option maxRecDepth 100000 in
set_option maxHeartbeats 4000000 in
theorem law_told {p : Program} {l : Launch} {e : Env} {s : State} {m : MethodId} {below : List Frame} {meth : Method} {c : Code} {D : va_G} {cA cI : ClassId} {b L od om : Nat} {xs : Nat → Int32} (hL : L ≤ 2048) (C0 : lw_At p s m meth c b L xs) (hK : va_K D vwCl [(cA, .long), (cI, .int)] s) {i : Nat} (hi : 4 * i + 4 ≤ L) {H : Heap} {locs : List Loc} {ls : Array Slot} {ph st : Nat} {rs : Int32} {sc pt : Nat → Int64} {wsC wsM : va_W} (hC : CI cA od ph st rs sc pt wsC) (hM : MI cA cI om ph st rs sc pt wsM) (hH : zH D (fun q : Nat => s.heap.size ≤ q) s.heap (wsM ++ wsC) H locs) (hl : lv_has ls 4 [(3, .int (nI (4 * i))), (0, .ref b), (1, .ref od), (2, .ref om)])
    (kk : ∀ (H : Heap) (locs : List Loc) (ls : Array Slot), LI D cA cI s b od om (i + 1) H locs ls → W p l e room_1 s m #[Value.ref b] below meth c H locs 31 487 (lw_Z below #[Value.ref b] s) (F0 m 18 ls [])) : W p l e room_1 s m #[Value.ref b] below meth c H locs 31 487 (lw_Z below #[Value.ref b] s) (F0 m 372 ls []) := by
  obtain ⟨hx, hb, hr, hml, hown, hts, hX, hbl, hlocks, hgv⟩ := id C0
  have hts := fun w h => hts w (wsL_law_in w h)
  have hown : s.vm.findClass RL = some m.cls := hown
  have hA : ∀ q : Nat, s.heap.size ≤ q → (fun q : Nat => s.heap.size ≤ q) q := fun _ h => h
  have hbA : ¬ (fun q : Nat => s.heap.size ≤ q) b := Nat.not_le.mpr hbl
  obtain ⟨hP, hD, hS⟩ := hH
  refine lv_aload_n hx hb dL_law_372 rfl (lv_at hl 2 rfl) ?_
  refine lv_aload_n hx hb dL_law_373 rfl (lv_at hl 1 rfl) ?_
  refine lv_iload_n hx hb dL_law_374 rfl (lv_at hl 0 rfl) ?_
  refine lv_iconst (v := nI 1) hx hb dL_law_375 (by decide) ?_
  refine lv_iadd hx hb dL_law_376 ?_
  refine zi (nI_add _ _) ?_
  refine z_sl hx hb hX hbl hbA hS ((4 * i) + 1) (by omega) hL dL_law_377 ?_
  refine lv_aload_n hx hb dL_law_378 rfl (lv_at hl 1 rfl) ?_
  refine lv_iload_n hx hb dL_law_379 rfl (lv_at hl 0 rfl) ?_
  refine lv_iconst (v := nI 2) hx hb dL_law_380 (by decide) ?_
  refine lv_iadd hx hb dL_law_381 ?_
  refine zi (nI_add _ _) ?_
  refine z_sl hx hb hX hbl hbA hS ((4 * i) + 2) (by omega) hL dL_law_382 ?_
  obtain ⟨fs383, hfs383⟩ := CI_recv hC
  refine z_fcalll (wr := wsM) (wc := wsC) (va_runV (As := [.int (xs ((4 * i) + 1)), .int (xs ((4 * i) + 2))]) (rest := []) ⟨hx, hb, hml, hown, hts⟩ (C_told l D cA [(cI, .int)] od ph st rs sc pt wsC hC (xs ((4 * i) + 1)) (xs ((4 * i) + 2)) _) (cwV 2 hts gL_law_X2_told rfl rfl rfl (by decide +kernel) ⟨Nat.le_of_ble_eq_true rfl, Nat.le_of_ble_eq_true rfl⟩) (z_preV _ hK (va_P.rt hP) (va_D.rt hD) (ci := 2) (q0 := 0) rfl hfs383) rfl rfl hl.1 rfl (lv_room (Nat.le_of_ble_eq_true rfl)) dL_law_383 ⟨Nat.le_of_ble_eq_true rfl, Nat.le_of_ble_eq_true rfl⟩) hP hD hS hA (fun r383 wsCN H locs hu hP hD hS => ?_)
  obtain ⟨hr1, hC⟩ := hu
  have hP : va_P D vwCl (wsM ++ wsCN) H := hP
  refine lv_aload_n hx hb dL_law_386 rfl (lv_at hl 3 rfl) ?_
  refine lv_aload_n hx hb dL_law_387 rfl (lv_at hl 1 rfl) ?_
  refine lv_iload_n hx hb dL_law_388 rfl (lv_at hl 0 rfl) ?_
  refine lv_iconst (v := nI 1) hx hb dL_law_389 (by decide) ?_
  refine lv_iadd hx hb dL_law_390 ?_
  refine zi (nI_add _ _) ?_
  refine z_sl hx hb hX hbl hbA hS ((4 * i) + 1) (by omega) hL dL_law_391 ?_
  refine lv_aload_n hx hb dL_law_392 rfl (lv_at hl 1 rfl) ?_
  refine lv_iload_n hx hb dL_law_393 rfl (lv_at hl 0 rfl) ?_
  refine lv_iconst (v := nI 2) hx hb dL_law_394 (by decide) ?_
  refine lv_iadd hx hb dL_law_395 ?_
  refine zi (nI_add _ _) ?_
  refine z_sl hx hb hX hbl hbA hS ((4 * i) + 2) (by omega) hL dL_law_396 ?_
  have hP := P_swap hP
  have hD := D_swap hD
  obtain ⟨fs397, hfs397⟩ := MI_recv hM
  refine z_fcalll (wr := wsCN) (wc := wsM) (va_runV (As := [.int (xs ((4 * i) + 1)), .int (xs ((4 * i) + 2))]) (rest := [.long r383]) ⟨hx, hb, hml, hown, hts⟩ (M_told l D cA cI [] om ph st rs sc pt wsM hM (xs ((4 * i) + 1)) (xs ((4 * i) + 2)) _) (cwV 2 hts gL_law_X3_told rfl rfl rfl (by decide +kernel) ⟨Nat.le_of_ble_eq_true rfl, Nat.le_of_ble_eq_true rfl⟩) (z_preV _ hK (va_P.rt hP) (va_D.rt hD) (ci := 3) (q0 := 0) rfl hfs397) rfl rfl hl.1 rfl (lv_room (Nat.le_of_ble_eq_true rfl)) dL_law_397 ⟨Nat.le_of_ble_eq_true rfl, Nat.le_of_ble_eq_true rfl⟩) hP hD hS hA (fun r397 wsMN H locs hu hP hD hS => ?_)
  obtain ⟨hr2, hM⟩ := hu
  have heq : r383 = r397 := hr1.trans hr2.symm
  refine W.lcmp hx hb dL_law_400 ?_
  refine lv_if_eq (tgt := 442) hx hb dL_law_401 (by decide) (fun c401 => ?_) (fun c401 => absurd ((lg_cmp_eq _ _).mpr heq) c401)
  refine lv_iinc (v := nI ((4 * i) + 4)) (lv' := [(3, .int (nI ((4 * i) + 4))), (0, .ref b), (1, .ref od), (2, .ref om)]) hx hb dL_law_442 hl (k := 0) rfl (by show nI _ + nI 4 = _; exact nI_add _ _) (by decide) rfl (fun ls hl => ?_)
  refine lv_goto (tgt := 18) hx hb dL_law_445 (by decide) ?_
  exact kk _ _ _ ⟨_, _, _, _, _, wsCN, wsMN, hC, hM, ⟨P_swap hP, D_swap hD, hS⟩, hl⟩
set_option maxRecDepth 100000 in
set_option maxHeartbeats 4000000 in
theorem law_count {p : Program} {l : Launch} {e : Env} {s : State} {m : MethodId} {below : List Frame} {meth : Method} {c : Code} {D : va_G} {cA cI : ClassId} {b L od om : Nat} {xs : Nat → Int32} (hL : L ≤ 2048) (C0 : lw_At p s m meth c b L xs) (hK : va_K D vwCl [(cA, .long), (cI, .int)] s) {i : Nat} (hi : 4 * i + 4 ≤ L) {H : Heap} {locs : List Loc} {ls : Array Slot} {ph st : Nat} {rs : Int32} {sc pt : Nat → Int64} {wsC wsM : va_W} (hC : CI cA od ph st rs sc pt wsC) (hM : MI cA cI om ph st rs sc pt wsM) (hH : zH D (fun q : Nat => s.heap.size ≤ q) s.heap (wsM ++ wsC) H locs) (hl : lv_has ls 4 [(3, .int (nI (4 * i))), (0, .ref b), (1, .ref od), (2, .ref om)])
    (kk : ∀ (H : Heap) (locs : List Loc) (ls : Array Slot), LI D cA cI s b od om (i + 1) H locs ls → W p l e room_1 s m #[Value.ref b] below meth c H locs 31 487 (lw_Z below #[Value.ref b] s) (F0 m 18 ls [])) : W p l e room_1 s m #[Value.ref b] below meth c H locs 31 487 (lw_Z below #[Value.ref b] s) (F0 m 406 ls []) := by
  obtain ⟨hx, hb, hr, hml, hown, hts, hX, hbl, hlocks, hgv⟩ := id C0
  have hts := fun w h => hts w (wsL_law_in w h)
  have hown : s.vm.findClass RL = some m.cls := hown
  have hA : ∀ q : Nat, s.heap.size ≤ q → (fun q : Nat => s.heap.size ≤ q) q := fun _ h => h
  have hbA : ¬ (fun q : Nat => s.heap.size ≤ q) b := Nat.not_le.mpr hbl
  obtain ⟨hP, hD, hS⟩ := hH
  refine lv_aload_n hx hb dL_law_406 rfl (lv_at hl 2 rfl) ?_
  refine lv_aload_n hx hb dL_law_407 rfl (lv_at hl 1 rfl) ?_
  refine lv_iload_n hx hb dL_law_408 rfl (lv_at hl 0 rfl) ?_
  refine lv_iconst (v := nI 1) hx hb dL_law_409 (by decide) ?_
  refine lv_iadd hx hb dL_law_410 ?_
  refine zi (nI_add _ _) ?_
  refine z_sl hx hb hX hbl hbA hS ((4 * i) + 1) (by omega) hL dL_law_411 ?_
  obtain ⟨fs412, hfs412⟩ := CI_recv hC
  refine z_fcalli (wr := wsM) (wc := wsC) (va_runV (As := [.int (xs ((4 * i) + 1))]) (rest := []) ⟨hx, hb, hml, hown, hts⟩ (C_count l D cA [(cI, .int)] od ph st rs sc pt wsC hC (xs ((4 * i) + 1)) _) (cwV 1 hts gL_law_X2_count rfl rfl rfl (by decide +kernel) ⟨Nat.le_of_ble_eq_true rfl, Nat.le_of_ble_eq_true rfl⟩) (z_preV _ hK (va_P.rt hP) (va_D.rt hD) (ci := 2) (q0 := 0) rfl hfs412) rfl rfl hl.1 rfl (lv_room (Nat.le_of_ble_eq_true rfl)) dL_law_412 ⟨Nat.le_of_ble_eq_true rfl, Nat.le_of_ble_eq_true rfl⟩) hP hD hS hA (fun r412 wsCN H locs hu hP hD hS => ?_)
  obtain ⟨hr1, hC⟩ := hu
  have hP : va_P D vwCl (wsM ++ wsCN) H := hP
  refine lv_aload_n hx hb dL_law_415 rfl (lv_at hl 3 rfl) ?_
  refine lv_aload_n hx hb dL_law_416 rfl (lv_at hl 1 rfl) ?_
  refine lv_iload_n hx hb dL_law_417 rfl (lv_at hl 0 rfl) ?_
  refine lv_iconst (v := nI 1) hx hb dL_law_418 (by decide) ?_
  refine lv_iadd hx hb dL_law_419 ?_
  refine zi (nI_add _ _) ?_
  refine z_sl hx hb hX hbl hbA hS ((4 * i) + 1) (by omega) hL dL_law_420 ?_
  have hP := P_swap hP
  have hD := D_swap hD
  obtain ⟨fs421, hfs421⟩ := MI_recv hM
  refine z_fcalli (wr := wsCN) (wc := wsM) (va_runV (As := [.int (xs ((4 * i) + 1))]) (rest := [.int r412]) ⟨hx, hb, hml, hown, hts⟩ (M_count l D cA cI [] om ph st rs sc pt wsM hM (xs ((4 * i) + 1)) _) (cwV 1 hts gL_law_X3_count rfl rfl rfl (by decide +kernel) ⟨Nat.le_of_ble_eq_true rfl, Nat.le_of_ble_eq_true rfl⟩) (z_preV _ hK (va_P.rt hP) (va_D.rt hD) (ci := 3) (q0 := 0) rfl hfs421) rfl rfl hl.1 rfl (lv_room (Nat.le_of_ble_eq_true rfl)) dL_law_421 ⟨Nat.le_of_ble_eq_true rfl, Nat.le_of_ble_eq_true rfl⟩) hP hD hS hA (fun r421 wsMN H locs hu hP hD hS => ?_)
  obtain ⟨hr2, hM⟩ := hu
  have heq : r412 = r421 := hr1.trans hr2.symm
  refine lv_icmp_eq (tgt := 442) hx hb dL_law_424 (by decide) (fun c424 => ?_) (fun c424 => absurd heq c424)
  refine lv_iinc (v := nI ((4 * i) + 4)) (lv' := [(3, .int (nI ((4 * i) + 4))), (0, .ref b), (1, .ref od), (2, .ref om)]) hx hb dL_law_442 hl (k := 0) rfl (by show nI _ + nI 4 = _; exact nI_add _ _) (by decide) rfl (fun ls hl => ?_)
  refine lv_goto (tgt := 18) hx hb dL_law_445 (by decide) ?_
  exact kk _ _ _ ⟨_, _, _, _, _, wsCN, wsMN, hC, hM, ⟨P_swap hP, D_swap hD, hS⟩, hl⟩
set_option maxRecDepth 100000 in
set_option maxHeartbeats 4000000 in
theorem law_check {p : Program} {l : Launch} {e : Env} {s : State} {m : MethodId} {below : List Frame} {meth : Method} {c : Code} {D : va_G} {cA cI : ClassId} {b L od om : Nat} {xs : Nat → Int32} (hL : L ≤ 2048) (C0 : lw_At p s m meth c b L xs) (hK : va_K D vwCl [(cA, .long), (cI, .int)] s) {i : Nat} (hi : 4 * i + 4 ≤ L) {H : Heap} {locs : List Loc} {ls : Array Slot} {ph st : Nat} {rs : Int32} {sc pt : Nat → Int64} {wsC wsM : va_W} (hC : CI cA od ph st rs sc pt wsC) (hM : MI cA cI om ph st rs sc pt wsM) (hH : zH D (fun q : Nat => s.heap.size ≤ q) s.heap (wsM ++ wsC) H locs) (hl : lv_has ls 4 [(3, .int (nI (4 * i))), (0, .ref b), (1, .ref od), (2, .ref om)])
    (kk : ∀ (H : Heap) (locs : List Loc) (ls : Array Slot), LI D cA cI s b od om (i + 1) H locs ls → W p l e room_1 s m #[Value.ref b] below meth c H locs 31 487 (lw_Z below #[Value.ref b] s) (F0 m 18 ls [])) : W p l e room_1 s m #[Value.ref b] below meth c H locs 31 487 (lw_Z below #[Value.ref b] s) (F0 m 429 ls []) := by
  obtain ⟨hx, hb, hr, hml, hown, hts, hX, hbl, hlocks, hgv⟩ := id C0
  have hts := fun w h => hts w (wsL_law_in w h)
  have hown : s.vm.findClass RL = some m.cls := hown
  have hA : ∀ q : Nat, s.heap.size ≤ q → (fun q : Nat => s.heap.size ≤ q) q := fun _ h => h
  have hbA : ¬ (fun q : Nat => s.heap.size ≤ q) b := Nat.not_le.mpr hbl
  obtain ⟨hP, hD, hS⟩ := hH
  refine lv_aload_n hx hb dL_law_429 rfl (lv_at hl 2 rfl) ?_
  obtain ⟨fs430, hfs430⟩ := CI_recv hC
  refine z_fcalli (wr := wsM) (wc := wsC) (va_runV (As := []) (rest := []) ⟨hx, hb, hml, hown, hts⟩ (C_check l D cA [(cI, .int)] od ph st rs sc pt wsC hC  _) (cwV 0 hts gL_law_X2_check rfl rfl rfl (by decide +kernel) ⟨Nat.le_of_ble_eq_true rfl, Nat.le_of_ble_eq_true rfl⟩) (z_preV _ hK (va_P.rt hP) (va_D.rt hD) (ci := 2) (q0 := 0) rfl hfs430) rfl rfl hl.1 rfl (lv_room (Nat.le_of_ble_eq_true rfl)) dL_law_430 ⟨Nat.le_of_ble_eq_true rfl, Nat.le_of_ble_eq_true rfl⟩) hP hD hS hA (fun r430 wsCN H locs hu hP hD hS => ?_)
  obtain ⟨hr1, hC⟩ := hu
  have hP : va_P D vwCl (wsM ++ wsCN) H := hP
  refine lv_aload_n hx hb dL_law_433 rfl (lv_at hl 3 rfl) ?_
  have hP := P_swap hP
  have hD := D_swap hD
  obtain ⟨fs434, hfs434⟩ := MI_recv hM
  refine z_fcalli (wr := wsCN) (wc := wsM) (va_runV (As := []) (rest := [.int r430]) ⟨hx, hb, hml, hown, hts⟩ (M_check l D cA cI [] om ph st rs sc pt wsM hM  _) (cwV 0 hts gL_law_X3_check rfl rfl rfl (by decide +kernel) ⟨Nat.le_of_ble_eq_true rfl, Nat.le_of_ble_eq_true rfl⟩) (z_preV _ hK (va_P.rt hP) (va_D.rt hD) (ci := 3) (q0 := 0) rfl hfs434) rfl rfl hl.1 rfl (lv_room (Nat.le_of_ble_eq_true rfl)) dL_law_434 ⟨Nat.le_of_ble_eq_true rfl, Nat.le_of_ble_eq_true rfl⟩) hP hD hS hA (fun r434 wsMN H locs hu hP hD hS => ?_)
  obtain ⟨hr2, hM⟩ := hu
  have heq : r430 = r434 := hr1.trans hr2.symm
  refine lv_icmp_eq (tgt := 442) hx hb dL_law_437 (by decide) (fun c437 => ?_) (fun c437 => absurd heq c437)
  refine lv_iinc (v := nI ((4 * i) + 4)) (lv' := [(3, .int (nI ((4 * i) + 4))), (0, .ref b), (1, .ref od), (2, .ref om)]) hx hb dL_law_442 hl (k := 0) rfl (by show nI _ + nI 4 = _; exact nI_add _ _) (by decide) rfl (fun ls hl => ?_)
  refine lv_goto (tgt := 18) hx hb dL_law_445 (by decide) ?_
  exact kk _ _ _ ⟨_, _, _, _, _, wsCN, wsMN, hC, hM, ⟨P_swap hP, D_swap hD, hS⟩, hl⟩
