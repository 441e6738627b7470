/-! calls on a part of the world; new arrays -/
theorem va_P.rt {D : va_G} {cl : List vw_C} {wr wc : va_W} {H : Heap} (h : va_P D cl (wr ++ wc) H) : va_P D cl wc H := fun k q hk => h (wr.length + k) q (by rw [List.getElem?_append_right (by omega), Nat.add_sub_cancel_left]; exact hk)
theorem va_D.rt {A : Nat → Prop} {wr wc : va_W} (h : va_D A (wr ++ wc)) : va_D A wc := by
  have e : ∀ (k : Nat) (q : Nat × va_E), wc[k]? = some q → (wr ++ wc)[wr.length + k]? = some q := fun k q hk => by rw [List.getElem?_append_right (by omega), Nat.add_sub_cancel_left]; exact hk
  refine ⟨fun i j p q hp hq hpq => ?_, fun k q hk => h.2 _ q (e k q hk)⟩
  have := h.1 _ _ p q (e i p hp) (e j q hq) hpq
  omega
theorem va_P.lf {D : va_G} {cl : List vw_C} {wr wc : va_W} {H : Heap} (h : va_P D cl (wr ++ wc) H) : va_P D cl wr H := fun k q hk => h k q (by rw [List.getElem?_append_left (List.getElem?_eq_some_iff.mp hk).1]; exact hk)
theorem va_D.lf {A : Nat → Prop} {wr wc : va_W} (h : va_D A (wr ++ wc)) : va_D A wr := by
  have e : ∀ (k : Nat) (q : Nat × va_E), wr[k]? = some q → (wr ++ wc)[k]? = some q := fun k q hk => by rw [List.getElem?_append_left (List.getElem?_eq_some_iff.mp hk).1]; exact hk
  exact ⟨fun i j p q hp hq hpq => h.1 _ _ p q (e i p hp) (e j q hq) hpq, fun k q hk => h.2 _ q (e k q hk)⟩
theorem z_fr {A : Nat → Prop} {D : va_G} {wr wc u : va_W} {H H1 : Heap} (hP : va_P D vwCl (wr ++ wc) H) (hD : va_D A (wr ++ wc)) (hk : ∀ q : Nat, q < H.size → ¬ va_A wc H.size q → H1[q]? = H[q]?) (hF : ∀ q, va_A wc H.size q → A q) (hP1 : va_P D vwCl u H1) (hD1 : va_D (va_A wc H.size) u) : va_P D vwCl (wr ++ u) H1 ∧ va_D A (wr ++ u) := by
  have e : ∀ (k : Nat) (q : Nat × va_E), wr[k]? = some q → (wr ++ wc)[k]? = some q := fun k q hk => by rw [List.getElem?_append_left (List.getElem?_eq_some_iff.mp hk).1]; exact hk
  have apart : ∀ (k : Nat) (q : Nat × va_E), wr[k]? = some q → q.1 < H.size ∧ ¬ va_A wc H.size q.1 := by
    intro k q hq
    have hl := (hP k q (e k q hq)).lt
    refine ⟨hl, fun h => ?_⟩
    rcases h with ⟨k2, e2, h⟩ | h
    · have h4 : (wr ++ wc)[wr.length + k2]? = some (q.1, e2) := by rw [List.getElem?_append_right (by omega), Nat.add_sub_cancel_left]; exact h
      have hij := hD.1 k _ q (q.1, e2) (e k q hq) h4 rfl
      have := (List.getElem?_eq_some_iff.mp hq).1
      omega
    · omega
  refine ⟨va_P.app (fun k q hq => ?_) hP1, va_D.app hD.lf (hD1.weaken (fun k q _ h => hF q.1 h)) (fun i j x y hx hy hxy => ?_)⟩
  · obtain ⟨g1, g2⟩ := apart k q hq
    exact (hP k q (e k q hq)).kept (hk q.1 g1 g2)
  · exact (apart i x hx).2 (by rw [hxy]; exact hD1.2 j y hy)
section ZF
variable {p : Program} {l : Launch} {e : Env} {R : Room} {s : State} {m : MethodId} {args : Array Value} {below : List Frame} {meth : Method} {c : Code} {H : Heap} {locs : List Loc} {cells slots : Nat} {Q : State → Prop}
variable {cc : ByteArray} {pc : Nat} {ls : Array Slot} {rest st0 : List Value} {D : va_G} {A : Nat → Prop} {tys : List (ClassId × FieldType)} {wc wr : va_W} {H0 : Heap} {mc ms : Nat} {a : Array Value}
theorem z_ffree (hD : va_D A (wr ++ wc)) (hS : va_S A H0 H locs) (hA : ∀ q, H0.size ≤ q → A q) : ∀ q, va_A wc H.size q → A q := z_free hD.rt hS hA
theorem z_fcallv {post : va_W → Prop} (hr : va_Run p l e R s m args below meth c H locs cells slots mc ms (F0 m pc ls st0) rest (va_Qv post (zB D tys (va_A wc H.size)) (va_A wc H.size) a) (va_A wc H.size)) (hP : va_P D vwCl (wr ++ wc) H) (hD : va_D A (wr ++ wc)) (hS : va_S A H0 H locs) (hA : ∀ q, H0.size ≤ q → A q)
    (kk : ∀ (u : va_W) (H1 : Heap) (locs1 : List Loc), post u → va_P D vwCl (wr ++ u) H1 → va_D A (wr ++ u) → va_S A H0 H1 locs1 → W p l e R s m args below meth c H1 locs1 (cells + mc) (slots + ms) Q (F0 m (pc + 3) ls rest)) : W p l e R s m args below meth c H locs cells slots Q (F0 m pc ls st0) :=
  va_callv hr hS (fun q _ h => z_ffree hD hS hA q h) (z_ffree hD hS hA) (fun u t H1 locs1 ht _ hp hB _ hk hS1 => by
    obtain ⟨h1, h2⟩ := z_fr hP hD hk (z_ffree hD hS hA) (ht ▸ hB.1) hB.2.2
    exact kk u H1 locs1 hp h1 h2 hS1)
theorem z_fcalli {post : Int32 → va_W → Prop} (hr : va_Run p l e R s m args below meth c H locs cells slots mc ms (F0 m pc ls st0) rest (va_Qi post (zB D tys (va_A wc H.size)) (va_A wc H.size) a) (va_A wc H.size)) (hP : va_P D vwCl (wr ++ wc) H) (hD : va_D A (wr ++ wc)) (hS : va_S A H0 H locs) (hA : ∀ q, H0.size ≤ q → A q)
    (kk : ∀ (r : Int32) (u : va_W) (H1 : Heap) (locs1 : List Loc), post r u → va_P D vwCl (wr ++ u) H1 → va_D A (wr ++ u) → va_S A H0 H1 locs1 → W p l e R s m args below meth c H1 locs1 (cells + mc) (slots + ms) Q (F0 m (pc + 3) ls (.int r :: rest))) : W p l e R s m args below meth c H locs cells slots Q (F0 m pc ls st0) :=
  va_calli hr hS (fun q _ h => z_ffree hD hS hA q h) (z_ffree hD hS hA) (fun r u t H1 locs1 ht _ hp hB _ hk hS1 => by
    obtain ⟨h1, h2⟩ := z_fr hP hD hk (z_ffree hD hS hA) (ht ▸ hB.1) hB.2.2
    exact kk r u H1 locs1 hp h1 h2 hS1)
theorem z_fcalll {post : Int64 → va_W → Prop} (hr : va_Run p l e R s m args below meth c H locs cells slots mc ms (F0 m pc ls st0) rest (va_Ql post (zB D tys (va_A wc H.size)) (va_A wc H.size) a) (va_A wc H.size)) (hP : va_P D vwCl (wr ++ wc) H) (hD : va_D A (wr ++ wc)) (hS : va_S A H0 H locs) (hA : ∀ q, H0.size ≤ q → A q)
    (kk : ∀ (r : Int64) (u : va_W) (H1 : Heap) (locs1 : List Loc), post r u → va_P D vwCl (wr ++ u) H1 → va_D A (wr ++ u) → va_S A H0 H1 locs1 → W p l e R s m args below meth c H1 locs1 (cells + mc) (slots + ms) Q (F0 m (pc + 3) ls (.long r :: rest))) : W p l e R s m args below meth c H locs cells slots Q (F0 m pc ls st0) :=
  va_calll hr hS (fun q _ h => z_ffree hD hS hA q h) (z_ffree hD hS hA) (fun r u t H1 locs1 ht _ hp hB _ hk hS1 => by
    obtain ⟨h1, h2⟩ := z_fr hP hD hk (z_ffree hD hS hA) (ht ▸ hB.1) hB.2.2
    exact kk r u H1 locs1 hp h1 h2 hS1)
theorem z_fcallr {pr : va_W → Nat → Prop} (hr : va_Run p l e R s m args below meth c H locs cells slots mc ms (F0 m pc ls st0) rest (va_Qr (fun _ => True) (zBr D tys (va_A wc H.size) pr) (va_A wc H.size) a) (va_A wc H.size)) (hP : va_P D vwCl (wr ++ wc) H) (hD : va_D A (wr ++ wc)) (hS : va_S A H0 H locs) (hA : ∀ q, H0.size ≤ q → A q)
    (kk : ∀ (r : Nat) (u : va_W) (H1 : Heap) (locs1 : List Loc), pr u r → va_P D vwCl (wr ++ u) H1 → va_D A (wr ++ u) → va_S A H0 H1 locs1 → W p l e R s m args below meth c H1 locs1 (cells + mc) (slots + ms) Q (F0 m (pc + 3) ls (.ref r :: rest))) : W p l e R s m args below meth c H locs cells slots Q (F0 m pc ls st0) :=
  va_callr hr hS (fun q _ h => z_ffree hD hS hA q h) (z_ffree hD hS hA) (fun u r t H1 locs1 ht _ _ hB _ hk hS1 => by
    obtain ⟨h1, h2⟩ := z_fr hP hD hk (z_ffree hD hS hA) (ht ▸ hB.2.1) hB.2.2.2
    exact kk r u H1 locs1 hB.1 h1 h2 hS1)
theorem z_newl {ws : va_W} {cA : ClassId} {t0 : Nat} (hexec : p.tables.exec = Jvm.exec) (hb : c.code = cc) (harr : (Cond.arrayClass .long).before args s = true) (hK : va_K D vwCl tys s) (ht : tys[t0]? = some (cA, .long)) (hP : va_P D vwCl ws H) (hD : va_D A ws) (hS : va_S A H0 H locs) (hA : ∀ q, H0.size ≤ q → A q) (N : Nat) (hN : N < 1000000) (hcells : cells + 1 ≤ R.cells) (hslots : slots + N ≤ R.slots) (hdg : decode cc pc = .ok (.newarray .long, 2))
    (kk : ∀ (q : Nat) (H1 : Heap), va_P D vwCl (ws ++ [(q, .inl (cA, N, .inr (.inl (fun _ => 0))))]) H1 → va_D A (ws ++ [(q, .inl (cA, N, .inr (.inl (fun _ => 0))))]) → va_S A H0 H1 locs → W p l e R s m args below meth c H1 locs (cells + 1) (slots + N) Q (F0 m (pc + 2) ls (.ref q :: rest))) : W p l e R s m args below meth c H locs cells slots Q (F0 m pc ls (.int (nI N) :: rest)) := by
  refine va_newa (atype := .long) (ty := .long) (a0 := (N, .inr (.inl (fun _ => 0)))) hexec hb harr rfl hK hP hD hS hA (fun _ => rfl) (nI_pos (by omega)) (nI_clamp (by omega)) (by show N * 8 ≤ _; omega) hcells hslots hdg ?_
  intro q cA' H1 hK1 hP1 hD1 hS1
  have h1 := (hK1.2 tys.length (cA', .long) (by simp)).2
  have h2 := (hK.2 t0 _ ht).2
  have h3 : s.vm.findClass ("[" ++ FieldType.long.toString) = some cA' := h1
  have h4 : s.vm.findClass ("[" ++ FieldType.long.toString) = some cA := h2
  have e : cA' = cA := Option.some.inj (h3.symm.trans h4)
  subst e
  exact kk q H1 hP1 hD1 hS1
theorem z_newi {ws : va_W} {cA : ClassId} {t0 : Nat} (hexec : p.tables.exec = Jvm.exec) (hb : c.code = cc) (harr : (Cond.arrayClass .int).before args s = true) (hK : va_K D vwCl tys s) (ht : tys[t0]? = some (cA, .int)) (hP : va_P D vwCl ws H) (hD : va_D A ws) (hS : va_S A H0 H locs) (hA : ∀ q, H0.size ≤ q → A q) (N : Nat) (hN : N < 1000000) (hcells : cells + 1 ≤ R.cells) (hslots : slots + N ≤ R.slots) (hdg : decode cc pc = .ok (.newarray .int, 2))
    (kk : ∀ (q : Nat) (H1 : Heap), va_P D vwCl (ws ++ [(q, .inl (cA, N, .inl (fun _ => 0)))]) H1 → va_D A (ws ++ [(q, .inl (cA, N, .inl (fun _ => 0)))]) → va_S A H0 H1 locs → W p l e R s m args below meth c H1 locs (cells + 1) (slots + N) Q (F0 m (pc + 2) ls (.ref q :: rest))) : W p l e R s m args below meth c H locs cells slots Q (F0 m pc ls (.int (nI N) :: rest)) := by
  refine va_newa (atype := .int) (ty := .int) (a0 := (N, .inl (fun _ => 0))) hexec hb harr rfl hK hP hD hS hA (fun _ => rfl) (nI_pos (by omega)) (nI_clamp (by omega)) (by show N * 4 ≤ _; omega) hcells hslots hdg ?_
  intro q cA' H1 hK1 hP1 hD1 hS1
  have h1 := (hK1.2 tys.length (cA', .int) (by simp)).2
  have h2 := (hK.2 t0 _ ht).2
  have h3 : s.vm.findClass ("[" ++ FieldType.int.toString) = some cA' := h1
  have h4 : s.vm.findClass ("[" ++ FieldType.int.toString) = some cA := h2
  have e : cA' = cA := Option.some.inj (h3.symm.trans h4)
  subst e
  exact kk q H1 hP1 hD1 hS1
end ZF
/-- the number of an address in a list -/
def fi : List Nat → Nat → Nat
  | [], _ => 0
  | b :: l, a => if b = a then 0 else fi l a + 1
theorem fi_get : ∀ {l : List Nat} {a : Nat}, a ∈ l → l[fi l a]? = some a
  | [], a, h => absurd h List.not_mem_nil
  | b :: l, a, h => by
    unfold fi
    by_cases e : b = a
    · subst e; simp
    · rw [if_neg e]
      rcases List.mem_cons.mp h with h | h
      · exact absurd h.symm e
      · simpa using fi_get h
theorem fi_of {A : Nat → Prop} {ws : va_W} (hD : va_D A ws) {i a : Nat} {x : va_E} (h : ws[i]? = some (a, x)) : fi (ws.map Prod.fst) a = i := by
  have hm : a ∈ ws.map Prod.fst := List.mem_map.mpr ⟨(a, x), List.mem_of_getElem? h, rfl⟩
  have hg := fi_get hm
  rw [List.getElem?_map] at hg
  cases hz : ws[fi (ws.map Prod.fst) a]? with
  | none => rw [hz] at hg; cases hg
  | some y =>
    rw [hz] at hg
    exact hD.1 _ _ y (a, x) hz h (Option.some.inj hg)
theorem arr_known {s : State} {args : Array Value} {ty : FieldType} (h : (Cond.arrayClass ty).before args s = true) : ∃ cA : ClassId, ArrOfT s cA ty ∧ s.vm.findClass ("[" ++ ty.toString) = some cA := by
  obtain ⟨cB, kB, comp, h1, h2, h3⟩ := Cond.arrayClass_spec h
  exact ⟨cB, fun n z => ⟨fun k h => (by cases h), kB, h2, comp, h3⟩, h1⟩
