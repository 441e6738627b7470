section
-- ===== PART A: goes FIRST, ahead of the names: the tables' words, and 'selects' of the private methods out of them =====
/-- a private method of a class that the tables say can be made, by its rows of tables_1 -/
def lw_okq (q : MethodName × Nat) : Prop := (q.1.cls ≠ "java/lang/invoke/MethodHandle" ∧ q.1.cls ≠ "java/lang/invoke/VarHandle") ∧ Cond.instantiable q.1.cls q.2 ∈ tables_1 ∧ Cond.privateMethod q.1 ∈ tables_1 ∧ Cond.instanceMethod q.1 ∈ tables_1
theorem lw_p0 : lw_okq (⟨"LadderDesk", "tell", "([JIJ)I"⟩, 8) := ⟨⟨by decide +kernel, by decide +kernel⟩, List.mem_of_getElem? (i := 9) (by decide +kernel), List.mem_of_getElem? (i := 125) (by decide +kernel), List.mem_of_getElem? (i := 126) (by decide +kernel)⟩
theorem lw_p1 : lw_okq (⟨"LadderDesk", "writeU", "([J)V"⟩, 8) := ⟨⟨by decide +kernel, by decide +kernel⟩, List.mem_of_getElem? (i := 9) (by decide +kernel), List.mem_of_getElem? (i := 140) (by decide +kernel), List.mem_of_getElem? (i := 141) (by decide +kernel)⟩
theorem lw_p2 : lw_okq (⟨"LadderDesk", "clampedBit", "(I)Z"⟩, 8) := ⟨⟨by decide +kernel, by decide +kernel⟩, List.mem_of_getElem? (i := 9) (by decide +kernel), List.mem_of_getElem? (i := 176) (by decide +kernel), List.mem_of_getElem? (i := 177) (by decide +kernel)⟩
theorem lw_p3 : lw_okq (⟨"LadderDesk", "clampedLong", "(I)J"⟩, 8) := ⟨⟨by decide +kernel, by decide +kernel⟩, List.mem_of_getElem? (i := 9) (by decide +kernel), List.mem_of_getElem? (i := 180) (by decide +kernel), List.mem_of_getElem? (i := 181) (by decide +kernel)⟩
theorem lw_p4 : lw_okq (⟨"LadderDesk$Ladder", "changePlaces", "()V"⟩, 18) := ⟨⟨by decide +kernel, by decide +kernel⟩, List.mem_of_getElem? (i := 17) (by decide +kernel), List.mem_of_getElem? (i := 190) (by decide +kernel), List.mem_of_getElem? (i := 191) (by decide +kernel)⟩
theorem lw_p5 : lw_okq (⟨"LadderDesk$Ladder", "makeSums", "()V"⟩, 18) := ⟨⟨by decide +kernel, by decide +kernel⟩, List.mem_of_getElem? (i := 17) (by decide +kernel), List.mem_of_getElem? (i := 194) (by decide +kernel), List.mem_of_getElem? (i := 195) (by decide +kernel)⟩
theorem lw_p6 : lw_okq (⟨"LadderDesk$Ladder", "makeDouble", "()V"⟩, 18) := ⟨⟨by decide +kernel, by decide +kernel⟩, List.mem_of_getElem? (i := 17) (by decide +kernel), List.mem_of_getElem? (i := 206) (by decide +kernel), List.mem_of_getElem? (i := 207) (by decide +kernel)⟩
theorem lw_p7 : lw_okq (⟨"LadderDesk$Field", "gather", "([J[J)V"⟩, 2) := ⟨⟨by decide +kernel, by decide +kernel⟩, List.mem_of_getElem? (i := 23) (by decide +kernel), List.mem_of_getElem? (i := 214) (by decide +kernel), List.mem_of_getElem? (i := 215) (by decide +kernel)⟩
theorem lw_p8 : lw_okq (⟨"LadderDesk$Field", "carryWide", "()V"⟩, 2) := ⟨⟨by decide +kernel, by decide +kernel⟩, List.mem_of_getElem? (i := 23) (by decide +kernel), List.mem_of_getElem? (i := 218) (by decide +kernel), List.mem_of_getElem? (i := 219) (by decide +kernel)⟩
theorem lw_p9 : lw_okq (⟨"LadderDesk$Ladder", "makeOther", "()V"⟩, 18) := ⟨⟨by decide +kernel, by decide +kernel⟩, List.mem_of_getElem? (i := 17) (by decide +kernel), List.mem_of_getElem? (i := 230) (by decide +kernel), List.mem_of_getElem? (i := 231) (by decide +kernel)⟩
theorem lw_p10 : lw_okq (⟨"LadderDesk$Ladder", "rowOf", "(I)[J"⟩, 18) := ⟨⟨by decide +kernel, by decide +kernel⟩, List.mem_of_getElem? (i := 17) (by decide +kernel), List.mem_of_getElem? (i := 287) (by decide +kernel), List.mem_of_getElem? (i := 288) (by decide +kernel)⟩
theorem lw_p11 : lw_okq (⟨"LadderDeskModel", "makeU", "()V"⟩, 7) := ⟨⟨by decide +kernel, by decide +kernel⟩, List.mem_of_getElem? (i := 313) (by decide +kernel), List.mem_of_getElem? (i := 357) (by decide +kernel), List.mem_of_getElem? (i := 358) (by decide +kernel)⟩
theorem lw_p12 : lw_okq (⟨"LadderDeskModel", "store", "(I)V"⟩, 7) := ⟨⟨by decide +kernel, by decide +kernel⟩, List.mem_of_getElem? (i := 313) (by decide +kernel), List.mem_of_getElem? (i := 363) (by decide +kernel), List.mem_of_getElem? (i := 364) (by decide +kernel)⟩
theorem lw_p13 : lw_okq (⟨"LadderDeskModel", "isGreat", "()Z"⟩, 7) := ⟨⟨by decide +kernel, by decide +kernel⟩, List.mem_of_getElem? (i := 313) (by decide +kernel), List.mem_of_getElem? (i := 369) (by decide +kernel), List.mem_of_getElem? (i := 370) (by decide +kernel)⟩
theorem lw_p14 : lw_okq (⟨"LadderDeskModel", "setSmall", "(II)V"⟩, 7) := ⟨⟨by decide +kernel, by decide +kernel⟩, List.mem_of_getElem? (i := 313) (by decide +kernel), List.mem_of_getElem? (i := 378) (by decide +kernel), List.mem_of_getElem? (i := 379) (by decide +kernel)⟩
theorem lw_p15 : lw_okq (⟨"LadderDeskModel", "copy", "(II)V"⟩, 7) := ⟨⟨by decide +kernel, by decide +kernel⟩, List.mem_of_getElem? (i := 313) (by decide +kernel), List.mem_of_getElem? (i := 382) (by decide +kernel), List.mem_of_getElem? (i := 383) (by decide +kernel)⟩
def lw_privs_1 : List (MethodName × Nat) := [(⟨"LadderDesk", "tell", "([JIJ)I"⟩, 8), (⟨"LadderDesk", "writeU", "([J)V"⟩, 8), (⟨"LadderDesk", "clampedBit", "(I)Z"⟩, 8), (⟨"LadderDesk", "clampedLong", "(I)J"⟩, 8), (⟨"LadderDesk$Ladder", "changePlaces", "()V"⟩, 18), (⟨"LadderDesk$Ladder", "makeSums", "()V"⟩, 18), (⟨"LadderDesk$Ladder", "makeDouble", "()V"⟩, 18), (⟨"LadderDesk$Field", "gather", "([J[J)V"⟩, 2), (⟨"LadderDesk$Field", "carryWide", "()V"⟩, 2), (⟨"LadderDesk$Ladder", "makeOther", "()V"⟩, 18), (⟨"LadderDesk$Ladder", "rowOf", "(I)[J"⟩, 18), (⟨"LadderDeskModel", "makeU", "()V"⟩, 7), (⟨"LadderDeskModel", "store", "(I)V"⟩, 7), (⟨"LadderDeskModel", "isGreat", "()Z"⟩, 7), (⟨"LadderDeskModel", "setSmall", "(II)V"⟩, 7), (⟨"LadderDeskModel", "copy", "(II)V"⟩, 7)]
theorem lw_r1 : ∀ q ∈ lw_privs_1, lw_okq q := List.forall_mem_cons.mpr ⟨lw_p0, List.forall_mem_cons.mpr ⟨lw_p1, List.forall_mem_cons.mpr ⟨lw_p2, List.forall_mem_cons.mpr ⟨lw_p3, List.forall_mem_cons.mpr ⟨lw_p4, List.forall_mem_cons.mpr ⟨lw_p5, List.forall_mem_cons.mpr ⟨lw_p6, List.forall_mem_cons.mpr ⟨lw_p7, List.forall_mem_cons.mpr ⟨lw_p8, List.forall_mem_cons.mpr ⟨lw_p9, List.forall_mem_cons.mpr ⟨lw_p10, List.forall_mem_cons.mpr ⟨lw_p11, List.forall_mem_cons.mpr ⟨lw_p12, List.forall_mem_cons.mpr ⟨lw_p13, List.forall_mem_cons.mpr ⟨lw_p14, List.forall_mem_cons.mpr ⟨lw_p15, fun _ h => absurd h List.not_mem_nil⟩⟩⟩⟩⟩⟩⟩⟩⟩⟩⟩⟩⟩⟩⟩⟩
theorem lw_p16 : lw_okq (⟨"LadderDeskModel", "stepOnce", "()V"⟩, 7) := ⟨⟨by decide +kernel, by decide +kernel⟩, List.mem_of_getElem? (i := 313) (by decide +kernel), List.mem_of_getElem? (i := 390) (by decide +kernel), List.mem_of_getElem? (i := 391) (by decide +kernel)⟩
theorem lw_p17 : lw_okq (⟨"LadderDeskModel", "bit", "(I)Z"⟩, 7) := ⟨⟨by decide +kernel, by decide +kernel⟩, List.mem_of_getElem? (i := 313) (by decide +kernel), List.mem_of_getElem? (i := 394) (by decide +kernel), List.mem_of_getElem? (i := 395) (by decide +kernel)⟩
theorem lw_p18 : lw_okq (⟨"LadderDeskModel", "change", "(Z)V"⟩, 7) := ⟨⟨by decide +kernel, by decide +kernel⟩, List.mem_of_getElem? (i := 313) (by decide +kernel), List.mem_of_getElem? (i := 398) (by decide +kernel), List.mem_of_getElem? (i := 399) (by decide +kernel)⟩
theorem lw_p19 : lw_okq (⟨"LadderDeskModel", "swap", "(II)V"⟩, 7) := ⟨⟨by decide +kernel, by decide +kernel⟩, List.mem_of_getElem? (i := 313) (by decide +kernel), List.mem_of_getElem? (i := 402) (by decide +kernel), List.mem_of_getElem? (i := 403) (by decide +kernel)⟩
theorem lw_p20 : lw_okq (⟨"LadderDeskModel", "add", "(III)V"⟩, 7) := ⟨⟨by decide +kernel, by decide +kernel⟩, List.mem_of_getElem? (i := 313) (by decide +kernel), List.mem_of_getElem? (i := 406) (by decide +kernel), List.mem_of_getElem? (i := 407) (by decide +kernel)⟩
theorem lw_p21 : lw_okq (⟨"LadderDeskModel", "subtract", "(III)V"⟩, 7) := ⟨⟨by decide +kernel, by decide +kernel⟩, List.mem_of_getElem? (i := 313) (by decide +kernel), List.mem_of_getElem? (i := 410) (by decide +kernel), List.mem_of_getElem? (i := 411) (by decide +kernel)⟩
theorem lw_p22 : lw_okq (⟨"LadderDeskModel", "multiply", "(III)V"⟩, 7) := ⟨⟨by decide +kernel, by decide +kernel⟩, List.mem_of_getElem? (i := 313) (by decide +kernel), List.mem_of_getElem? (i := 415) (by decide +kernel), List.mem_of_getElem? (i := 416) (by decide +kernel)⟩
theorem lw_p23 : lw_okq (⟨"LadderDeskModel", "multiplySmall", "(III)V"⟩, 7) := ⟨⟨by decide +kernel, by decide +kernel⟩, List.mem_of_getElem? (i := 313) (by decide +kernel), List.mem_of_getElem? (i := 421) (by decide +kernel), List.mem_of_getElem? (i := 422) (by decide +kernel)⟩
theorem lw_p24 : lw_okq (⟨"LadderDeskModel", "longOf", "(II)J"⟩, 7) := ⟨⟨by decide +kernel, by decide +kernel⟩, List.mem_of_getElem? (i := 313) (by decide +kernel), List.mem_of_getElem? (i := 433) (by decide +kernel), List.mem_of_getElem? (i := 434) (by decide +kernel)⟩
theorem lw_p25 : lw_okq (⟨"LadderDeskModel", "isZero", "(I)Z"⟩, 7) := ⟨⟨by decide +kernel, by decide +kernel⟩, List.mem_of_getElem? (i := 313) (by decide +kernel), List.mem_of_getElem? (i := 468) (by decide +kernel), List.mem_of_getElem? (i := 469) (by decide +kernel)⟩
theorem lw_p26 : lw_okq (⟨"LadderDeskModel", "isSame", "(II)Z"⟩, 7) := ⟨⟨by decide +kernel, by decide +kernel⟩, List.mem_of_getElem? (i := 313) (by decide +kernel), List.mem_of_getElem? (i := 472) (by decide +kernel), List.mem_of_getElem? (i := 473) (by decide +kernel)⟩
def lw_privs_2 : List (MethodName × Nat) := [(⟨"LadderDeskModel", "stepOnce", "()V"⟩, 7), (⟨"LadderDeskModel", "bit", "(I)Z"⟩, 7), (⟨"LadderDeskModel", "change", "(Z)V"⟩, 7), (⟨"LadderDeskModel", "swap", "(II)V"⟩, 7), (⟨"LadderDeskModel", "add", "(III)V"⟩, 7), (⟨"LadderDeskModel", "subtract", "(III)V"⟩, 7), (⟨"LadderDeskModel", "multiply", "(III)V"⟩, 7), (⟨"LadderDeskModel", "multiplySmall", "(III)V"⟩, 7), (⟨"LadderDeskModel", "longOf", "(II)J"⟩, 7), (⟨"LadderDeskModel", "isZero", "(I)Z"⟩, 7), (⟨"LadderDeskModel", "isSame", "(II)Z"⟩, 7)]
theorem lw_r2 : ∀ q ∈ lw_privs_2, lw_okq q := List.forall_mem_cons.mpr ⟨lw_p16, List.forall_mem_cons.mpr ⟨lw_p17, List.forall_mem_cons.mpr ⟨lw_p18, List.forall_mem_cons.mpr ⟨lw_p19, List.forall_mem_cons.mpr ⟨lw_p20, List.forall_mem_cons.mpr ⟨lw_p21, List.forall_mem_cons.mpr ⟨lw_p22, List.forall_mem_cons.mpr ⟨lw_p23, List.forall_mem_cons.mpr ⟨lw_p24, List.forall_mem_cons.mpr ⟨lw_p25, List.forall_mem_cons.mpr ⟨lw_p26, fun _ h => absurd h List.not_mem_nil⟩⟩⟩⟩⟩⟩⟩⟩⟩⟩⟩
def lw_privs : List (MethodName × Nat) := lw_privs_1 ++ (lw_privs_2)
def lw_tbl : List Cond := k2_sels lw_privs ++ tables_1
theorem lw_privs_ok : ∀ q ∈ lw_privs, lw_okq q := by
  show ∀ q ∈ lw_privs_1 ++ (lw_privs_2), lw_okq q
  exact List.forall_mem_append.mpr ⟨lw_r1, lw_r2⟩
end
section
/-! ===== BEGIN words of one list among another's, by their places ===== -/
theorem goodIn_r {big : List Cond} (ws : List Cond) (ps : List Nat) (hp : ws = ps.filterMap (fun i => big[i]?)) (h : ws.all goodWord = true) : GoodIn big ws := by
  intro w hw
  have h1 := List.all_eq_true.mp h w hw
  rw [hp] at hw
  obtain ⟨i, -, hi⟩ := List.mem_filterMap.mp hw
  have hm : w ∈ big := by first | exact List.mem_of_getElem? hi | exact List.getElem?_mem hi
  exact ⟨hm, good_of_word h1⟩
theorem goodIn_app {big a b : List Cond} (ha : GoodIn big a) (hb : GoodIn big b) : GoodIn big (a ++ b) := fun w h => (List.mem_append.mp h).elim (ha w) (hb w)
theorem goodIn_ca {big a b : List Cond} {c : Cond} (ha : GoodIn big (c :: a)) (hb : GoodIn big b) : GoodIn big (c :: (a ++ b)) := fun w h => (List.mem_cons.mp h).elim (fun e => ha w (List.mem_cons.mpr (Or.inl e))) (fun h => (List.mem_append.mp h).elim (fun h => ha w (List.mem_cons.mpr (Or.inr h))) (hb w))
theorem goodIn_sub {big ws : List Cond} (hm : ∀ w ∈ ws, w ∈ big) (h : ws.all goodWord = true) : GoodIn big ws := fun w hw => ⟨hm w hw, good_of_word (List.all_eq_true.mp h w hw)⟩
/-! ===== END ===== -/

/-! ===== BEGIN printed: names, fields, word lists, decode rows ===== -/
def RX0 : String := "LadderDesk$Field"
def TX0 : u_T := fun k => match k with
  | 0 => ("LadderDesk$Field", "wide", "[J", true)
  | _ => ("LadderDesk$Field", "whole", "[J", true)
def tyX0 : Nat → FieldType := fun k => match k with
  | 0 => .array .long
  | _ => .array .long
abbrev wsX00 : List Cond := u_ws RX0 TX0 2
theorem nmX0 : ∀ a, a < 2 → ∀ b, b < 2 → a ≠ b → (TX0 a).2.1 ≠ (TX0 b).2.1 := by decide +kernel
theorem tyX0_ok : ∀ k, k < 2 → parseFieldDescriptor (TX0 k).2.2.1 = some (tyX0 k) := by decide +kernel
abbrev cX0_init : ByteArray := prog_2_method_1_code
def yX0_init : MethodName := ⟨RX0, "<init>", "()V"⟩
abbrev cX0_newRow : ByteArray := prog_2_method_2_code
def yX0_newRow : MethodName := ⟨RX0, "newRow", "()[J"⟩
abbrev cX0_setSmall : ByteArray := prog_2_method_3_code
def yX0_setSmall : MethodName := ⟨RX0, "setSmall", "([JJ)V"⟩
abbrev cX0_add : ByteArray := prog_2_method_4_code
def yX0_add : MethodName := ⟨RX0, "add", "([J[J[J)V"⟩
abbrev cX0_subtract : ByteArray := prog_2_method_5_code
def yX0_subtract : MethodName := ⟨RX0, "subtract", "([J[J[J)V"⟩
abbrev cX0_scale : ByteArray := prog_2_method_6_code
def yX0_scale : MethodName := ⟨RX0, "scale", "([J[J)V"⟩
abbrev cX0_multiply : ByteArray := prog_2_method_7_code
def yX0_multiply : MethodName := ⟨RX0, "multiply", "([J[J[J)V"⟩
abbrev cX0_invert : ByteArray := prog_2_method_8_code
def yX0_invert : MethodName := ⟨RX0, "invert", "([J[J)V"⟩
abbrev cX0_read : ByteArray := prog_2_method_9_code
def yX0_read : MethodName := ⟨RX0, "read", "([J[J)V"⟩
abbrev cX0_write : ByteArray := prog_2_method_10_code
def yX0_write : MethodName := ⟨RX0, "write", "([J[J)V"⟩
abbrev cX0_takeRest : ByteArray := prog_2_method_11_code
def yX0_takeRest : MethodName := ⟨RX0, "takeRest", "([J)V"⟩
abbrev cX0_gather : ByteArray := prog_2_method_12_code
def yX0_gather : MethodName := ⟨RX0, "gather", "([J[J)V"⟩
abbrev cX0_carryWide : ByteArray := prog_2_method_13_code
def yX0_carryWide : MethodName := ⟨RX0, "carryWide", "()V"⟩
abbrev cX0_carry : ByteArray := prog_2_method_14_code
def yX0_carry : MethodName := ⟨RX0, "carry", "([J)V"⟩
abbrev cX0_foldTop : ByteArray := prog_2_method_15_code
def yX0_foldTop : MethodName := ⟨RX0, "foldTop", "([J)V"⟩
abbrev cX0_join : ByteArray := prog_2_method_16_code
def yX0_join : MethodName := ⟨RX0, "join", "([J[J)V"⟩
def RX1 : String := "LadderDesk$Ladder"
def TX1 : u_T := fun k => match k with
  | 0 => ("LadderDesk$Ladder", "field", "LLadderDesk$Field;", true)
  | 1 => ("LadderDesk$Ladder", "u", "[J", true)
  | 2 => ("LadderDesk$Ladder", "x2", "[J", false)
  | 3 => ("LadderDesk$Ladder", "z2", "[J", false)
  | 4 => ("LadderDesk$Ladder", "x3", "[J", false)
  | 5 => ("LadderDesk$Ladder", "z3", "[J", false)
  | 6 => ("LadderDesk$Ladder", "a", "[J", true)
  | 7 => ("LadderDesk$Ladder", "b", "[J", true)
  | 8 => ("LadderDesk$Ladder", "c", "[J", true)
  | 9 => ("LadderDesk$Ladder", "d", "[J", true)
  | 10 => ("LadderDesk$Ladder", "e", "[J", true)
  | 11 => ("LadderDesk$Ladder", "aa", "[J", true)
  | 12 => ("LadderDesk$Ladder", "bb", "[J", true)
  | 13 => ("LadderDesk$Ladder", "da", "[J", true)
  | 14 => ("LadderDesk$Ladder", "cb", "[J", true)
  | 15 => ("LadderDesk$Ladder", "spare", "[J", true)
  | 16 => ("LadderDesk$Ladder", "left", "[J", true)
  | _ => ("LadderDesk$Ladder", "right", "[J", true)
def tyX1 : Nat → FieldType := fun k => match k with
  | 0 => .object "LadderDesk$Field"
  | 1 => .array .long
  | 2 => .array .long
  | 3 => .array .long
  | 4 => .array .long
  | 5 => .array .long
  | 6 => .array .long
  | 7 => .array .long
  | 8 => .array .long
  | 9 => .array .long
  | 10 => .array .long
  | 11 => .array .long
  | 12 => .array .long
  | 13 => .array .long
  | 14 => .array .long
  | 15 => .array .long
  | 16 => .array .long
  | _ => .array .long
abbrev wsX10 : List Cond := u_ws RX1 TX1 18
theorem nmX1 : ∀ a, a < 18 → ∀ b, b < 18 → a ≠ b → (TX1 a).2.1 ≠ (TX1 b).2.1 := by decide +kernel
theorem tyX1_ok : ∀ k, k < 18 → parseFieldDescriptor (TX1 k).2.2.1 = some (tyX1 k) := by decide +kernel
abbrev cX1_init : ByteArray := prog_3_method_1_code
def yX1_init : MethodName := ⟨RX1, "<init>", "()V"⟩
abbrev cX1_isPart : ByteArray := prog_3_method_2_code
def yX1_isPart : MethodName := ⟨RX1, "isPart", "(I)Z"⟩
abbrev cX1_begin : ByteArray := prog_3_method_3_code
def yX1_begin : MethodName := ⟨RX1, "begin", "([J)V"⟩
abbrev cX1_walk : ByteArray := prog_3_method_4_code
def yX1_walk : MethodName := ⟨RX1, "walk", "(Z)V"⟩
abbrev cX1_writePart : ByteArray := prog_3_method_5_code
def yX1_writePart : MethodName := ⟨RX1, "writePart", "([JI)V"⟩
abbrev cX1_writeResult : ByteArray := prog_3_method_6_code
def yX1_writeResult : MethodName := ⟨RX1, "writeResult", "([J)V"⟩
abbrev cX1_agreesWith : ByteArray := prog_3_method_7_code
def yX1_agreesWith : MethodName := ⟨RX1, "agreesWith", "([J)Z"⟩
abbrev cX1_rowOf : ByteArray := prog_3_method_8_code
def yX1_rowOf : MethodName := ⟨RX1, "rowOf", "(I)[J"⟩
abbrev cX1_changePlaces : ByteArray := prog_3_method_9_code
def yX1_changePlaces : MethodName := ⟨RX1, "changePlaces", "()V"⟩
abbrev cX1_makeSums : ByteArray := prog_3_method_10_code
def yX1_makeSums : MethodName := ⟨RX1, "makeSums", "()V"⟩
abbrev cX1_makeDouble : ByteArray := prog_3_method_11_code
def yX1_makeDouble : MethodName := ⟨RX1, "makeDouble", "()V"⟩
abbrev cX1_makeOther : ByteArray := prog_3_method_12_code
def yX1_makeOther : MethodName := ⟨RX1, "makeOther", "()V"⟩
abbrev cX1_isZero : ByteArray := prog_3_method_13_code
def yX1_isZero : MethodName := ⟨RX1, "isZero", "([J)Z"⟩
abbrev cX1_areEqual : ByteArray := prog_3_method_14_code
def yX1_areEqual : MethodName := ⟨RX1, "areEqual", "([J[J)Z"⟩
def RX2 : String := "LadderDesk"
def TX2 : u_T := fun k => match k with
  | 0 => ("LadderDesk", "scalarTold", "[J", true)
  | 1 => ("LadderDesk", "pointTold", "[J", true)
  | 2 => ("LadderDesk", "result", "[J", true)
  | 3 => ("LadderDesk", "answer", "[J", true)
  | 4 => ("LadderDesk", "ladder", "LLadderDesk$Ladder;", true)
  | 5 => ("LadderDesk", "phaseNow", "I", false)
  | 6 => ("LadderDesk", "stepsMade", "I", false)
  | _ => ("LadderDesk", "resultsHad", "I", false)
def tyX2 : Nat → FieldType := fun k => match k with
  | 0 => .array .long
  | 1 => .array .long
  | 2 => .array .long
  | 3 => .array .long
  | 4 => .object "LadderDesk$Ladder"
  | 5 => .int
  | 6 => .int
  | _ => .int
abbrev wsX20 : List Cond := u_ws RX2 TX2 8
theorem nmX2 : ∀ a, a < 8 → ∀ b, b < 8 → a ≠ b → (TX2 a).2.1 ≠ (TX2 b).2.1 := by decide +kernel
theorem tyX2_ok : ∀ k, k < 8 → parseFieldDescriptor (TX2 k).2.2.1 = some (tyX2 k) := by decide +kernel
abbrev cX2_init : ByteArray := prog_1_method_1_code
def yX2_init : MethodName := ⟨RX2, "<init>", "()V"⟩
abbrev cX2_scalar : ByteArray := prog_1_method_2_code
def yX2_scalar : MethodName := ⟨RX2, "scalar", "(IJ)I"⟩
abbrev cX2_point : ByteArray := prog_1_method_3_code
def yX2_point : MethodName := ⟨RX2, "point", "(IJ)I"⟩
abbrev cX2_start : ByteArray := prog_1_method_4_code
def yX2_start : MethodName := ⟨RX2, "start", "()I"⟩
abbrev cX2_step : ByteArray := prog_1_method_5_code
def yX2_step : MethodName := ⟨RX2, "step", "(I)I"⟩
abbrev cX2_finish : ByteArray := prog_1_method_6_code
def yX2_finish : MethodName := ⟨RX2, "finish", "()I"⟩
abbrev cX2_again : ByteArray := prog_1_method_7_code
def yX2_again : MethodName := ⟨RX2, "again", "()I"⟩
abbrev cX2_reset : ByteArray := prog_1_method_8_code
def yX2_reset : MethodName := ⟨RX2, "reset", "()I"⟩
abbrev cX2_phase : ByteArray := prog_1_method_9_code
def yX2_phase : MethodName := ⟨RX2, "phase", "()I"⟩
abbrev cX2_out : ByteArray := prog_1_method_10_code
def yX2_out : MethodName := ⟨RX2, "out", "(I)J"⟩
abbrev cX2_part : ByteArray := prog_1_method_11_code
def yX2_part : MethodName := ⟨RX2, "part", "(II)J"⟩
abbrev cX2_told : ByteArray := prog_1_method_12_code
def yX2_told : MethodName := ⟨RX2, "told", "(II)J"⟩
abbrev cX2_count : ByteArray := prog_1_method_13_code
def yX2_count : MethodName := ⟨RX2, "count", "(I)I"⟩
abbrev cX2_check : ByteArray := prog_1_method_14_code
def yX2_check : MethodName := ⟨RX2, "check", "()I"⟩
abbrev cX2_tell : ByteArray := prog_1_method_15_code
def yX2_tell : MethodName := ⟨RX2, "tell", "([JIJ)I"⟩
abbrev cX2_isLong : ByteArray := prog_1_method_16_code
def yX2_isLong : MethodName := ⟨RX2, "isLong", "(I)Z"⟩
abbrev cX2_clampedLong : ByteArray := prog_1_method_17_code
def yX2_clampedLong : MethodName := ⟨RX2, "clampedLong", "(I)J"⟩
abbrev cX2_clampedBit : ByteArray := prog_1_method_18_code
def yX2_clampedBit : MethodName := ⟨RX2, "clampedBit", "(I)Z"⟩
abbrev cX2_writeU : ByteArray := prog_1_method_19_code
def yX2_writeU : MethodName := ⟨RX2, "writeU", "([J)V"⟩
def RX3 : String := "LadderDeskModel"
def TX3 : u_T := fun k => match k with
  | 0 => ("LadderDeskModel", "phase", "I", false)
  | 1 => ("LadderDeskModel", "steps", "I", false)
  | 2 => ("LadderDeskModel", "results", "I", false)
  | 3 => ("LadderDeskModel", "scalar", "[J", true)
  | 4 => ("LadderDeskModel", "point", "[J", true)
  | 5 => ("LadderDeskModel", "digits", "[I", true)
  | _ => ("LadderDeskModel", "sums", "[J", true)
def tyX3 : Nat → FieldType := fun k => match k with
  | 0 => .int
  | 1 => .int
  | 2 => .int
  | 3 => .array .long
  | 4 => .array .long
  | 5 => .array .int
  | _ => .array .long
abbrev wsX30 : List Cond := u_ws RX3 TX3 7
theorem nmX3 : ∀ a, a < 7 → ∀ b, b < 7 → a ≠ b → (TX3 a).2.1 ≠ (TX3 b).2.1 := by decide +kernel
theorem tyX3_ok : ∀ k, k < 7 → parseFieldDescriptor (TX3 k).2.2.1 = some (tyX3 k) := by decide +kernel
abbrev cX3_init : ByteArray := prog_5_method_1_code
def yX3_init : MethodName := ⟨RX3, "<init>", "()V"⟩
abbrev cX3_setSmall : ByteArray := prog_5_method_3_code
def yX3_setSmall : MethodName := ⟨RX3, "setSmall", "(II)V"⟩
abbrev cX3_copy : ByteArray := prog_5_method_4_code
def yX3_copy : MethodName := ⟨RX3, "copy", "(II)V"⟩
abbrev cX3_swap : ByteArray := prog_5_method_5_code
def yX3_swap : MethodName := ⟨RX3, "swap", "(II)V"⟩
abbrev cX3_ofP : ByteArray := prog_5_method_6_code
def yX3_ofP : MethodName := ⟨RX3, "ofP", "(I)I"⟩
abbrev cX3_isGreat : ByteArray := prog_5_method_7_code
def yX3_isGreat : MethodName := ⟨RX3, "isGreat", "()Z"⟩
abbrev cX3_store : ByteArray := prog_5_method_8_code
def yX3_store : MethodName := ⟨RX3, "store", "(I)V"⟩
abbrev cX3_add : ByteArray := prog_5_method_9_code
def yX3_add : MethodName := ⟨RX3, "add", "(III)V"⟩
abbrev cX3_subtract : ByteArray := prog_5_method_10_code
def yX3_subtract : MethodName := ⟨RX3, "subtract", "(III)V"⟩
abbrev cX3_multiply : ByteArray := prog_5_method_11_code
def yX3_multiply : MethodName := ⟨RX3, "multiply", "(III)V"⟩
abbrev cX3_multiplySmall : ByteArray := prog_5_method_12_code
def yX3_multiplySmall : MethodName := ⟨RX3, "multiplySmall", "(III)V"⟩
abbrev cX3_isZero : ByteArray := prog_5_method_13_code
def yX3_isZero : MethodName := ⟨RX3, "isZero", "(I)Z"⟩
abbrev cX3_isSame : ByteArray := prog_5_method_14_code
def yX3_isSame : MethodName := ⟨RX3, "isSame", "(II)Z"⟩
abbrev cX3_longOf : ByteArray := prog_5_method_15_code
def yX3_longOf : MethodName := ⟨RX3, "longOf", "(II)J"⟩
abbrev cX3_isLong : ByteArray := prog_5_method_16_code
def yX3_isLong : MethodName := ⟨RX3, "isLong", "(I)Z"⟩
abbrev cX3_scalar : ByteArray := prog_5_method_17_code
def yX3_scalar : MethodName := ⟨RX3, "scalar", "(IJ)I"⟩
abbrev cX3_point : ByteArray := prog_5_method_18_code
def yX3_point : MethodName := ⟨RX3, "point", "(IJ)I"⟩
abbrev cX3_bit : ByteArray := prog_5_method_19_code
def yX3_bit : MethodName := ⟨RX3, "bit", "(I)Z"⟩
abbrev cX3_makeU : ByteArray := prog_5_method_20_code
def yX3_makeU : MethodName := ⟨RX3, "makeU", "()V"⟩
abbrev cX3_start : ByteArray := prog_5_method_21_code
def yX3_start : MethodName := ⟨RX3, "start", "()I"⟩
abbrev cX3_change : ByteArray := prog_5_method_22_code
def yX3_change : MethodName := ⟨RX3, "change", "(Z)V"⟩
abbrev cX3_stepOnce : ByteArray := prog_5_method_23_code
def yX3_stepOnce : MethodName := ⟨RX3, "stepOnce", "()V"⟩
abbrev cX3_step : ByteArray := prog_5_method_24_code
def yX3_step : MethodName := ⟨RX3, "step", "(I)I"⟩
abbrev cX3_finish : ByteArray := prog_5_method_25_code
def yX3_finish : MethodName := ⟨RX3, "finish", "()I"⟩
abbrev cX3_again : ByteArray := prog_5_method_26_code
def yX3_again : MethodName := ⟨RX3, "again", "()I"⟩
abbrev cX3_reset : ByteArray := prog_5_method_27_code
def yX3_reset : MethodName := ⟨RX3, "reset", "()I"⟩
abbrev cX3_phase : ByteArray := prog_5_method_28_code
def yX3_phase : MethodName := ⟨RX3, "phase", "()I"⟩
abbrev cX3_out : ByteArray := prog_5_method_29_code
def yX3_out : MethodName := ⟨RX3, "out", "(I)J"⟩
abbrev cX3_part : ByteArray := prog_5_method_30_code
def yX3_part : MethodName := ⟨RX3, "part", "(II)J"⟩
abbrev cX3_told : ByteArray := prog_5_method_31_code
def yX3_told : MethodName := ⟨RX3, "told", "(II)J"⟩
abbrev cX3_count : ByteArray := prog_5_method_32_code
def yX3_count : MethodName := ⟨RX3, "count", "(I)I"⟩
abbrev cX3_check : ByteArray := prog_5_method_33_code
def yX3_check : MethodName := ⟨RX3, "check", "()I"⟩
def RJ9 : String := "java/lang/Math"
def TJ9 : u_T := fun k => match k with
  | _ => ("", "", "", false)
def tyJ9 : Nat → FieldType := fun k => match k with
  | _ => .int
abbrev wsJ90 : List Cond := u_ws RJ9 TJ9 0
theorem nmJ9 : ∀ a, a < 0 → ∀ b, b < 0 → a ≠ b → (TJ9 a).2.1 ≠ (TJ9 b).2.1 := by decide +kernel
theorem tyJ9_ok : ∀ k, k < 0 → parseFieldDescriptor (TJ9 k).2.2.1 = some (tyJ9 k) := by decide +kernel
abbrev cJ9_min_7cf53 : ByteArray := prog_6_method_69_code
def yJ9_min_7cf53 : MethodName := ⟨RJ9, "min", "(II)I"⟩
def RJ10 : String := "java/lang/System"
def TJ10 : u_T := fun k => match k with
  | _ => ("", "", "", false)
def tyJ10 : Nat → FieldType := fun k => match k with
  | _ => .int
abbrev wsJ100 : List Cond := u_ws RJ10 TJ10 0
theorem nmJ10 : ∀ a, a < 0 → ∀ b, b < 0 → a ≠ b → (TJ10 a).2.1 ≠ (TJ10 b).2.1 := by decide +kernel
theorem tyJ10_ok : ∀ k, k < 0 → parseFieldDescriptor (TJ10 k).2.2.1 = some (tyJ10 k) := by decide +kernel
def RJ7 : String := "java/util/Arrays"
def TJ7 : u_T := fun k => match k with
  | _ => ("", "", "", false)
def tyJ7 : Nat → FieldType := fun k => match k with
  | _ => .int
abbrev wsJ70 : List Cond := u_ws RJ7 TJ7 0
theorem nmJ7 : ∀ a, a < 0 → ∀ b, b < 0 → a ≠ b → (TJ7 a).2.1 ≠ (TJ7 b).2.1 := by decide +kernel
theorem tyJ7_ok : ∀ k, k < 0 → parseFieldDescriptor (TJ7 k).2.2.1 = some (tyJ7 k) := by decide +kernel
abbrev cJ7_fill_d0a16 : ByteArray := prog_8_method_101_code
def yJ7_fill_d0a16 : MethodName := ⟨RJ7, "fill", "([JJ)V"⟩
def RL : String := "LadderDeskLaw"
abbrev cL_law : ByteArray := code
def yL_law : MethodName := ⟨RL, "law", "([I)Z"⟩
def wsX0_newRow : List Cond := .code yX0_newRow cX0_newRow 0 (some (.array .long)) :: ([.arrayClass .long])
def wsX0_init : List Cond := .code yX0_init cX0_init 1 none :: ([.methodLink RX0 5 objectInit, .instanceMethod objectInit, .code objectInit ⟨#[0xb1]⟩ 1 none, .arrayClass .long, .fieldLink RX0 11 "LadderDesk$Field" "wide" "[J", .fieldLink RX0 19 "LadderDesk$Field" "whole" "[J", .methodLink RX0 15 yX0_newRow, .static yX0_newRow, .initialized RX0, .code yX0_newRow cX0_newRow 0 (some (.array .long))] ++ wsX00)
def wsJ7_fill_d0a16 : List Cond := .code yJ7_fill_d0a16 cJ7_fill_d0a16 5 none :: ([])
def wsX0_setSmall : List Cond := .code yX0_setSmall cX0_setSmall 3 none :: ([.methodLink RX0 22 yJ7_fill_d0a16, .static yJ7_fill_d0a16, .initialized RJ7, .code yJ7_fill_d0a16 cJ7_fill_d0a16 5 none])
def wsX0_add : List Cond := .code yX0_add cX0_add 4 none :: ([])
def wsX0_subtract : List Cond := .code yX0_subtract cX0_subtract 4 none :: ([.constantLong RX0 28 (134216512), .constantLong RX0 30 (134217726)])
def wsX0_carry : List Cond := .code yX0_carry cX0_carry 6 none :: ([.constantLong RX0 57 (67108863), .constantLong RX0 45 (608)])
def wsX0_scale : List Cond := .code yX0_scale cX0_scale 3 none :: ([.constantLong RX0 32 (121665), .methodLink RX0 34 yX0_carry, .static yX0_carry, .initialized RX0, .code yX0_carry cX0_carry 6 none, .constantLong RX0 57 (67108863), .constantLong RX0 45 (608)])
def wsX0_gather : List Cond := .code yX0_gather cX0_gather 7 none :: ([.fieldLink RX0 11 "LadderDesk$Field" "wide" "[J", .methodLink RX0 22 yJ7_fill_d0a16, .static yJ7_fill_d0a16, .initialized RJ7, .code yJ7_fill_d0a16 cJ7_fill_d0a16 5 none] ++ wsX00)
def wsX0_carryWide : List Cond := .code yX0_carryWide cX0_carryWide 2 none :: ([.fieldLink RX0 11 "LadderDesk$Field" "wide" "[J", .constantLong RX0 57 (67108863)] ++ wsX00)
def wsX0_multiply : List Cond := .code yX0_multiply cX0_multiply 5 none :: ([.fieldLink RX0 11 "LadderDesk$Field" "wide" "[J", .constantLong RX0 45 (608), .methodLink RX0 38 yX0_gather, .instanceMethod yX0_gather, .selects RX0 yX0_gather yX0_gather, .initialized RX0, .code yX0_gather cX0_gather 7 none, .methodLink RX0 22 yJ7_fill_d0a16, .static yJ7_fill_d0a16, .initialized RJ7, .code yJ7_fill_d0a16 cJ7_fill_d0a16 5 none, .methodLink RX0 42 yX0_carryWide, .instanceMethod yX0_carryWide, .selects RX0 yX0_carryWide yX0_carryWide, .code yX0_carryWide cX0_carryWide 2 none, .constantLong RX0 57 (67108863), .methodLink RX0 34 yX0_carry, .static yX0_carry, .code yX0_carry cX0_carry 6 none] ++ wsX00)
def wsX0_invert_r1 : List Cond := [Cond.methodLink RX0 47 arraycopyName, Cond.native arraycopyName, Cond.static arraycopyName, Cond.initialized "java/lang/System", Cond.methodLink RX0 53 yX0_multiply, Cond.instanceMethod yX0_multiply, Cond.selects RX0 yX0_multiply yX0_multiply, Cond.initialized RX0, Cond.code yX0_multiply cX0_multiply 5 none, Cond.fieldLink RX0 11 "LadderDesk$Field" "wide" "[J", Cond.constantLong RX0 45 (608), Cond.methodLink RX0 38 yX0_gather, Cond.instanceMethod yX0_gather, Cond.selects RX0 yX0_gather yX0_gather, Cond.code yX0_gather cX0_gather 7 none, Cond.methodLink RX0 22 yJ7_fill_d0a16, Cond.static yJ7_fill_d0a16, Cond.initialized RJ7, Cond.code yJ7_fill_d0a16 cJ7_fill_d0a16 5 none, Cond.methodLink RX0 42 yX0_carryWide, Cond.instanceMethod yX0_carryWide, Cond.selects RX0 yX0_carryWide yX0_carryWide, Cond.code yX0_carryWide cX0_carryWide 2 none, Cond.constantLong RX0 57 (67108863)]
def wsX0_invert_r2 : List Cond := [Cond.methodLink RX0 34 yX0_carry, Cond.static yX0_carry, Cond.code yX0_carry cX0_carry 6 none]
def wsX0_invert : List Cond := .code yX0_invert cX0_invert 4 none :: ((wsX0_invert_r1 ++ wsX0_invert_r2) ++ wsX00)
def wsX0_read : List Cond := .code yX0_read cX0_read 7 none :: ([.constantLong RX0 57 (67108863)])
def wsX0_foldTop : List Cond := .code yX0_foldTop cX0_foldTop 2 none :: ([.constantLong RX0 57 (67108863), .constantLong RX0 74 (19), .constantLong RX0 76 (2097151)])
def wsX0_join : List Cond := .code yX0_join cX0_join 5 none :: ([.methodLink RX0 22 yJ7_fill_d0a16, .static yJ7_fill_d0a16, .initialized RJ7, .code yJ7_fill_d0a16 cJ7_fill_d0a16 5 none])
def wsX0_takeRest : List Cond := .code yX0_takeRest cX0_takeRest 2 none :: ([.constantLong RX0 68 (9223372036854775807), .constantLong RX0 70 (-1), .constantLong RX0 72 (-19), .constantLong RX0 74 (19)])
def wsX0_write_r1 : List Cond := [Cond.fieldLink RX0 19 "LadderDesk$Field" "whole" "[J", Cond.methodLink RX0 47 arraycopyName, Cond.native arraycopyName, Cond.static arraycopyName, Cond.initialized "java/lang/System", Cond.methodLink RX0 59 yX0_foldTop, Cond.static yX0_foldTop, Cond.initialized RX0, Cond.code yX0_foldTop cX0_foldTop 2 none, Cond.constantLong RX0 57 (67108863), Cond.constantLong RX0 74 (19), Cond.constantLong RX0 76 (2097151), Cond.methodLink RX0 62 yX0_join, Cond.static yX0_join, Cond.code yX0_join cX0_join 5 none, Cond.methodLink RX0 22 yJ7_fill_d0a16, Cond.static yJ7_fill_d0a16, Cond.initialized RJ7, Cond.code yJ7_fill_d0a16 cJ7_fill_d0a16 5 none, Cond.methodLink RX0 65 yX0_takeRest, Cond.static yX0_takeRest, Cond.code yX0_takeRest cX0_takeRest 2 none, Cond.constantLong RX0 68 (9223372036854775807), Cond.constantLong RX0 70 (-1)]
def wsX0_write_r2 : List Cond := [Cond.constantLong RX0 72 (-19)]
def wsX0_write : List Cond := .code yX0_write cX0_write 3 none :: ((wsX0_write_r1 ++ wsX0_write_r2) ++ wsX00)
def wsX1_init_r1 : List Cond := [Cond.methodLink RX1 3 objectInit, Cond.instanceMethod objectInit, Cond.code objectInit ⟨#[0xb1]⟩ 1 none, Cond.classLink RX1 9 RX0, Cond.instantiable RX0 2, Cond.initialized RX0, Cond.fieldLink RX1 12 "LadderDesk$Ladder" "field" "LLadderDesk$Field;", Cond.fieldLink RX1 22 "LadderDesk$Ladder" "u" "[J", Cond.fieldLink RX1 26 "LadderDesk$Ladder" "x2" "[J", Cond.fieldLink RX1 29 "LadderDesk$Ladder" "z2" "[J", Cond.fieldLink RX1 32 "LadderDesk$Ladder" "x3" "[J", Cond.fieldLink RX1 35 "LadderDesk$Ladder" "z3" "[J", Cond.fieldLink RX1 38 "LadderDesk$Ladder" "a" "[J", Cond.fieldLink RX1 41 "LadderDesk$Ladder" "b" "[J", Cond.fieldLink RX1 44 "LadderDesk$Ladder" "c" "[J", Cond.fieldLink RX1 47 "LadderDesk$Ladder" "d" "[J", Cond.fieldLink RX1 50 "LadderDesk$Ladder" "e" "[J", Cond.fieldLink RX1 53 "LadderDesk$Ladder" "aa" "[J", Cond.fieldLink RX1 56 "LadderDesk$Ladder" "bb" "[J", Cond.fieldLink RX1 59 "LadderDesk$Ladder" "da" "[J", Cond.fieldLink RX1 62 "LadderDesk$Ladder" "cb" "[J", Cond.fieldLink RX1 65 "LadderDesk$Ladder" "spare" "[J", Cond.arrayClass .long, Cond.fieldLink RX1 68 "LadderDesk$Ladder" "left" "[J"]
def wsX1_init_r2 : List Cond := [Cond.fieldLink RX1 71 "LadderDesk$Ladder" "right" "[J", Cond.methodLink RX1 11 yX0_init, Cond.instanceMethod yX0_init, Cond.code yX0_init cX0_init 1 none, Cond.methodLink RX0 5 objectInit, Cond.fieldLink RX0 11 "LadderDesk$Field" "wide" "[J", Cond.fieldLink RX0 19 "LadderDesk$Field" "whole" "[J", Cond.methodLink RX0 15 yX0_newRow, Cond.static yX0_newRow, Cond.code yX0_newRow cX0_newRow 0 (some (.array .long)), Cond.methodLink RX1 18 yX0_newRow]
def wsX1_init : List Cond := .code yX1_init cX1_init 1 none :: ((wsX1_init_r1 ++ wsX1_init_r2) ++ wsX00 ++ wsX10)
def wsX1_isPart : List Cond := .code yX1_isPart cX1_isPart 1 (some .boolean) :: ([])
def wsX1_begin : List Cond := .code yX1_begin cX1_begin 2 none :: ([.fieldLink RX1 22 "LadderDesk$Ladder" "u" "[J", .fieldLink RX1 26 "LadderDesk$Ladder" "x2" "[J", .fieldLink RX1 29 "LadderDesk$Ladder" "z2" "[J", .fieldLink RX1 32 "LadderDesk$Ladder" "x3" "[J", .fieldLink RX1 35 "LadderDesk$Ladder" "z3" "[J", .methodLink RX1 74 yX0_read, .static yX0_read, .initialized RX0, .code yX0_read cX0_read 7 none, .constantLong RX0 57 (67108863), .methodLink RX1 78 yX0_setSmall, .static yX0_setSmall, .code yX0_setSmall cX0_setSmall 3 none, .methodLink RX0 22 yJ7_fill_d0a16, .static yJ7_fill_d0a16, .initialized RJ7, .code yJ7_fill_d0a16 cJ7_fill_d0a16 5 none] ++ wsX10)
def wsX1_changePlaces : List Cond := .code yX1_changePlaces cX1_changePlaces 3 none :: ([.fieldLink RX1 26 "LadderDesk$Ladder" "x2" "[J", .fieldLink RX1 32 "LadderDesk$Ladder" "x3" "[J", .fieldLink RX1 29 "LadderDesk$Ladder" "z2" "[J", .fieldLink RX1 35 "LadderDesk$Ladder" "z3" "[J"] ++ wsX10)
def wsX1_makeSums : List Cond := .code yX1_makeSums cX1_makeSums 1 none :: ([.fieldLink RX1 38 "LadderDesk$Ladder" "a" "[J", .fieldLink RX1 26 "LadderDesk$Ladder" "x2" "[J", .fieldLink RX1 29 "LadderDesk$Ladder" "z2" "[J", .fieldLink RX1 41 "LadderDesk$Ladder" "b" "[J", .fieldLink RX1 44 "LadderDesk$Ladder" "c" "[J", .fieldLink RX1 32 "LadderDesk$Ladder" "x3" "[J", .fieldLink RX1 35 "LadderDesk$Ladder" "z3" "[J", .fieldLink RX1 47 "LadderDesk$Ladder" "d" "[J", .methodLink RX1 116 yX0_add, .static yX0_add, .initialized RX0, .code yX0_add cX0_add 4 none, .methodLink RX1 119 yX0_subtract, .static yX0_subtract, .code yX0_subtract cX0_subtract 4 none, .constantLong RX0 28 (134216512), .constantLong RX0 30 (134217726)] ++ wsX10)
def wsX1_makeDouble_r1 : List Cond := [Cond.fieldLink RX1 12 "LadderDesk$Ladder" "field" "LLadderDesk$Field;", Cond.fieldLink RX1 53 "LadderDesk$Ladder" "aa" "[J", Cond.fieldLink RX1 38 "LadderDesk$Ladder" "a" "[J", Cond.fieldLink RX1 56 "LadderDesk$Ladder" "bb" "[J", Cond.fieldLink RX1 41 "LadderDesk$Ladder" "b" "[J", Cond.fieldLink RX1 50 "LadderDesk$Ladder" "e" "[J", Cond.fieldLink RX1 26 "LadderDesk$Ladder" "x2" "[J", Cond.fieldLink RX1 65 "LadderDesk$Ladder" "spare" "[J", Cond.fieldLink RX1 29 "LadderDesk$Ladder" "z2" "[J", Cond.methodLink RX1 104 yX0_multiply, Cond.instanceMethod yX0_multiply, Cond.selects RX0 yX0_multiply yX0_multiply, Cond.initialized RX0, Cond.code yX0_multiply cX0_multiply 5 none, Cond.fieldLink RX0 11 "LadderDesk$Field" "wide" "[J", Cond.constantLong RX0 45 (608), Cond.methodLink RX0 38 yX0_gather, Cond.instanceMethod yX0_gather, Cond.selects RX0 yX0_gather yX0_gather, Cond.code yX0_gather cX0_gather 7 none, Cond.methodLink RX0 22 yJ7_fill_d0a16, Cond.static yJ7_fill_d0a16, Cond.initialized RJ7, Cond.code yJ7_fill_d0a16 cJ7_fill_d0a16 5 none]
def wsX1_makeDouble_r2 : List Cond := [Cond.methodLink RX0 42 yX0_carryWide, Cond.instanceMethod yX0_carryWide, Cond.selects RX0 yX0_carryWide yX0_carryWide, Cond.code yX0_carryWide cX0_carryWide 2 none, Cond.constantLong RX0 57 (67108863), Cond.methodLink RX0 34 yX0_carry, Cond.static yX0_carry, Cond.code yX0_carry cX0_carry 6 none, Cond.methodLink RX1 119 yX0_subtract, Cond.static yX0_subtract, Cond.code yX0_subtract cX0_subtract 4 none, Cond.constantLong RX0 28 (134216512), Cond.constantLong RX0 30 (134217726), Cond.methodLink RX1 122 yX0_scale, Cond.static yX0_scale, Cond.code yX0_scale cX0_scale 3 none, Cond.constantLong RX0 32 (121665), Cond.methodLink RX1 116 yX0_add, Cond.static yX0_add, Cond.code yX0_add cX0_add 4 none]
def wsX1_makeDouble : List Cond := .code yX1_makeDouble cX1_makeDouble 1 none :: ((wsX1_makeDouble_r1 ++ wsX1_makeDouble_r2) ++ wsX10 ++ wsX00)
def wsX1_makeOther_r1 : List Cond := [Cond.fieldLink RX1 12 "LadderDesk$Ladder" "field" "LLadderDesk$Field;", Cond.fieldLink RX1 59 "LadderDesk$Ladder" "da" "[J", Cond.fieldLink RX1 47 "LadderDesk$Ladder" "d" "[J", Cond.fieldLink RX1 38 "LadderDesk$Ladder" "a" "[J", Cond.fieldLink RX1 62 "LadderDesk$Ladder" "cb" "[J", Cond.fieldLink RX1 44 "LadderDesk$Ladder" "c" "[J", Cond.fieldLink RX1 41 "LadderDesk$Ladder" "b" "[J", Cond.fieldLink RX1 65 "LadderDesk$Ladder" "spare" "[J", Cond.fieldLink RX1 32 "LadderDesk$Ladder" "x3" "[J", Cond.fieldLink RX1 35 "LadderDesk$Ladder" "z3" "[J", Cond.fieldLink RX1 22 "LadderDesk$Ladder" "u" "[J", Cond.methodLink RX1 104 yX0_multiply, Cond.instanceMethod yX0_multiply, Cond.selects RX0 yX0_multiply yX0_multiply, Cond.initialized RX0, Cond.code yX0_multiply cX0_multiply 5 none, Cond.fieldLink RX0 11 "LadderDesk$Field" "wide" "[J", Cond.constantLong RX0 45 (608), Cond.methodLink RX0 38 yX0_gather, Cond.instanceMethod yX0_gather, Cond.selects RX0 yX0_gather yX0_gather, Cond.code yX0_gather cX0_gather 7 none, Cond.methodLink RX0 22 yJ7_fill_d0a16, Cond.static yJ7_fill_d0a16]
def wsX1_makeOther_r2 : List Cond := [Cond.initialized RJ7, Cond.code yJ7_fill_d0a16 cJ7_fill_d0a16 5 none, Cond.methodLink RX0 42 yX0_carryWide, Cond.instanceMethod yX0_carryWide, Cond.selects RX0 yX0_carryWide yX0_carryWide, Cond.code yX0_carryWide cX0_carryWide 2 none, Cond.constantLong RX0 57 (67108863), Cond.methodLink RX0 34 yX0_carry, Cond.static yX0_carry, Cond.code yX0_carry cX0_carry 6 none, Cond.methodLink RX1 116 yX0_add, Cond.static yX0_add, Cond.code yX0_add cX0_add 4 none, Cond.methodLink RX1 119 yX0_subtract, Cond.static yX0_subtract, Cond.code yX0_subtract cX0_subtract 4 none, Cond.constantLong RX0 28 (134216512), Cond.constantLong RX0 30 (134217726)]
def wsX1_makeOther : List Cond := .code yX1_makeOther cX1_makeOther 1 none :: ((wsX1_makeOther_r1 ++ wsX1_makeOther_r2) ++ wsX10 ++ wsX00)
def wsX1_walk_r1 : List Cond := [Cond.methodLink RX1 82 yX1_changePlaces, Cond.instanceMethod yX1_changePlaces, Cond.selects RX1 yX1_changePlaces yX1_changePlaces, Cond.initialized RX1, Cond.code yX1_changePlaces cX1_changePlaces 3 none, Cond.fieldLink RX1 26 "LadderDesk$Ladder" "x2" "[J", Cond.fieldLink RX1 32 "LadderDesk$Ladder" "x3" "[J", Cond.fieldLink RX1 29 "LadderDesk$Ladder" "z2" "[J", Cond.fieldLink RX1 35 "LadderDesk$Ladder" "z3" "[J", Cond.methodLink RX1 85 yX1_makeSums, Cond.instanceMethod yX1_makeSums, Cond.selects RX1 yX1_makeSums yX1_makeSums, Cond.code yX1_makeSums cX1_makeSums 1 none, Cond.fieldLink RX1 38 "LadderDesk$Ladder" "a" "[J", Cond.fieldLink RX1 41 "LadderDesk$Ladder" "b" "[J", Cond.fieldLink RX1 44 "LadderDesk$Ladder" "c" "[J", Cond.fieldLink RX1 47 "LadderDesk$Ladder" "d" "[J", Cond.methodLink RX1 116 yX0_add, Cond.static yX0_add, Cond.initialized RX0, Cond.code yX0_add cX0_add 4 none, Cond.methodLink RX1 119 yX0_subtract, Cond.static yX0_subtract, Cond.code yX0_subtract cX0_subtract 4 none]
def wsX1_walk_r2 : List Cond := [Cond.constantLong RX0 28 (134216512), Cond.constantLong RX0 30 (134217726), Cond.methodLink RX1 88 yX1_makeDouble, Cond.instanceMethod yX1_makeDouble, Cond.selects RX1 yX1_makeDouble yX1_makeDouble, Cond.code yX1_makeDouble cX1_makeDouble 1 none, Cond.fieldLink RX1 12 "LadderDesk$Ladder" "field" "LLadderDesk$Field;", Cond.fieldLink RX1 53 "LadderDesk$Ladder" "aa" "[J", Cond.fieldLink RX1 56 "LadderDesk$Ladder" "bb" "[J", Cond.fieldLink RX1 50 "LadderDesk$Ladder" "e" "[J", Cond.fieldLink RX1 65 "LadderDesk$Ladder" "spare" "[J", Cond.methodLink RX1 104 yX0_multiply, Cond.instanceMethod yX0_multiply, Cond.selects RX0 yX0_multiply yX0_multiply, Cond.code yX0_multiply cX0_multiply 5 none, Cond.fieldLink RX0 11 "LadderDesk$Field" "wide" "[J", Cond.constantLong RX0 45 (608), Cond.methodLink RX0 38 yX0_gather, Cond.instanceMethod yX0_gather, Cond.selects RX0 yX0_gather yX0_gather, Cond.code yX0_gather cX0_gather 7 none, Cond.methodLink RX0 22 yJ7_fill_d0a16, Cond.static yJ7_fill_d0a16, Cond.initialized RJ7]
def wsX1_walk_r3 : List Cond := [Cond.code yJ7_fill_d0a16 cJ7_fill_d0a16 5 none, Cond.methodLink RX0 42 yX0_carryWide, Cond.instanceMethod yX0_carryWide, Cond.selects RX0 yX0_carryWide yX0_carryWide, Cond.code yX0_carryWide cX0_carryWide 2 none, Cond.constantLong RX0 57 (67108863), Cond.methodLink RX0 34 yX0_carry, Cond.static yX0_carry, Cond.code yX0_carry cX0_carry 6 none, Cond.methodLink RX1 122 yX0_scale, Cond.static yX0_scale, Cond.code yX0_scale cX0_scale 3 none, Cond.constantLong RX0 32 (121665), Cond.methodLink RX1 91 yX1_makeOther, Cond.instanceMethod yX1_makeOther, Cond.selects RX1 yX1_makeOther yX1_makeOther, Cond.code yX1_makeOther cX1_makeOther 1 none, Cond.fieldLink RX1 59 "LadderDesk$Ladder" "da" "[J", Cond.fieldLink RX1 62 "LadderDesk$Ladder" "cb" "[J", Cond.fieldLink RX1 22 "LadderDesk$Ladder" "u" "[J"]
def wsX1_walk : List Cond := .code yX1_walk cX1_walk 2 none :: ((wsX1_walk_r1 ++ (wsX1_walk_r2 ++ wsX1_walk_r3)) ++ wsX10 ++ wsX00)
def wsX1_rowOf : List Cond := .code yX1_rowOf cX1_rowOf 2 (some (.array .long)) :: ([.fieldLink RX1 26 "LadderDesk$Ladder" "x2" "[J", .fieldLink RX1 29 "LadderDesk$Ladder" "z2" "[J", .fieldLink RX1 32 "LadderDesk$Ladder" "x3" "[J", .fieldLink RX1 35 "LadderDesk$Ladder" "z3" "[J", .fieldLink RX1 22 "LadderDesk$Ladder" "u" "[J"] ++ wsX10)
def wsX1_writePart_r1 : List Cond := [Cond.fieldLink RX1 12 "LadderDesk$Ladder" "field" "LLadderDesk$Field;", Cond.methodLink RX1 94 yX1_rowOf, Cond.instanceMethod yX1_rowOf, Cond.selects RX1 yX1_rowOf yX1_rowOf, Cond.initialized RX1, Cond.code yX1_rowOf cX1_rowOf 2 (some (.array .long)), Cond.fieldLink RX1 26 "LadderDesk$Ladder" "x2" "[J", Cond.fieldLink RX1 29 "LadderDesk$Ladder" "z2" "[J", Cond.fieldLink RX1 32 "LadderDesk$Ladder" "x3" "[J", Cond.fieldLink RX1 35 "LadderDesk$Ladder" "z3" "[J", Cond.fieldLink RX1 22 "LadderDesk$Ladder" "u" "[J", Cond.methodLink RX1 98 yX0_write, Cond.instanceMethod yX0_write, Cond.selects RX0 yX0_write yX0_write, Cond.initialized RX0, Cond.code yX0_write cX0_write 3 none, Cond.fieldLink RX0 19 "LadderDesk$Field" "whole" "[J", Cond.methodLink RX0 47 arraycopyName, Cond.native arraycopyName, Cond.static arraycopyName, Cond.initialized "java/lang/System", Cond.methodLink RX0 59 yX0_foldTop, Cond.static yX0_foldTop, Cond.code yX0_foldTop cX0_foldTop 2 none]
def wsX1_writePart_r2 : List Cond := [Cond.constantLong RX0 57 (67108863), Cond.constantLong RX0 74 (19), Cond.constantLong RX0 76 (2097151), Cond.methodLink RX0 62 yX0_join, Cond.static yX0_join, Cond.code yX0_join cX0_join 5 none, Cond.methodLink RX0 22 yJ7_fill_d0a16, Cond.static yJ7_fill_d0a16, Cond.initialized RJ7, Cond.code yJ7_fill_d0a16 cJ7_fill_d0a16 5 none, Cond.methodLink RX0 65 yX0_takeRest, Cond.static yX0_takeRest, Cond.code yX0_takeRest cX0_takeRest 2 none, Cond.constantLong RX0 68 (9223372036854775807), Cond.constantLong RX0 70 (-1), Cond.constantLong RX0 72 (-19)]
def wsX1_writePart : List Cond := .code yX1_writePart cX1_writePart 3 none :: ((wsX1_writePart_r1 ++ wsX1_writePart_r2) ++ wsX10 ++ wsX00)
def wsX1_writeResult_r1 : List Cond := [Cond.fieldLink RX1 12 "LadderDesk$Ladder" "field" "LLadderDesk$Field;", Cond.fieldLink RX1 65 "LadderDesk$Ladder" "spare" "[J", Cond.fieldLink RX1 29 "LadderDesk$Ladder" "z2" "[J", Cond.fieldLink RX1 26 "LadderDesk$Ladder" "x2" "[J", Cond.methodLink RX1 101 yX0_invert, Cond.instanceMethod yX0_invert, Cond.selects RX0 yX0_invert yX0_invert, Cond.initialized RX0, Cond.code yX0_invert cX0_invert 4 none, Cond.methodLink RX0 47 arraycopyName, Cond.native arraycopyName, Cond.static arraycopyName, Cond.initialized "java/lang/System", Cond.methodLink RX0 53 yX0_multiply, Cond.instanceMethod yX0_multiply, Cond.selects RX0 yX0_multiply yX0_multiply, Cond.code yX0_multiply cX0_multiply 5 none, Cond.fieldLink RX0 11 "LadderDesk$Field" "wide" "[J", Cond.constantLong RX0 45 (608), Cond.methodLink RX0 38 yX0_gather, Cond.instanceMethod yX0_gather, Cond.selects RX0 yX0_gather yX0_gather, Cond.code yX0_gather cX0_gather 7 none, Cond.methodLink RX0 22 yJ7_fill_d0a16]
def wsX1_writeResult_r2 : List Cond := [Cond.static yJ7_fill_d0a16, Cond.initialized RJ7, Cond.code yJ7_fill_d0a16 cJ7_fill_d0a16 5 none, Cond.methodLink RX0 42 yX0_carryWide, Cond.instanceMethod yX0_carryWide, Cond.selects RX0 yX0_carryWide yX0_carryWide, Cond.code yX0_carryWide cX0_carryWide 2 none, Cond.constantLong RX0 57 (67108863), Cond.methodLink RX0 34 yX0_carry, Cond.static yX0_carry, Cond.code yX0_carry cX0_carry 6 none, Cond.methodLink RX1 104 yX0_multiply, Cond.methodLink RX1 98 yX0_write, Cond.instanceMethod yX0_write, Cond.selects RX0 yX0_write yX0_write, Cond.code yX0_write cX0_write 3 none, Cond.fieldLink RX0 19 "LadderDesk$Field" "whole" "[J", Cond.methodLink RX0 59 yX0_foldTop, Cond.static yX0_foldTop, Cond.code yX0_foldTop cX0_foldTop 2 none, Cond.constantLong RX0 74 (19), Cond.constantLong RX0 76 (2097151), Cond.methodLink RX0 62 yX0_join, Cond.static yX0_join]
def wsX1_writeResult_r3 : List Cond := [Cond.code yX0_join cX0_join 5 none, Cond.methodLink RX0 65 yX0_takeRest, Cond.static yX0_takeRest, Cond.code yX0_takeRest cX0_takeRest 2 none, Cond.constantLong RX0 68 (9223372036854775807), Cond.constantLong RX0 70 (-1), Cond.constantLong RX0 72 (-19)]
def wsX1_writeResult : List Cond := .code yX1_writeResult cX1_writeResult 2 none :: ((wsX1_writeResult_r1 ++ (wsX1_writeResult_r2 ++ wsX1_writeResult_r3)) ++ wsX10 ++ wsX00)
def wsX1_isZero : List Cond := .code yX1_isZero cX1_isZero 1 (some .boolean) :: ([])
def wsX1_areEqual : List Cond := .code yX1_areEqual cX1_areEqual 3 (some .boolean) :: ([])
def wsX1_agreesWith_r1 : List Cond := [Cond.fieldLink RX1 12 "LadderDesk$Ladder" "field" "LLadderDesk$Field;", Cond.fieldLink RX1 68 "LadderDesk$Ladder" "left" "[J", Cond.fieldLink RX1 29 "LadderDesk$Ladder" "z2" "[J", Cond.fieldLink RX1 65 "LadderDesk$Ladder" "spare" "[J", Cond.fieldLink RX1 71 "LadderDesk$Ladder" "right" "[J", Cond.fieldLink RX1 26 "LadderDesk$Ladder" "x2" "[J", Cond.methodLink RX1 98 yX0_write, Cond.instanceMethod yX0_write, Cond.selects RX0 yX0_write yX0_write, Cond.initialized RX0, Cond.code yX0_write cX0_write 3 none, Cond.fieldLink RX0 19 "LadderDesk$Field" "whole" "[J", Cond.methodLink RX0 47 arraycopyName, Cond.native arraycopyName, Cond.static arraycopyName, Cond.initialized "java/lang/System", Cond.methodLink RX0 59 yX0_foldTop, Cond.static yX0_foldTop, Cond.code yX0_foldTop cX0_foldTop 2 none, Cond.constantLong RX0 57 (67108863), Cond.constantLong RX0 74 (19), Cond.constantLong RX0 76 (2097151), Cond.methodLink RX0 62 yX0_join, Cond.static yX0_join]
def wsX1_agreesWith_r2 : List Cond := [Cond.code yX0_join cX0_join 5 none, Cond.methodLink RX0 22 yJ7_fill_d0a16, Cond.static yJ7_fill_d0a16, Cond.initialized RJ7, Cond.code yJ7_fill_d0a16 cJ7_fill_d0a16 5 none, Cond.methodLink RX0 65 yX0_takeRest, Cond.static yX0_takeRest, Cond.code yX0_takeRest cX0_takeRest 2 none, Cond.constantLong RX0 68 (9223372036854775807), Cond.constantLong RX0 70 (-1), Cond.constantLong RX0 72 (-19), Cond.methodLink RX1 108 yX1_isZero, Cond.static yX1_isZero, Cond.initialized RX1, Cond.code yX1_isZero cX1_isZero 1 (some .boolean), Cond.methodLink RX1 74 yX0_read, Cond.static yX0_read, Cond.code yX0_read cX0_read 7 none, Cond.methodLink RX1 104 yX0_multiply, Cond.instanceMethod yX0_multiply, Cond.selects RX0 yX0_multiply yX0_multiply, Cond.code yX0_multiply cX0_multiply 5 none, Cond.fieldLink RX0 11 "LadderDesk$Field" "wide" "[J", Cond.constantLong RX0 45 (608)]
def wsX1_agreesWith_r3 : List Cond := [Cond.methodLink RX0 38 yX0_gather, Cond.instanceMethod yX0_gather, Cond.selects RX0 yX0_gather yX0_gather, Cond.code yX0_gather cX0_gather 7 none, Cond.methodLink RX0 42 yX0_carryWide, Cond.instanceMethod yX0_carryWide, Cond.selects RX0 yX0_carryWide yX0_carryWide, Cond.code yX0_carryWide cX0_carryWide 2 none, Cond.methodLink RX0 34 yX0_carry, Cond.static yX0_carry, Cond.code yX0_carry cX0_carry 6 none, Cond.methodLink RX1 112 yX1_areEqual, Cond.static yX1_areEqual, Cond.code yX1_areEqual cX1_areEqual 3 (some .boolean)]
def wsX1_agreesWith : List Cond := .code yX1_agreesWith cX1_agreesWith 2 (some .boolean) :: ((wsX1_agreesWith_r1 ++ (wsX1_agreesWith_r2 ++ wsX1_agreesWith_r3)) ++ wsX10 ++ wsX00)
def wsX2_init_r1 : List Cond := [Cond.methodLink RX2 1 objectInit, Cond.instanceMethod objectInit, Cond.code objectInit ⟨#[0xb1]⟩ 1 none, Cond.arrayClass .long, Cond.fieldLink RX2 9 "LadderDesk" "scalarTold" "[J", Cond.fieldLink RX2 13 "LadderDesk" "pointTold" "[J", Cond.fieldLink RX2 16 "LadderDesk" "result" "[J", Cond.fieldLink RX2 19 "LadderDesk" "answer" "[J", Cond.classLink RX2 22 RX1, Cond.instantiable RX1 18, Cond.initialized RX1, Cond.fieldLink RX2 25 "LadderDesk" "ladder" "LLadderDesk$Ladder;", Cond.fieldLink RX2 29 "LadderDesk" "phaseNow" "I", Cond.fieldLink RX2 33 "LadderDesk" "stepsMade" "I", Cond.fieldLink RX2 36 "LadderDesk" "resultsHad" "I", Cond.methodLink RX2 24 yX1_init, Cond.instanceMethod yX1_init, Cond.code yX1_init cX1_init 1 none, Cond.methodLink RX1 3 objectInit, Cond.classLink RX1 9 RX0, Cond.instantiable RX0 2, Cond.initialized RX0, Cond.fieldLink RX1 12 "LadderDesk$Ladder" "field" "LLadderDesk$Field;", Cond.fieldLink RX1 22 "LadderDesk$Ladder" "u" "[J"]
def wsX2_init_r2 : List Cond := [Cond.fieldLink RX1 26 "LadderDesk$Ladder" "x2" "[J", Cond.fieldLink RX1 29 "LadderDesk$Ladder" "z2" "[J", Cond.fieldLink RX1 32 "LadderDesk$Ladder" "x3" "[J", Cond.fieldLink RX1 35 "LadderDesk$Ladder" "z3" "[J", Cond.fieldLink RX1 38 "LadderDesk$Ladder" "a" "[J", Cond.fieldLink RX1 41 "LadderDesk$Ladder" "b" "[J", Cond.fieldLink RX1 44 "LadderDesk$Ladder" "c" "[J", Cond.fieldLink RX1 47 "LadderDesk$Ladder" "d" "[J", Cond.fieldLink RX1 50 "LadderDesk$Ladder" "e" "[J", Cond.fieldLink RX1 53 "LadderDesk$Ladder" "aa" "[J", Cond.fieldLink RX1 56 "LadderDesk$Ladder" "bb" "[J", Cond.fieldLink RX1 59 "LadderDesk$Ladder" "da" "[J", Cond.fieldLink RX1 62 "LadderDesk$Ladder" "cb" "[J", Cond.fieldLink RX1 65 "LadderDesk$Ladder" "spare" "[J", Cond.fieldLink RX1 68 "LadderDesk$Ladder" "left" "[J", Cond.fieldLink RX1 71 "LadderDesk$Ladder" "right" "[J", Cond.methodLink RX1 11 yX0_init, Cond.instanceMethod yX0_init, Cond.code yX0_init cX0_init 1 none, Cond.methodLink RX0 5 objectInit, Cond.fieldLink RX0 11 "LadderDesk$Field" "wide" "[J", Cond.fieldLink RX0 19 "LadderDesk$Field" "whole" "[J", Cond.methodLink RX0 15 yX0_newRow, Cond.static yX0_newRow]
def wsX2_init_r3 : List Cond := [Cond.code yX0_newRow cX0_newRow 0 (some (.array .long)), Cond.methodLink RX1 18 yX0_newRow]
def wsX2_init : List Cond := .code yX2_init cX2_init 1 none :: ((wsX2_init_r1 ++ (wsX2_init_r2 ++ wsX2_init_r3)) ++ wsX20 ++ wsX10 ++ wsX00)
def wsX2_isLong : List Cond := .code yX2_isLong cX2_isLong 1 (some .boolean) :: ([])
def wsX2_tell : List Cond := .code yX2_tell cX2_tell 5 (some .int) :: ([.fieldLink RX2 29 "LadderDesk" "phaseNow" "I", .methodLink RX2 73 yX2_isLong, .static yX2_isLong, .initialized RX2, .code yX2_isLong cX2_isLong 1 (some .boolean)] ++ wsX20)
def wsX2_scalar : List Cond := .code yX2_scalar cX2_scalar 4 (some .int) :: ([.fieldLink RX2 9 "LadderDesk" "scalarTold" "[J", .methodLink RX2 39 yX2_tell, .instanceMethod yX2_tell, .selects RX2 yX2_tell yX2_tell, .initialized RX2, .code yX2_tell cX2_tell 5 (some .int), .fieldLink RX2 29 "LadderDesk" "phaseNow" "I", .methodLink RX2 73 yX2_isLong, .static yX2_isLong, .code yX2_isLong cX2_isLong 1 (some .boolean)] ++ wsX20)
def wsX2_point : List Cond := .code yX2_point cX2_point 4 (some .int) :: ([.fieldLink RX2 13 "LadderDesk" "pointTold" "[J", .methodLink RX2 39 yX2_tell, .instanceMethod yX2_tell, .selects RX2 yX2_tell yX2_tell, .initialized RX2, .code yX2_tell cX2_tell 5 (some .int), .fieldLink RX2 29 "LadderDesk" "phaseNow" "I", .methodLink RX2 73 yX2_isLong, .static yX2_isLong, .code yX2_isLong cX2_isLong 1 (some .boolean)] ++ wsX20)
def wsX2_writeU : List Cond := .code yX2_writeU cX2_writeU 2 none :: ([.fieldLink RX2 13 "LadderDesk" "pointTold" "[J", .methodLink RX2 67 arraycopyName, .native arraycopyName, .static arraycopyName, .initialized "java/lang/System", .constantLong RX2 93 (9223372036854775807), .methodLink RX2 97 yX0_takeRest, .static yX0_takeRest, .initialized RX0, .code yX0_takeRest cX0_takeRest 2 none, .constantLong RX0 68 (9223372036854775807), .constantLong RX0 70 (-1), .constantLong RX0 72 (-19), .constantLong RX0 74 (19)] ++ wsX20)
def wsX2_start_r1 : List Cond := [Cond.fieldLink RX2 29 "LadderDesk" "phaseNow" "I", Cond.fieldLink RX2 19 "LadderDesk" "answer" "[J", Cond.fieldLink RX2 25 "LadderDesk" "ladder" "LLadderDesk$Ladder;", Cond.fieldLink RX2 33 "LadderDesk" "stepsMade" "I", Cond.methodLink RX2 43 yX2_writeU, Cond.instanceMethod yX2_writeU, Cond.selects RX2 yX2_writeU yX2_writeU, Cond.initialized RX2, Cond.code yX2_writeU cX2_writeU 2 none, Cond.fieldLink RX2 13 "LadderDesk" "pointTold" "[J", Cond.methodLink RX2 67 arraycopyName, Cond.native arraycopyName, Cond.static arraycopyName, Cond.initialized "java/lang/System", Cond.constantLong RX2 93 (9223372036854775807), Cond.methodLink RX2 97 yX0_takeRest, Cond.static yX0_takeRest, Cond.initialized RX0, Cond.code yX0_takeRest cX0_takeRest 2 none, Cond.constantLong RX0 68 (9223372036854775807), Cond.constantLong RX0 70 (-1), Cond.constantLong RX0 72 (-19), Cond.constantLong RX0 74 (19), Cond.methodLink RX2 47 yX1_begin]
def wsX2_start_r2 : List Cond := [Cond.instanceMethod yX1_begin, Cond.selects RX1 yX1_begin yX1_begin, Cond.initialized RX1, Cond.code yX1_begin cX1_begin 2 none, Cond.fieldLink RX1 22 "LadderDesk$Ladder" "u" "[J", Cond.fieldLink RX1 26 "LadderDesk$Ladder" "x2" "[J", Cond.fieldLink RX1 29 "LadderDesk$Ladder" "z2" "[J", Cond.fieldLink RX1 32 "LadderDesk$Ladder" "x3" "[J", Cond.fieldLink RX1 35 "LadderDesk$Ladder" "z3" "[J", Cond.methodLink RX1 74 yX0_read, Cond.static yX0_read, Cond.code yX0_read cX0_read 7 none, Cond.constantLong RX0 57 (67108863), Cond.methodLink RX1 78 yX0_setSmall, Cond.static yX0_setSmall, Cond.code yX0_setSmall cX0_setSmall 3 none, Cond.methodLink RX0 22 yJ7_fill_d0a16, Cond.static yJ7_fill_d0a16, Cond.initialized RJ7, Cond.code yJ7_fill_d0a16 cJ7_fill_d0a16 5 none]
def wsX2_start : List Cond := .code yX2_start cX2_start 1 (some .int) :: ((wsX2_start_r1 ++ wsX2_start_r2) ++ wsX20 ++ wsX10)
def wsX2_clampedLong : List Cond := .code yX2_clampedLong cX2_clampedLong 4 (some .long) :: ([.fieldLink RX2 9 "LadderDesk" "scalarTold" "[J", .constantLong RX2 91 (-8), .constantLong RX2 93 (9223372036854775807), .constantLong RX2 95 (4611686018427387904)] ++ wsX20)
def wsX2_clampedBit : List Cond := .code yX2_clampedBit cX2_clampedBit 2 (some .boolean) :: ([.methodLink RX2 83 yX2_clampedLong, .instanceMethod yX2_clampedLong, .selects RX2 yX2_clampedLong yX2_clampedLong, .initialized RX2, .code yX2_clampedLong cX2_clampedLong 4 (some .long), .fieldLink RX2 9 "LadderDesk" "scalarTold" "[J", .constantLong RX2 91 (-8), .constantLong RX2 93 (9223372036854775807), .constantLong RX2 95 (4611686018427387904)] ++ wsX20)
def wsX2_step_r1 : List Cond := [Cond.fieldLink RX2 29 "LadderDesk" "phaseNow" "I", Cond.fieldLink RX2 33 "LadderDesk" "stepsMade" "I", Cond.methodLink RX2 50 Lib.Math.min.name, Cond.static Lib.Math.min.name, Cond.initialized "java/lang/Math", Cond.code Lib.Math.min.name Lib.Math.min.code 2 (some .int), Cond.fieldLink RX2 25 "LadderDesk" "ladder" "LLadderDesk$Ladder;", Cond.methodLink RX2 56 yX2_clampedBit, Cond.instanceMethod yX2_clampedBit, Cond.selects RX2 yX2_clampedBit yX2_clampedBit, Cond.initialized RX2, Cond.code yX2_clampedBit cX2_clampedBit 2 (some .boolean), Cond.methodLink RX2 83 yX2_clampedLong, Cond.instanceMethod yX2_clampedLong, Cond.selects RX2 yX2_clampedLong yX2_clampedLong, Cond.code yX2_clampedLong cX2_clampedLong 4 (some .long), Cond.fieldLink RX2 9 "LadderDesk" "scalarTold" "[J", Cond.constantLong RX2 91 (-8), Cond.constantLong RX2 93 (9223372036854775807), Cond.constantLong RX2 95 (4611686018427387904), Cond.methodLink RX2 60 yX1_walk, Cond.instanceMethod yX1_walk, Cond.selects RX1 yX1_walk yX1_walk, Cond.initialized RX1]
def wsX2_step_r2 : List Cond := [Cond.code yX1_walk cX1_walk 2 none, Cond.methodLink RX1 82 yX1_changePlaces, Cond.instanceMethod yX1_changePlaces, Cond.selects RX1 yX1_changePlaces yX1_changePlaces, Cond.code yX1_changePlaces cX1_changePlaces 3 none, Cond.fieldLink RX1 26 "LadderDesk$Ladder" "x2" "[J", Cond.fieldLink RX1 32 "LadderDesk$Ladder" "x3" "[J", Cond.fieldLink RX1 29 "LadderDesk$Ladder" "z2" "[J", Cond.fieldLink RX1 35 "LadderDesk$Ladder" "z3" "[J", Cond.methodLink RX1 85 yX1_makeSums, Cond.instanceMethod yX1_makeSums, Cond.selects RX1 yX1_makeSums yX1_makeSums, Cond.code yX1_makeSums cX1_makeSums 1 none, Cond.fieldLink RX1 38 "LadderDesk$Ladder" "a" "[J", Cond.fieldLink RX1 41 "LadderDesk$Ladder" "b" "[J", Cond.fieldLink RX1 44 "LadderDesk$Ladder" "c" "[J", Cond.fieldLink RX1 47 "LadderDesk$Ladder" "d" "[J", Cond.methodLink RX1 116 yX0_add, Cond.static yX0_add, Cond.initialized RX0, Cond.code yX0_add cX0_add 4 none, Cond.methodLink RX1 119 yX0_subtract, Cond.static yX0_subtract, Cond.code yX0_subtract cX0_subtract 4 none]
def wsX2_step_r3 : List Cond := [Cond.constantLong RX0 28 (134216512), Cond.constantLong RX0 30 (134217726), Cond.methodLink RX1 88 yX1_makeDouble, Cond.instanceMethod yX1_makeDouble, Cond.selects RX1 yX1_makeDouble yX1_makeDouble, Cond.code yX1_makeDouble cX1_makeDouble 1 none, Cond.fieldLink RX1 12 "LadderDesk$Ladder" "field" "LLadderDesk$Field;", Cond.fieldLink RX1 53 "LadderDesk$Ladder" "aa" "[J", Cond.fieldLink RX1 56 "LadderDesk$Ladder" "bb" "[J", Cond.fieldLink RX1 50 "LadderDesk$Ladder" "e" "[J", Cond.fieldLink RX1 65 "LadderDesk$Ladder" "spare" "[J", Cond.methodLink RX1 104 yX0_multiply, Cond.instanceMethod yX0_multiply, Cond.selects RX0 yX0_multiply yX0_multiply, Cond.code yX0_multiply cX0_multiply 5 none, Cond.fieldLink RX0 11 "LadderDesk$Field" "wide" "[J", Cond.constantLong RX0 45 (608), Cond.methodLink RX0 38 yX0_gather, Cond.instanceMethod yX0_gather, Cond.selects RX0 yX0_gather yX0_gather, Cond.code yX0_gather cX0_gather 7 none, Cond.methodLink RX0 22 yJ7_fill_d0a16, Cond.static yJ7_fill_d0a16, Cond.initialized RJ7]
def wsX2_step_r4 : List Cond := [Cond.code yJ7_fill_d0a16 cJ7_fill_d0a16 5 none, Cond.methodLink RX0 42 yX0_carryWide, Cond.instanceMethod yX0_carryWide, Cond.selects RX0 yX0_carryWide yX0_carryWide, Cond.code yX0_carryWide cX0_carryWide 2 none, Cond.constantLong RX0 57 (67108863), Cond.methodLink RX0 34 yX0_carry, Cond.static yX0_carry, Cond.code yX0_carry cX0_carry 6 none, Cond.methodLink RX1 122 yX0_scale, Cond.static yX0_scale, Cond.code yX0_scale cX0_scale 3 none, Cond.constantLong RX0 32 (121665), Cond.methodLink RX1 91 yX1_makeOther, Cond.instanceMethod yX1_makeOther, Cond.selects RX1 yX1_makeOther yX1_makeOther, Cond.code yX1_makeOther cX1_makeOther 1 none, Cond.fieldLink RX1 59 "LadderDesk$Ladder" "da" "[J", Cond.fieldLink RX1 62 "LadderDesk$Ladder" "cb" "[J", Cond.fieldLink RX1 22 "LadderDesk$Ladder" "u" "[J"]
def wsX2_step : List Cond := .code yX2_step cX2_step 4 (some .int) :: ((wsX2_step_r1 ++ (wsX2_step_r2 ++ (wsX2_step_r3 ++ wsX2_step_r4))) ++ wsX20 ++ wsX10 ++ wsX00)
def wsX2_finish_r1 : List Cond := [Cond.fieldLink RX2 29 "LadderDesk" "phaseNow" "I", Cond.fieldLink RX2 33 "LadderDesk" "stepsMade" "I", Cond.fieldLink RX2 25 "LadderDesk" "ladder" "LLadderDesk$Ladder;", Cond.fieldLink RX2 16 "LadderDesk" "result" "[J", Cond.fieldLink RX2 36 "LadderDesk" "resultsHad" "I", Cond.methodLink RX2 64 yX1_writeResult, Cond.instanceMethod yX1_writeResult, Cond.selects RX1 yX1_writeResult yX1_writeResult, Cond.initialized RX1, Cond.code yX1_writeResult cX1_writeResult 2 none, Cond.fieldLink RX1 12 "LadderDesk$Ladder" "field" "LLadderDesk$Field;", Cond.fieldLink RX1 65 "LadderDesk$Ladder" "spare" "[J", Cond.fieldLink RX1 29 "LadderDesk$Ladder" "z2" "[J", Cond.fieldLink RX1 26 "LadderDesk$Ladder" "x2" "[J", Cond.methodLink RX1 101 yX0_invert, Cond.instanceMethod yX0_invert, Cond.selects RX0 yX0_invert yX0_invert, Cond.initialized RX0, Cond.code yX0_invert cX0_invert 4 none, Cond.methodLink RX0 47 arraycopyName, Cond.native arraycopyName, Cond.static arraycopyName, Cond.initialized "java/lang/System", Cond.methodLink RX0 53 yX0_multiply]
def wsX2_finish_r2 : List Cond := [Cond.instanceMethod yX0_multiply, Cond.selects RX0 yX0_multiply yX0_multiply, Cond.code yX0_multiply cX0_multiply 5 none, Cond.fieldLink RX0 11 "LadderDesk$Field" "wide" "[J", Cond.constantLong RX0 45 (608), Cond.methodLink RX0 38 yX0_gather, Cond.instanceMethod yX0_gather, Cond.selects RX0 yX0_gather yX0_gather, Cond.code yX0_gather cX0_gather 7 none, Cond.methodLink RX0 22 yJ7_fill_d0a16, Cond.static yJ7_fill_d0a16, Cond.initialized RJ7, Cond.code yJ7_fill_d0a16 cJ7_fill_d0a16 5 none, Cond.methodLink RX0 42 yX0_carryWide, Cond.instanceMethod yX0_carryWide, Cond.selects RX0 yX0_carryWide yX0_carryWide, Cond.code yX0_carryWide cX0_carryWide 2 none, Cond.constantLong RX0 57 (67108863), Cond.methodLink RX0 34 yX0_carry, Cond.static yX0_carry, Cond.code yX0_carry cX0_carry 6 none, Cond.methodLink RX1 104 yX0_multiply, Cond.methodLink RX1 98 yX0_write, Cond.instanceMethod yX0_write]
def wsX2_finish_r3 : List Cond := [Cond.selects RX0 yX0_write yX0_write, Cond.code yX0_write cX0_write 3 none, Cond.fieldLink RX0 19 "LadderDesk$Field" "whole" "[J", Cond.methodLink RX0 59 yX0_foldTop, Cond.static yX0_foldTop, Cond.code yX0_foldTop cX0_foldTop 2 none, Cond.constantLong RX0 74 (19), Cond.constantLong RX0 76 (2097151), Cond.methodLink RX0 62 yX0_join, Cond.static yX0_join, Cond.code yX0_join cX0_join 5 none, Cond.methodLink RX0 65 yX0_takeRest, Cond.static yX0_takeRest, Cond.code yX0_takeRest cX0_takeRest 2 none, Cond.constantLong RX0 68 (9223372036854775807), Cond.constantLong RX0 70 (-1), Cond.constantLong RX0 72 (-19)]
def wsX2_finish : List Cond := .code yX2_finish cX2_finish 1 (some .int) :: ((wsX2_finish_r1 ++ (wsX2_finish_r2 ++ wsX2_finish_r3)) ++ wsX20 ++ wsX10 ++ wsX00)
def wsX2_again : List Cond := .code yX2_again cX2_again 1 (some .int) :: ([.fieldLink RX2 29 "LadderDesk" "phaseNow" "I", .fieldLink RX2 16 "LadderDesk" "result" "[J", .fieldLink RX2 13 "LadderDesk" "pointTold" "[J", .methodLink RX2 67 arraycopyName, .native arraycopyName, .static arraycopyName, .initialized "java/lang/System"] ++ wsX20)
def wsX2_reset : List Cond := .code yX2_reset cX2_reset 2 (some .int) :: ([.fieldLink RX2 29 "LadderDesk" "phaseNow" "I"] ++ wsX20)
def wsX2_phase : List Cond := .code yX2_phase cX2_phase 1 (some .int) :: ([.fieldLink RX2 29 "LadderDesk" "phaseNow" "I"] ++ wsX20)
def wsX2_out : List Cond := .code yX2_out cX2_out 2 (some .long) :: ([.fieldLink RX2 29 "LadderDesk" "phaseNow" "I", .fieldLink RX2 16 "LadderDesk" "result" "[J", .methodLink RX2 73 yX2_isLong, .static yX2_isLong, .initialized RX2, .code yX2_isLong cX2_isLong 1 (some .boolean)] ++ wsX20)
def wsX2_part_r1 : List Cond := [Cond.fieldLink RX2 29 "LadderDesk" "phaseNow" "I", Cond.fieldLink RX2 25 "LadderDesk" "ladder" "LLadderDesk$Ladder;", Cond.fieldLink RX2 19 "LadderDesk" "answer" "[J", Cond.methodLink RX2 76 yX1_isPart, Cond.static yX1_isPart, Cond.initialized RX1, Cond.code yX1_isPart cX1_isPart 1 (some .boolean), Cond.methodLink RX2 73 yX2_isLong, Cond.static yX2_isLong, Cond.initialized RX2, Cond.code yX2_isLong cX2_isLong 1 (some .boolean), Cond.methodLink RX2 79 yX1_writePart, Cond.instanceMethod yX1_writePart, Cond.selects RX1 yX1_writePart yX1_writePart, Cond.code yX1_writePart cX1_writePart 3 none, Cond.fieldLink RX1 12 "LadderDesk$Ladder" "field" "LLadderDesk$Field;", Cond.methodLink RX1 94 yX1_rowOf, Cond.instanceMethod yX1_rowOf, Cond.selects RX1 yX1_rowOf yX1_rowOf, Cond.code yX1_rowOf cX1_rowOf 2 (some (.array .long)), Cond.fieldLink RX1 26 "LadderDesk$Ladder" "x2" "[J", Cond.fieldLink RX1 29 "LadderDesk$Ladder" "z2" "[J", Cond.fieldLink RX1 32 "LadderDesk$Ladder" "x3" "[J", Cond.fieldLink RX1 35 "LadderDesk$Ladder" "z3" "[J"]
def wsX2_part_r2 : List Cond := [Cond.fieldLink RX1 22 "LadderDesk$Ladder" "u" "[J", Cond.methodLink RX1 98 yX0_write, Cond.instanceMethod yX0_write, Cond.selects RX0 yX0_write yX0_write, Cond.initialized RX0, Cond.code yX0_write cX0_write 3 none, Cond.fieldLink RX0 19 "LadderDesk$Field" "whole" "[J", Cond.methodLink RX0 47 arraycopyName, Cond.native arraycopyName, Cond.static arraycopyName, Cond.initialized "java/lang/System", Cond.methodLink RX0 59 yX0_foldTop, Cond.static yX0_foldTop, Cond.code yX0_foldTop cX0_foldTop 2 none, Cond.constantLong RX0 57 (67108863), Cond.constantLong RX0 74 (19), Cond.constantLong RX0 76 (2097151), Cond.methodLink RX0 62 yX0_join, Cond.static yX0_join, Cond.code yX0_join cX0_join 5 none, Cond.methodLink RX0 22 yJ7_fill_d0a16, Cond.static yJ7_fill_d0a16, Cond.initialized RJ7, Cond.code yJ7_fill_d0a16 cJ7_fill_d0a16 5 none]
def wsX2_part_r3 : List Cond := [Cond.methodLink RX0 65 yX0_takeRest, Cond.static yX0_takeRest, Cond.code yX0_takeRest cX0_takeRest 2 none, Cond.constantLong RX0 68 (9223372036854775807), Cond.constantLong RX0 70 (-1), Cond.constantLong RX0 72 (-19)]
def wsX2_part : List Cond := .code yX2_part cX2_part 3 (some .long) :: ((wsX2_part_r1 ++ (wsX2_part_r2 ++ wsX2_part_r3)) ++ wsX20 ++ wsX10 ++ wsX00)
def wsX2_told_r1 : List Cond := [Cond.fieldLink RX2 9 "LadderDesk" "scalarTold" "[J", Cond.fieldLink RX2 13 "LadderDesk" "pointTold" "[J", Cond.fieldLink RX2 19 "LadderDesk" "answer" "[J", Cond.methodLink RX2 73 yX2_isLong, Cond.static yX2_isLong, Cond.initialized RX2, Cond.code yX2_isLong cX2_isLong 1 (some .boolean), Cond.methodLink RX2 83 yX2_clampedLong, Cond.instanceMethod yX2_clampedLong, Cond.selects RX2 yX2_clampedLong yX2_clampedLong, Cond.code yX2_clampedLong cX2_clampedLong 4 (some .long), Cond.constantLong RX2 91 (-8), Cond.constantLong RX2 93 (9223372036854775807), Cond.constantLong RX2 95 (4611686018427387904), Cond.methodLink RX2 43 yX2_writeU, Cond.instanceMethod yX2_writeU, Cond.selects RX2 yX2_writeU yX2_writeU, Cond.code yX2_writeU cX2_writeU 2 none, Cond.methodLink RX2 67 arraycopyName, Cond.native arraycopyName, Cond.static arraycopyName, Cond.initialized "java/lang/System", Cond.methodLink RX2 97 yX0_takeRest, Cond.static yX0_takeRest]
def wsX2_told_r2 : List Cond := [Cond.initialized RX0, Cond.code yX0_takeRest cX0_takeRest 2 none, Cond.constantLong RX0 68 (9223372036854775807), Cond.constantLong RX0 70 (-1), Cond.constantLong RX0 72 (-19), Cond.constantLong RX0 74 (19)]
def wsX2_told : List Cond := .code yX2_told cX2_told 3 (some .long) :: ((wsX2_told_r1 ++ wsX2_told_r2) ++ wsX20)
def wsX2_count : List Cond := .code yX2_count cX2_count 2 (some .int) :: ([.fieldLink RX2 29 "LadderDesk" "phaseNow" "I", .fieldLink RX2 33 "LadderDesk" "stepsMade" "I", .fieldLink RX2 36 "LadderDesk" "resultsHad" "I"] ++ wsX20)
def wsX2_check_r1 : List Cond := [Cond.fieldLink RX2 29 "LadderDesk" "phaseNow" "I", Cond.fieldLink RX2 25 "LadderDesk" "ladder" "LLadderDesk$Ladder;", Cond.fieldLink RX2 16 "LadderDesk" "result" "[J", Cond.methodLink RX2 87 yX1_agreesWith, Cond.instanceMethod yX1_agreesWith, Cond.selects RX1 yX1_agreesWith yX1_agreesWith, Cond.initialized RX1, Cond.code yX1_agreesWith cX1_agreesWith 2 (some .boolean), Cond.fieldLink RX1 12 "LadderDesk$Ladder" "field" "LLadderDesk$Field;", Cond.fieldLink RX1 68 "LadderDesk$Ladder" "left" "[J", Cond.fieldLink RX1 29 "LadderDesk$Ladder" "z2" "[J", Cond.fieldLink RX1 65 "LadderDesk$Ladder" "spare" "[J", Cond.fieldLink RX1 71 "LadderDesk$Ladder" "right" "[J", Cond.fieldLink RX1 26 "LadderDesk$Ladder" "x2" "[J", Cond.methodLink RX1 98 yX0_write, Cond.instanceMethod yX0_write, Cond.selects RX0 yX0_write yX0_write, Cond.initialized RX0, Cond.code yX0_write cX0_write 3 none, Cond.fieldLink RX0 19 "LadderDesk$Field" "whole" "[J", Cond.methodLink RX0 47 arraycopyName, Cond.native arraycopyName, Cond.static arraycopyName, Cond.initialized "java/lang/System"]
def wsX2_check_r2 : List Cond := [Cond.methodLink RX0 59 yX0_foldTop, Cond.static yX0_foldTop, Cond.code yX0_foldTop cX0_foldTop 2 none, Cond.constantLong RX0 57 (67108863), Cond.constantLong RX0 74 (19), Cond.constantLong RX0 76 (2097151), Cond.methodLink RX0 62 yX0_join, Cond.static yX0_join, Cond.code yX0_join cX0_join 5 none, Cond.methodLink RX0 22 yJ7_fill_d0a16, Cond.static yJ7_fill_d0a16, Cond.initialized RJ7, Cond.code yJ7_fill_d0a16 cJ7_fill_d0a16 5 none, Cond.methodLink RX0 65 yX0_takeRest, Cond.static yX0_takeRest, Cond.code yX0_takeRest cX0_takeRest 2 none, Cond.constantLong RX0 68 (9223372036854775807), Cond.constantLong RX0 70 (-1), Cond.constantLong RX0 72 (-19), Cond.methodLink RX1 108 yX1_isZero, Cond.static yX1_isZero, Cond.code yX1_isZero cX1_isZero 1 (some .boolean), Cond.methodLink RX1 74 yX0_read, Cond.static yX0_read]
def wsX2_check_r3 : List Cond := [Cond.code yX0_read cX0_read 7 none, Cond.methodLink RX1 104 yX0_multiply, Cond.instanceMethod yX0_multiply, Cond.selects RX0 yX0_multiply yX0_multiply, Cond.code yX0_multiply cX0_multiply 5 none, Cond.fieldLink RX0 11 "LadderDesk$Field" "wide" "[J", Cond.constantLong RX0 45 (608), Cond.methodLink RX0 38 yX0_gather, Cond.instanceMethod yX0_gather, Cond.selects RX0 yX0_gather yX0_gather, Cond.code yX0_gather cX0_gather 7 none, Cond.methodLink RX0 42 yX0_carryWide, Cond.instanceMethod yX0_carryWide, Cond.selects RX0 yX0_carryWide yX0_carryWide, Cond.code yX0_carryWide cX0_carryWide 2 none, Cond.methodLink RX0 34 yX0_carry, Cond.static yX0_carry, Cond.code yX0_carry cX0_carry 6 none, Cond.methodLink RX1 112 yX1_areEqual, Cond.static yX1_areEqual, Cond.code yX1_areEqual cX1_areEqual 3 (some .boolean)]
def wsX2_check : List Cond := .code yX2_check cX2_check 1 (some .int) :: ((wsX2_check_r1 ++ (wsX2_check_r2 ++ wsX2_check_r3)) ++ wsX20 ++ wsX10 ++ wsX00)
def wsX3_init : List Cond := .code yX3_init cX3_init 1 none :: ([.methodLink RX3 1 objectInit, .instanceMethod objectInit, .code objectInit ⟨#[0xb1]⟩ 1 none, .arrayClass .long, .fieldLink RX3 7 "LadderDeskModel" "scalar" "[J", .fieldLink RX3 13 "LadderDeskModel" "point" "[J", .arrayClass .int, .fieldLink RX3 16 "LadderDeskModel" "digits" "[I", .fieldLink RX3 20 "LadderDeskModel" "sums" "[J"] ++ wsX30)
def wsX3_setSmall : List Cond := .code yX3_setSmall cX3_setSmall 4 none :: ([.fieldLink RX3 16 "LadderDeskModel" "digits" "[I"] ++ wsX30)
def wsX3_copy : List Cond := .code yX3_copy cX3_copy 4 none :: ([.fieldLink RX3 16 "LadderDeskModel" "digits" "[I"] ++ wsX30)
def wsX3_swap : List Cond := .code yX3_swap cX3_swap 3 none :: ([.methodLink RX3 23 yX3_copy, .instanceMethod yX3_copy, .selects RX3 yX3_copy yX3_copy, .initialized RX3, .code yX3_copy cX3_copy 4 none, .fieldLink RX3 16 "LadderDeskModel" "digits" "[I"] ++ wsX30)
def wsX3_ofP : List Cond := .code yX3_ofP cX3_ofP 1 (some .int) :: ([.constant RX3 27 (65517), .constant RX3 28 (65535)])
def wsX3_isGreat : List Cond := .code yX3_isGreat cX3_isGreat 2 (some .boolean) :: ([.fieldLink RX3 20 "LadderDeskModel" "sums" "[J", .methodLink RX3 29 yX3_ofP, .static yX3_ofP, .initialized RX3, .code yX3_ofP cX3_ofP 1 (some .int), .constant RX3 27 (65517), .constant RX3 28 (65535)] ++ wsX30)
def wsX3_store : List Cond := .code yX3_store cX3_store 10 none :: ([.fieldLink RX3 20 "LadderDeskModel" "sums" "[J", .constantLong RX3 33 (65535), .constantLong RX3 35 (2), .constantLong RX3 37 (32767), .constantLong RX3 39 (19), .fieldLink RX3 16 "LadderDeskModel" "digits" "[I", .methodLink RX3 41 yX3_isGreat, .instanceMethod yX3_isGreat, .selects RX3 yX3_isGreat yX3_isGreat, .initialized RX3, .code yX3_isGreat cX3_isGreat 2 (some .boolean), .methodLink RX3 29 yX3_ofP, .static yX3_ofP, .code yX3_ofP cX3_ofP 1 (some .int), .constant RX3 27 (65517), .constant RX3 28 (65535)] ++ wsX30)
def wsX3_add : List Cond := .code yX3_add cX3_add 5 none :: ([.fieldLink RX3 20 "LadderDeskModel" "sums" "[J", .fieldLink RX3 16 "LadderDeskModel" "digits" "[I", .methodLink RX3 45 yX3_store, .instanceMethod yX3_store, .selects RX3 yX3_store yX3_store, .initialized RX3, .code yX3_store cX3_store 10 none, .constantLong RX3 33 (65535), .constantLong RX3 35 (2), .constantLong RX3 37 (32767), .constantLong RX3 39 (19), .methodLink RX3 41 yX3_isGreat, .instanceMethod yX3_isGreat, .selects RX3 yX3_isGreat yX3_isGreat, .code yX3_isGreat cX3_isGreat 2 (some .boolean), .methodLink RX3 29 yX3_ofP, .static yX3_ofP, .code yX3_ofP cX3_ofP 1 (some .int), .constant RX3 27 (65517), .constant RX3 28 (65535)] ++ wsX30)
def wsX3_subtract : List Cond := .code yX3_subtract cX3_subtract 9 none :: ([.fieldLink RX3 16 "LadderDeskModel" "digits" "[I", .fieldLink RX3 20 "LadderDeskModel" "sums" "[J", .constantLong RX3 33 (65535), .constantLong RX3 49 (65536), .methodLink RX3 29 yX3_ofP, .static yX3_ofP, .initialized RX3, .code yX3_ofP cX3_ofP 1 (some .int), .constant RX3 27 (65517), .constant RX3 28 (65535), .methodLink RX3 45 yX3_store, .instanceMethod yX3_store, .selects RX3 yX3_store yX3_store, .code yX3_store cX3_store 10 none, .constantLong RX3 35 (2), .constantLong RX3 37 (32767), .constantLong RX3 39 (19), .methodLink RX3 41 yX3_isGreat, .instanceMethod yX3_isGreat, .selects RX3 yX3_isGreat yX3_isGreat, .code yX3_isGreat cX3_isGreat 2 (some .boolean)] ++ wsX30)
def wsX3_multiply : List Cond := .code yX3_multiply cX3_multiply 6 none :: ([.fieldLink RX3 20 "LadderDeskModel" "sums" "[J", .fieldLink RX3 16 "LadderDeskModel" "digits" "[I", .constantLong RX3 51 (38), .methodLink RX3 45 yX3_store, .instanceMethod yX3_store, .selects RX3 yX3_store yX3_store, .initialized RX3, .code yX3_store cX3_store 10 none, .constantLong RX3 33 (65535), .constantLong RX3 35 (2), .constantLong RX3 37 (32767), .constantLong RX3 39 (19), .methodLink RX3 41 yX3_isGreat, .instanceMethod yX3_isGreat, .selects RX3 yX3_isGreat yX3_isGreat, .code yX3_isGreat cX3_isGreat 2 (some .boolean), .methodLink RX3 29 yX3_ofP, .static yX3_ofP, .code yX3_ofP cX3_ofP 1 (some .int), .constant RX3 27 (65517), .constant RX3 28 (65535)] ++ wsX30)
def wsX3_multiplySmall : List Cond := .code yX3_multiplySmall cX3_multiplySmall 5 none :: ([.fieldLink RX3 20 "LadderDeskModel" "sums" "[J", .fieldLink RX3 16 "LadderDeskModel" "digits" "[I", .methodLink RX3 45 yX3_store, .instanceMethod yX3_store, .selects RX3 yX3_store yX3_store, .initialized RX3, .code yX3_store cX3_store 10 none, .constantLong RX3 33 (65535), .constantLong RX3 35 (2), .constantLong RX3 37 (32767), .constantLong RX3 39 (19), .methodLink RX3 41 yX3_isGreat, .instanceMethod yX3_isGreat, .selects RX3 yX3_isGreat yX3_isGreat, .code yX3_isGreat cX3_isGreat 2 (some .boolean), .methodLink RX3 29 yX3_ofP, .static yX3_ofP, .code yX3_ofP cX3_ofP 1 (some .int), .constant RX3 27 (65517), .constant RX3 28 (65535)] ++ wsX30)
def wsX3_isZero : List Cond := .code yX3_isZero cX3_isZero 4 (some .boolean) :: ([.fieldLink RX3 16 "LadderDeskModel" "digits" "[I"] ++ wsX30)
def wsX3_isSame : List Cond := .code yX3_isSame cX3_isSame 5 (some .boolean) :: ([.fieldLink RX3 16 "LadderDeskModel" "digits" "[I"] ++ wsX30)
def wsX3_longOf : List Cond := .code yX3_longOf cX3_longOf 6 (some .long) :: ([.constantLong RX3 49 (65536), .fieldLink RX3 16 "LadderDeskModel" "digits" "[I"] ++ wsX30)
def wsX3_isLong : List Cond := .code yX3_isLong cX3_isLong 1 (some .boolean) :: ([])
def wsX3_scalar : List Cond := .code yX3_scalar cX3_scalar 4 (some .int) :: ([.fieldLink RX3 53 "LadderDeskModel" "phase" "I", .fieldLink RX3 7 "LadderDeskModel" "scalar" "[J", .methodLink RX3 57 yX3_isLong, .static yX3_isLong, .initialized RX3, .code yX3_isLong cX3_isLong 1 (some .boolean)] ++ wsX30)
def wsX3_point : List Cond := .code yX3_point cX3_point 4 (some .int) :: ([.fieldLink RX3 53 "LadderDeskModel" "phase" "I", .fieldLink RX3 13 "LadderDeskModel" "point" "[J", .methodLink RX3 57 yX3_isLong, .static yX3_isLong, .initialized RX3, .code yX3_isLong cX3_isLong 1 (some .boolean)] ++ wsX30)
def wsX3_bit : List Cond := .code yX3_bit cX3_bit 2 (some .boolean) :: ([.fieldLink RX3 7 "LadderDeskModel" "scalar" "[J"] ++ wsX30)
def wsX3_makeU : List Cond := .code yX3_makeU cX3_makeU 2 none :: ([.fieldLink RX3 20 "LadderDeskModel" "sums" "[J", .fieldLink RX3 13 "LadderDeskModel" "point" "[J", .constantLong RX3 33 (65535), .constantLong RX3 37 (32767), .methodLink RX3 45 yX3_store, .instanceMethod yX3_store, .selects RX3 yX3_store yX3_store, .initialized RX3, .code yX3_store cX3_store 10 none, .constantLong RX3 35 (2), .constantLong RX3 39 (19), .fieldLink RX3 16 "LadderDeskModel" "digits" "[I", .methodLink RX3 41 yX3_isGreat, .instanceMethod yX3_isGreat, .selects RX3 yX3_isGreat yX3_isGreat, .code yX3_isGreat cX3_isGreat 2 (some .boolean), .methodLink RX3 29 yX3_ofP, .static yX3_ofP, .code yX3_ofP cX3_ofP 1 (some .int), .constant RX3 27 (65517), .constant RX3 28 (65535)] ++ wsX30)
def wsX3_start_r1 : List Cond := [Cond.fieldLink RX3 53 "LadderDeskModel" "phase" "I", Cond.fieldLink RX3 61 "LadderDeskModel" "steps" "I", Cond.methodLink RX3 64 yX3_makeU, Cond.instanceMethod yX3_makeU, Cond.selects RX3 yX3_makeU yX3_makeU, Cond.initialized RX3, Cond.code yX3_makeU cX3_makeU 2 none, Cond.fieldLink RX3 20 "LadderDeskModel" "sums" "[J", Cond.fieldLink RX3 13 "LadderDeskModel" "point" "[J", Cond.constantLong RX3 33 (65535), Cond.constantLong RX3 37 (32767), Cond.methodLink RX3 45 yX3_store, Cond.instanceMethod yX3_store, Cond.selects RX3 yX3_store yX3_store, Cond.code yX3_store cX3_store 10 none, Cond.constantLong RX3 35 (2), Cond.constantLong RX3 39 (19), Cond.fieldLink RX3 16 "LadderDeskModel" "digits" "[I", Cond.methodLink RX3 41 yX3_isGreat, Cond.instanceMethod yX3_isGreat, Cond.selects RX3 yX3_isGreat yX3_isGreat, Cond.code yX3_isGreat cX3_isGreat 2 (some .boolean), Cond.methodLink RX3 29 yX3_ofP, Cond.static yX3_ofP]
def wsX3_start_r2 : List Cond := [Cond.code yX3_ofP cX3_ofP 1 (some .int), Cond.constant RX3 27 (65517), Cond.constant RX3 28 (65535), Cond.methodLink RX3 67 yX3_setSmall, Cond.instanceMethod yX3_setSmall, Cond.selects RX3 yX3_setSmall yX3_setSmall, Cond.code yX3_setSmall cX3_setSmall 4 none, Cond.methodLink RX3 23 yX3_copy, Cond.instanceMethod yX3_copy, Cond.selects RX3 yX3_copy yX3_copy, Cond.code yX3_copy cX3_copy 4 none]
def wsX3_start : List Cond := .code yX3_start cX3_start 1 (some .int) :: ((wsX3_start_r1 ++ wsX3_start_r2) ++ wsX30)
def wsX3_change : List Cond := .code yX3_change cX3_change 2 none :: ([.methodLink RX3 70 yX3_swap, .instanceMethod yX3_swap, .selects RX3 yX3_swap yX3_swap, .initialized RX3, .code yX3_swap cX3_swap 3 none, .methodLink RX3 23 yX3_copy, .instanceMethod yX3_copy, .selects RX3 yX3_copy yX3_copy, .code yX3_copy cX3_copy 4 none, .fieldLink RX3 16 "LadderDeskModel" "digits" "[I"] ++ wsX30)
def wsX3_stepOnce_r1 : List Cond := [Cond.fieldLink RX3 61 "LadderDeskModel" "steps" "I", Cond.constant RX3 90 (121665), Cond.methodLink RX3 73 yX3_bit, Cond.instanceMethod yX3_bit, Cond.selects RX3 yX3_bit yX3_bit, Cond.initialized RX3, Cond.code yX3_bit cX3_bit 2 (some .boolean), Cond.fieldLink RX3 7 "LadderDeskModel" "scalar" "[J", Cond.methodLink RX3 76 yX3_change, Cond.instanceMethod yX3_change, Cond.selects RX3 yX3_change yX3_change, Cond.code yX3_change cX3_change 2 none, Cond.methodLink RX3 70 yX3_swap, Cond.instanceMethod yX3_swap, Cond.selects RX3 yX3_swap yX3_swap, Cond.code yX3_swap cX3_swap 3 none, Cond.methodLink RX3 23 yX3_copy, Cond.instanceMethod yX3_copy, Cond.selects RX3 yX3_copy yX3_copy, Cond.code yX3_copy cX3_copy 4 none, Cond.fieldLink RX3 16 "LadderDeskModel" "digits" "[I", Cond.methodLink RX3 80 yX3_add, Cond.instanceMethod yX3_add, Cond.selects RX3 yX3_add yX3_add]
def wsX3_stepOnce_r2 : List Cond := [Cond.code yX3_add cX3_add 5 none, Cond.fieldLink RX3 20 "LadderDeskModel" "sums" "[J", Cond.methodLink RX3 45 yX3_store, Cond.instanceMethod yX3_store, Cond.selects RX3 yX3_store yX3_store, Cond.code yX3_store cX3_store 10 none, Cond.constantLong RX3 33 (65535), Cond.constantLong RX3 35 (2), Cond.constantLong RX3 37 (32767), Cond.constantLong RX3 39 (19), Cond.methodLink RX3 41 yX3_isGreat, Cond.instanceMethod yX3_isGreat, Cond.selects RX3 yX3_isGreat yX3_isGreat, Cond.code yX3_isGreat cX3_isGreat 2 (some .boolean), Cond.methodLink RX3 29 yX3_ofP, Cond.static yX3_ofP, Cond.code yX3_ofP cX3_ofP 1 (some .int), Cond.constant RX3 27 (65517), Cond.constant RX3 28 (65535), Cond.methodLink RX3 84 yX3_subtract, Cond.instanceMethod yX3_subtract, Cond.selects RX3 yX3_subtract yX3_subtract, Cond.code yX3_subtract cX3_subtract 9 none, Cond.constantLong RX3 49 (65536)]
def wsX3_stepOnce_r3 : List Cond := [Cond.methodLink RX3 87 yX3_multiply, Cond.instanceMethod yX3_multiply, Cond.selects RX3 yX3_multiply yX3_multiply, Cond.code yX3_multiply cX3_multiply 6 none, Cond.constantLong RX3 51 (38), Cond.methodLink RX3 91 yX3_multiplySmall, Cond.instanceMethod yX3_multiplySmall, Cond.selects RX3 yX3_multiplySmall yX3_multiplySmall, Cond.code yX3_multiplySmall cX3_multiplySmall 5 none]
def wsX3_stepOnce : List Cond := .code yX3_stepOnce cX3_stepOnce 2 none :: ((wsX3_stepOnce_r1 ++ (wsX3_stepOnce_r2 ++ wsX3_stepOnce_r3)) ++ wsX30)
def wsX3_step_r1 : List Cond := [Cond.fieldLink RX3 53 "LadderDeskModel" "phase" "I", Cond.fieldLink RX3 61 "LadderDeskModel" "steps" "I", Cond.methodLink RX3 94 yX3_stepOnce, Cond.instanceMethod yX3_stepOnce, Cond.selects RX3 yX3_stepOnce yX3_stepOnce, Cond.initialized RX3, Cond.code yX3_stepOnce cX3_stepOnce 2 none, Cond.constant RX3 90 (121665), Cond.methodLink RX3 73 yX3_bit, Cond.instanceMethod yX3_bit, Cond.selects RX3 yX3_bit yX3_bit, Cond.code yX3_bit cX3_bit 2 (some .boolean), Cond.fieldLink RX3 7 "LadderDeskModel" "scalar" "[J", Cond.methodLink RX3 76 yX3_change, Cond.instanceMethod yX3_change, Cond.selects RX3 yX3_change yX3_change, Cond.code yX3_change cX3_change 2 none, Cond.methodLink RX3 70 yX3_swap, Cond.instanceMethod yX3_swap, Cond.selects RX3 yX3_swap yX3_swap, Cond.code yX3_swap cX3_swap 3 none, Cond.methodLink RX3 23 yX3_copy, Cond.instanceMethod yX3_copy, Cond.selects RX3 yX3_copy yX3_copy]
def wsX3_step_r2 : List Cond := [Cond.code yX3_copy cX3_copy 4 none, Cond.fieldLink RX3 16 "LadderDeskModel" "digits" "[I", Cond.methodLink RX3 80 yX3_add, Cond.instanceMethod yX3_add, Cond.selects RX3 yX3_add yX3_add, Cond.code yX3_add cX3_add 5 none, Cond.fieldLink RX3 20 "LadderDeskModel" "sums" "[J", Cond.methodLink RX3 45 yX3_store, Cond.instanceMethod yX3_store, Cond.selects RX3 yX3_store yX3_store, Cond.code yX3_store cX3_store 10 none, Cond.constantLong RX3 33 (65535), Cond.constantLong RX3 35 (2), Cond.constantLong RX3 37 (32767), Cond.constantLong RX3 39 (19), Cond.methodLink RX3 41 yX3_isGreat, Cond.instanceMethod yX3_isGreat, Cond.selects RX3 yX3_isGreat yX3_isGreat, Cond.code yX3_isGreat cX3_isGreat 2 (some .boolean), Cond.methodLink RX3 29 yX3_ofP, Cond.static yX3_ofP, Cond.code yX3_ofP cX3_ofP 1 (some .int), Cond.constant RX3 27 (65517), Cond.constant RX3 28 (65535)]
def wsX3_step_r3 : List Cond := [Cond.methodLink RX3 84 yX3_subtract, Cond.instanceMethod yX3_subtract, Cond.selects RX3 yX3_subtract yX3_subtract, Cond.code yX3_subtract cX3_subtract 9 none, Cond.constantLong RX3 49 (65536), Cond.methodLink RX3 87 yX3_multiply, Cond.instanceMethod yX3_multiply, Cond.selects RX3 yX3_multiply yX3_multiply, Cond.code yX3_multiply cX3_multiply 6 none, Cond.constantLong RX3 51 (38), Cond.methodLink RX3 91 yX3_multiplySmall, Cond.instanceMethod yX3_multiplySmall, Cond.selects RX3 yX3_multiplySmall yX3_multiplySmall, Cond.code yX3_multiplySmall cX3_multiplySmall 5 none]
def wsX3_step : List Cond := .code yX3_step cX3_step 3 (some .int) :: ((wsX3_step_r1 ++ (wsX3_step_r2 ++ wsX3_step_r3)) ++ wsX30)
def wsX3_finish_r1 : List Cond := [Cond.fieldLink RX3 53 "LadderDeskModel" "phase" "I", Cond.fieldLink RX3 61 "LadderDeskModel" "steps" "I", Cond.fieldLink RX3 97 "LadderDeskModel" "results" "I", Cond.methodLink RX3 67 yX3_setSmall, Cond.instanceMethod yX3_setSmall, Cond.selects RX3 yX3_setSmall yX3_setSmall, Cond.initialized RX3, Cond.code yX3_setSmall cX3_setSmall 4 none, Cond.fieldLink RX3 16 "LadderDeskModel" "digits" "[I", Cond.methodLink RX3 87 yX3_multiply, Cond.instanceMethod yX3_multiply, Cond.selects RX3 yX3_multiply yX3_multiply, Cond.code yX3_multiply cX3_multiply 6 none, Cond.fieldLink RX3 20 "LadderDeskModel" "sums" "[J", Cond.constantLong RX3 51 (38), Cond.methodLink RX3 45 yX3_store, Cond.instanceMethod yX3_store, Cond.selects RX3 yX3_store yX3_store, Cond.code yX3_store cX3_store 10 none, Cond.constantLong RX3 33 (65535), Cond.constantLong RX3 35 (2), Cond.constantLong RX3 37 (32767), Cond.constantLong RX3 39 (19), Cond.methodLink RX3 41 yX3_isGreat]
def wsX3_finish_r2 : List Cond := [Cond.instanceMethod yX3_isGreat, Cond.selects RX3 yX3_isGreat yX3_isGreat, Cond.code yX3_isGreat cX3_isGreat 2 (some .boolean), Cond.methodLink RX3 29 yX3_ofP, Cond.static yX3_ofP, Cond.code yX3_ofP cX3_ofP 1 (some .int), Cond.constant RX3 27 (65517), Cond.constant RX3 28 (65535)]
def wsX3_finish : List Cond := .code yX3_finish cX3_finish 2 (some .int) :: ((wsX3_finish_r1 ++ wsX3_finish_r2) ++ wsX30)
def wsX3_again : List Cond := .code yX3_again cX3_again 2 (some .int) :: ([.fieldLink RX3 53 "LadderDeskModel" "phase" "I", .fieldLink RX3 13 "LadderDeskModel" "point" "[J", .methodLink RX3 100 yX3_longOf, .instanceMethod yX3_longOf, .selects RX3 yX3_longOf yX3_longOf, .initialized RX3, .code yX3_longOf cX3_longOf 6 (some .long), .constantLong RX3 49 (65536), .fieldLink RX3 16 "LadderDeskModel" "digits" "[I"] ++ wsX30)
def wsX3_reset : List Cond := .code yX3_reset cX3_reset 2 (some .int) :: ([.fieldLink RX3 53 "LadderDeskModel" "phase" "I"] ++ wsX30)
def wsX3_phase : List Cond := .code yX3_phase cX3_phase 1 (some .int) :: ([.fieldLink RX3 53 "LadderDeskModel" "phase" "I"] ++ wsX30)
def wsX3_out : List Cond := .code yX3_out cX3_out 2 (some .long) :: ([.fieldLink RX3 53 "LadderDeskModel" "phase" "I", .methodLink RX3 57 yX3_isLong, .static yX3_isLong, .initialized RX3, .code yX3_isLong cX3_isLong 1 (some .boolean), .methodLink RX3 100 yX3_longOf, .instanceMethod yX3_longOf, .selects RX3 yX3_longOf yX3_longOf, .code yX3_longOf cX3_longOf 6 (some .long), .constantLong RX3 49 (65536), .fieldLink RX3 16 "LadderDeskModel" "digits" "[I"] ++ wsX30)
def wsX3_part : List Cond := .code yX3_part cX3_part 3 (some .long) :: ([.fieldLink RX3 53 "LadderDeskModel" "phase" "I", .methodLink RX3 57 yX3_isLong, .static yX3_isLong, .initialized RX3, .code yX3_isLong cX3_isLong 1 (some .boolean), .methodLink RX3 100 yX3_longOf, .instanceMethod yX3_longOf, .selects RX3 yX3_longOf yX3_longOf, .code yX3_longOf cX3_longOf 6 (some .long), .constantLong RX3 49 (65536), .fieldLink RX3 16 "LadderDeskModel" "digits" "[I"] ++ wsX30)
def wsX3_told_r1 : List Cond := [Cond.fieldLink RX3 7 "LadderDeskModel" "scalar" "[J", Cond.fieldLink RX3 13 "LadderDeskModel" "point" "[J", Cond.constantLong RX3 104 (-8), Cond.constantLong RX3 106 (4611686018427387903), Cond.constantLong RX3 108 (4611686018427387904), Cond.fieldLink RX3 53 "LadderDeskModel" "phase" "I", Cond.methodLink RX3 57 yX3_isLong, Cond.static yX3_isLong, Cond.initialized RX3, Cond.code yX3_isLong cX3_isLong 1 (some .boolean), Cond.methodLink RX3 64 yX3_makeU, Cond.instanceMethod yX3_makeU, Cond.selects RX3 yX3_makeU yX3_makeU, Cond.code yX3_makeU cX3_makeU 2 none, Cond.fieldLink RX3 20 "LadderDeskModel" "sums" "[J", Cond.constantLong RX3 33 (65535), Cond.constantLong RX3 37 (32767), Cond.methodLink RX3 45 yX3_store, Cond.instanceMethod yX3_store, Cond.selects RX3 yX3_store yX3_store, Cond.code yX3_store cX3_store 10 none, Cond.constantLong RX3 35 (2), Cond.constantLong RX3 39 (19), Cond.fieldLink RX3 16 "LadderDeskModel" "digits" "[I"]
def wsX3_told_r2 : List Cond := [Cond.methodLink RX3 41 yX3_isGreat, Cond.instanceMethod yX3_isGreat, Cond.selects RX3 yX3_isGreat yX3_isGreat, Cond.code yX3_isGreat cX3_isGreat 2 (some .boolean), Cond.methodLink RX3 29 yX3_ofP, Cond.static yX3_ofP, Cond.code yX3_ofP cX3_ofP 1 (some .int), Cond.constant RX3 27 (65517), Cond.constant RX3 28 (65535), Cond.methodLink RX3 100 yX3_longOf, Cond.instanceMethod yX3_longOf, Cond.selects RX3 yX3_longOf yX3_longOf, Cond.code yX3_longOf cX3_longOf 6 (some .long), Cond.constantLong RX3 49 (65536)]
def wsX3_told : List Cond := .code yX3_told cX3_told 5 (some .long) :: ((wsX3_told_r1 ++ wsX3_told_r2) ++ wsX30)
def wsX3_count : List Cond := .code yX3_count cX3_count 2 (some .int) :: ([.fieldLink RX3 53 "LadderDeskModel" "phase" "I", .fieldLink RX3 61 "LadderDeskModel" "steps" "I", .fieldLink RX3 97 "LadderDeskModel" "results" "I"] ++ wsX30)
def wsX3_check_r1 : List Cond := [Cond.fieldLink RX3 53 "LadderDeskModel" "phase" "I", Cond.methodLink RX3 87 yX3_multiply, Cond.instanceMethod yX3_multiply, Cond.selects RX3 yX3_multiply yX3_multiply, Cond.initialized RX3, Cond.code yX3_multiply cX3_multiply 6 none, Cond.fieldLink RX3 20 "LadderDeskModel" "sums" "[J", Cond.fieldLink RX3 16 "LadderDeskModel" "digits" "[I", Cond.constantLong RX3 51 (38), Cond.methodLink RX3 45 yX3_store, Cond.instanceMethod yX3_store, Cond.selects RX3 yX3_store yX3_store, Cond.code yX3_store cX3_store 10 none, Cond.constantLong RX3 33 (65535), Cond.constantLong RX3 35 (2), Cond.constantLong RX3 37 (32767), Cond.constantLong RX3 39 (19), Cond.methodLink RX3 41 yX3_isGreat, Cond.instanceMethod yX3_isGreat, Cond.selects RX3 yX3_isGreat yX3_isGreat, Cond.code yX3_isGreat cX3_isGreat 2 (some .boolean), Cond.methodLink RX3 29 yX3_ofP, Cond.static yX3_ofP, Cond.code yX3_ofP cX3_ofP 1 (some .int)]
def wsX3_check_r2 : List Cond := [Cond.constant RX3 27 (65517), Cond.constant RX3 28 (65535), Cond.methodLink RX3 110 yX3_isZero, Cond.instanceMethod yX3_isZero, Cond.selects RX3 yX3_isZero yX3_isZero, Cond.code yX3_isZero cX3_isZero 4 (some .boolean), Cond.methodLink RX3 113 yX3_isSame, Cond.instanceMethod yX3_isSame, Cond.selects RX3 yX3_isSame yX3_isSame, Cond.code yX3_isSame cX3_isSame 5 (some .boolean)]
def wsX3_check : List Cond := .code yX3_check cX3_check 2 (some .int) :: ((wsX3_check_r1 ++ wsX3_check_r2) ++ wsX30)
def wsJ9_min_7cf53 : List Cond := .code yJ9_min_7cf53 cJ9_min_7cf53 2 (some .int) :: ([])
def wsL_law_r1 : List Cond := [Cond.classLink RL 7 RX2, Cond.instantiable RX2 8, Cond.initialized RX2, Cond.classLink RL 10 RX3, Cond.instantiable RX3 7, Cond.initialized RX3, Cond.constantLong RL 13 (4294967295), Cond.methodLink RL 9 yX2_init, Cond.instanceMethod yX2_init, Cond.code yX2_init cX2_init 1 none, Cond.methodLink RX2 1 objectInit, Cond.instanceMethod objectInit, Cond.code objectInit ⟨#[0xb1]⟩ 1 none, Cond.arrayClass .long, Cond.fieldLink RX2 9 "LadderDesk" "scalarTold" "[J", Cond.fieldLink RX2 13 "LadderDesk" "pointTold" "[J", Cond.fieldLink RX2 16 "LadderDesk" "result" "[J", Cond.fieldLink RX2 19 "LadderDesk" "answer" "[J", Cond.classLink RX2 22 RX1, Cond.instantiable RX1 18, Cond.initialized RX1, Cond.fieldLink RX2 25 "LadderDesk" "ladder" "LLadderDesk$Ladder;", Cond.fieldLink RX2 29 "LadderDesk" "phaseNow" "I", Cond.fieldLink RX2 33 "LadderDesk" "stepsMade" "I"]
def wsL_law_r2 : List Cond := [Cond.fieldLink RX2 36 "LadderDesk" "resultsHad" "I", Cond.methodLink RX2 24 yX1_init, Cond.instanceMethod yX1_init, Cond.code yX1_init cX1_init 1 none, Cond.methodLink RX1 3 objectInit, Cond.classLink RX1 9 RX0, Cond.instantiable RX0 2, Cond.initialized RX0, Cond.fieldLink RX1 12 "LadderDesk$Ladder" "field" "LLadderDesk$Field;", Cond.fieldLink RX1 22 "LadderDesk$Ladder" "u" "[J", Cond.fieldLink RX1 26 "LadderDesk$Ladder" "x2" "[J", Cond.fieldLink RX1 29 "LadderDesk$Ladder" "z2" "[J", Cond.fieldLink RX1 32 "LadderDesk$Ladder" "x3" "[J", Cond.fieldLink RX1 35 "LadderDesk$Ladder" "z3" "[J", Cond.fieldLink RX1 38 "LadderDesk$Ladder" "a" "[J", Cond.fieldLink RX1 41 "LadderDesk$Ladder" "b" "[J", Cond.fieldLink RX1 44 "LadderDesk$Ladder" "c" "[J", Cond.fieldLink RX1 47 "LadderDesk$Ladder" "d" "[J", Cond.fieldLink RX1 50 "LadderDesk$Ladder" "e" "[J", Cond.fieldLink RX1 53 "LadderDesk$Ladder" "aa" "[J", Cond.fieldLink RX1 56 "LadderDesk$Ladder" "bb" "[J", Cond.fieldLink RX1 59 "LadderDesk$Ladder" "da" "[J", Cond.fieldLink RX1 62 "LadderDesk$Ladder" "cb" "[J", Cond.fieldLink RX1 65 "LadderDesk$Ladder" "spare" "[J"]
def wsL_law_r3 : List Cond := [Cond.fieldLink RX1 68 "LadderDesk$Ladder" "left" "[J", Cond.fieldLink RX1 71 "LadderDesk$Ladder" "right" "[J", Cond.methodLink RX1 11 yX0_init, Cond.instanceMethod yX0_init, Cond.code yX0_init cX0_init 1 none, Cond.methodLink RX0 5 objectInit, Cond.fieldLink RX0 11 "LadderDesk$Field" "wide" "[J", Cond.fieldLink RX0 19 "LadderDesk$Field" "whole" "[J", Cond.methodLink RX0 15 yX0_newRow, Cond.static yX0_newRow, Cond.code yX0_newRow cX0_newRow 0 (some (.array .long)), Cond.methodLink RX1 18 yX0_newRow, Cond.methodLink RL 12 yX3_init, Cond.instanceMethod yX3_init, Cond.code yX3_init cX3_init 1 none, Cond.methodLink RX3 1 objectInit, Cond.fieldLink RX3 7 "LadderDeskModel" "scalar" "[J", Cond.fieldLink RX3 13 "LadderDeskModel" "point" "[J", Cond.arrayClass .int, Cond.fieldLink RX3 16 "LadderDeskModel" "digits" "[I", Cond.fieldLink RX3 20 "LadderDeskModel" "sums" "[J", Cond.methodLink RL 15 yX2_scalar, Cond.instanceMethod yX2_scalar, Cond.selects RX2 yX2_scalar yX2_scalar]
def wsL_law_r4 : List Cond := [Cond.code yX2_scalar cX2_scalar 4 (some .int), Cond.methodLink RX2 39 yX2_tell, Cond.instanceMethod yX2_tell, Cond.selects RX2 yX2_tell yX2_tell, Cond.code yX2_tell cX2_tell 5 (some .int), Cond.methodLink RX2 73 yX2_isLong, Cond.static yX2_isLong, Cond.code yX2_isLong cX2_isLong 1 (some .boolean), Cond.methodLink RL 19 yX3_scalar, Cond.instanceMethod yX3_scalar, Cond.selects RX3 yX3_scalar yX3_scalar, Cond.code yX3_scalar cX3_scalar 4 (some .int), Cond.fieldLink RX3 53 "LadderDeskModel" "phase" "I", Cond.methodLink RX3 57 yX3_isLong, Cond.static yX3_isLong, Cond.code yX3_isLong cX3_isLong 1 (some .boolean), Cond.methodLink RL 20 yX2_point, Cond.instanceMethod yX2_point, Cond.selects RX2 yX2_point yX2_point, Cond.code yX2_point cX2_point 4 (some .int), Cond.methodLink RL 23 yX3_point, Cond.instanceMethod yX3_point, Cond.selects RX3 yX3_point yX3_point, Cond.code yX3_point cX3_point 4 (some .int)]
def wsL_law_r5 : List Cond := [Cond.methodLink RL 24 yX2_start, Cond.instanceMethod yX2_start, Cond.selects RX2 yX2_start yX2_start, Cond.code yX2_start cX2_start 1 (some .int), Cond.methodLink RX2 43 yX2_writeU, Cond.instanceMethod yX2_writeU, Cond.selects RX2 yX2_writeU yX2_writeU, Cond.code yX2_writeU cX2_writeU 2 none, Cond.methodLink RX2 67 arraycopyName, Cond.native arraycopyName, Cond.static arraycopyName, Cond.initialized "java/lang/System", Cond.constantLong RX2 93 (9223372036854775807), Cond.methodLink RX2 97 yX0_takeRest, Cond.static yX0_takeRest, Cond.code yX0_takeRest cX0_takeRest 2 none, Cond.constantLong RX0 68 (9223372036854775807), Cond.constantLong RX0 70 (-1), Cond.constantLong RX0 72 (-19), Cond.constantLong RX0 74 (19), Cond.methodLink RX2 47 yX1_begin, Cond.instanceMethod yX1_begin, Cond.selects RX1 yX1_begin yX1_begin, Cond.code yX1_begin cX1_begin 2 none]
def wsL_law_r6 : List Cond := [Cond.methodLink RX1 74 yX0_read, Cond.static yX0_read, Cond.code yX0_read cX0_read 7 none, Cond.constantLong RX0 57 (67108863), Cond.methodLink RX1 78 yX0_setSmall, Cond.static yX0_setSmall, Cond.code yX0_setSmall cX0_setSmall 3 none, Cond.methodLink RX0 22 yJ7_fill_d0a16, Cond.static yJ7_fill_d0a16, Cond.initialized RJ7, Cond.code yJ7_fill_d0a16 cJ7_fill_d0a16 5 none, Cond.methodLink RL 28 yX3_start, Cond.instanceMethod yX3_start, Cond.selects RX3 yX3_start yX3_start, Cond.code yX3_start cX3_start 1 (some .int), Cond.fieldLink RX3 61 "LadderDeskModel" "steps" "I", Cond.methodLink RX3 64 yX3_makeU, Cond.instanceMethod yX3_makeU, Cond.selects RX3 yX3_makeU yX3_makeU, Cond.code yX3_makeU cX3_makeU 2 none, Cond.constantLong RX3 33 (65535), Cond.constantLong RX3 37 (32767), Cond.methodLink RX3 45 yX3_store, Cond.instanceMethod yX3_store]
def wsL_law_r7 : List Cond := [Cond.selects RX3 yX3_store yX3_store, Cond.code yX3_store cX3_store 10 none, Cond.constantLong RX3 35 (2), Cond.constantLong RX3 39 (19), Cond.methodLink RX3 41 yX3_isGreat, Cond.instanceMethod yX3_isGreat, Cond.selects RX3 yX3_isGreat yX3_isGreat, Cond.code yX3_isGreat cX3_isGreat 2 (some .boolean), Cond.methodLink RX3 29 yX3_ofP, Cond.static yX3_ofP, Cond.code yX3_ofP cX3_ofP 1 (some .int), Cond.constant RX3 27 (65517), Cond.constant RX3 28 (65535), Cond.methodLink RX3 67 yX3_setSmall, Cond.instanceMethod yX3_setSmall, Cond.selects RX3 yX3_setSmall yX3_setSmall, Cond.code yX3_setSmall cX3_setSmall 4 none, Cond.methodLink RX3 23 yX3_copy, Cond.instanceMethod yX3_copy, Cond.selects RX3 yX3_copy yX3_copy, Cond.code yX3_copy cX3_copy 4 none, Cond.methodLink RL 29 yX2_step, Cond.instanceMethod yX2_step, Cond.selects RX2 yX2_step yX2_step]
def wsL_law_r8 : List Cond := [Cond.code yX2_step cX2_step 4 (some .int), Cond.methodLink RX2 50 Lib.Math.min.name, Cond.static Lib.Math.min.name, Cond.initialized "java/lang/Math", Cond.code Lib.Math.min.name Lib.Math.min.code 2 (some .int), Cond.methodLink RX2 56 yX2_clampedBit, Cond.instanceMethod yX2_clampedBit, Cond.selects RX2 yX2_clampedBit yX2_clampedBit, Cond.code yX2_clampedBit cX2_clampedBit 2 (some .boolean), Cond.methodLink RX2 83 yX2_clampedLong, Cond.instanceMethod yX2_clampedLong, Cond.selects RX2 yX2_clampedLong yX2_clampedLong, Cond.code yX2_clampedLong cX2_clampedLong 4 (some .long), Cond.constantLong RX2 91 (-8), Cond.constantLong RX2 95 (4611686018427387904), Cond.methodLink RX2 60 yX1_walk, Cond.instanceMethod yX1_walk, Cond.selects RX1 yX1_walk yX1_walk, Cond.code yX1_walk cX1_walk 2 none, Cond.methodLink RX1 82 yX1_changePlaces, Cond.instanceMethod yX1_changePlaces, Cond.selects RX1 yX1_changePlaces yX1_changePlaces, Cond.code yX1_changePlaces cX1_changePlaces 3 none, Cond.methodLink RX1 85 yX1_makeSums]
def wsL_law_r9 : List Cond := [Cond.instanceMethod yX1_makeSums, Cond.selects RX1 yX1_makeSums yX1_makeSums, Cond.code yX1_makeSums cX1_makeSums 1 none, Cond.methodLink RX1 116 yX0_add, Cond.static yX0_add, Cond.code yX0_add cX0_add 4 none, Cond.methodLink RX1 119 yX0_subtract, Cond.static yX0_subtract, Cond.code yX0_subtract cX0_subtract 4 none, Cond.constantLong RX0 28 (134216512), Cond.constantLong RX0 30 (134217726), Cond.methodLink RX1 88 yX1_makeDouble, Cond.instanceMethod yX1_makeDouble, Cond.selects RX1 yX1_makeDouble yX1_makeDouble, Cond.code yX1_makeDouble cX1_makeDouble 1 none, Cond.methodLink RX1 104 yX0_multiply, Cond.instanceMethod yX0_multiply, Cond.selects RX0 yX0_multiply yX0_multiply, Cond.code yX0_multiply cX0_multiply 5 none, Cond.constantLong RX0 45 (608), Cond.methodLink RX0 38 yX0_gather, Cond.instanceMethod yX0_gather, Cond.selects RX0 yX0_gather yX0_gather, Cond.code yX0_gather cX0_gather 7 none]
def wsL_law_r10 : List Cond := [Cond.methodLink RX0 42 yX0_carryWide, Cond.instanceMethod yX0_carryWide, Cond.selects RX0 yX0_carryWide yX0_carryWide, Cond.code yX0_carryWide cX0_carryWide 2 none, Cond.methodLink RX0 34 yX0_carry, Cond.static yX0_carry, Cond.code yX0_carry cX0_carry 6 none, Cond.methodLink RX1 122 yX0_scale, Cond.static yX0_scale, Cond.code yX0_scale cX0_scale 3 none, Cond.constantLong RX0 32 (121665), Cond.methodLink RX1 91 yX1_makeOther, Cond.instanceMethod yX1_makeOther, Cond.selects RX1 yX1_makeOther yX1_makeOther, Cond.code yX1_makeOther cX1_makeOther 1 none, Cond.methodLink RL 33 yX3_step, Cond.instanceMethod yX3_step, Cond.selects RX3 yX3_step yX3_step, Cond.code yX3_step cX3_step 3 (some .int), Cond.methodLink RX3 94 yX3_stepOnce, Cond.instanceMethod yX3_stepOnce, Cond.selects RX3 yX3_stepOnce yX3_stepOnce, Cond.code yX3_stepOnce cX3_stepOnce 2 none, Cond.constant RX3 90 (121665)]
def wsL_law_r11 : List Cond := [Cond.methodLink RX3 73 yX3_bit, Cond.instanceMethod yX3_bit, Cond.selects RX3 yX3_bit yX3_bit, Cond.code yX3_bit cX3_bit 2 (some .boolean), Cond.methodLink RX3 76 yX3_change, Cond.instanceMethod yX3_change, Cond.selects RX3 yX3_change yX3_change, Cond.code yX3_change cX3_change 2 none, Cond.methodLink RX3 70 yX3_swap, Cond.instanceMethod yX3_swap, Cond.selects RX3 yX3_swap yX3_swap, Cond.code yX3_swap cX3_swap 3 none, Cond.methodLink RX3 80 yX3_add, Cond.instanceMethod yX3_add, Cond.selects RX3 yX3_add yX3_add, Cond.code yX3_add cX3_add 5 none, Cond.methodLink RX3 84 yX3_subtract, Cond.instanceMethod yX3_subtract, Cond.selects RX3 yX3_subtract yX3_subtract, Cond.code yX3_subtract cX3_subtract 9 none, Cond.constantLong RX3 49 (65536), Cond.methodLink RX3 87 yX3_multiply, Cond.instanceMethod yX3_multiply, Cond.selects RX3 yX3_multiply yX3_multiply]
def wsL_law_r12 : List Cond := [Cond.code yX3_multiply cX3_multiply 6 none, Cond.constantLong RX3 51 (38), Cond.methodLink RX3 91 yX3_multiplySmall, Cond.instanceMethod yX3_multiplySmall, Cond.selects RX3 yX3_multiplySmall yX3_multiplySmall, Cond.code yX3_multiplySmall cX3_multiplySmall 5 none, Cond.methodLink RL 34 yX2_finish, Cond.instanceMethod yX2_finish, Cond.selects RX2 yX2_finish yX2_finish, Cond.code yX2_finish cX2_finish 1 (some .int), Cond.methodLink RX2 64 yX1_writeResult, Cond.instanceMethod yX1_writeResult, Cond.selects RX1 yX1_writeResult yX1_writeResult, Cond.code yX1_writeResult cX1_writeResult 2 none, Cond.methodLink RX1 101 yX0_invert, Cond.instanceMethod yX0_invert, Cond.selects RX0 yX0_invert yX0_invert, Cond.code yX0_invert cX0_invert 4 none, Cond.methodLink RX0 47 arraycopyName, Cond.methodLink RX0 53 yX0_multiply, Cond.methodLink RX1 98 yX0_write, Cond.instanceMethod yX0_write, Cond.selects RX0 yX0_write yX0_write, Cond.code yX0_write cX0_write 3 none]
def wsL_law_r13 : List Cond := [Cond.methodLink RX0 59 yX0_foldTop, Cond.static yX0_foldTop, Cond.code yX0_foldTop cX0_foldTop 2 none, Cond.constantLong RX0 76 (2097151), Cond.methodLink RX0 62 yX0_join, Cond.static yX0_join, Cond.code yX0_join cX0_join 5 none, Cond.methodLink RX0 65 yX0_takeRest, Cond.methodLink RL 37 yX3_finish, Cond.instanceMethod yX3_finish, Cond.selects RX3 yX3_finish yX3_finish, Cond.code yX3_finish cX3_finish 2 (some .int), Cond.fieldLink RX3 97 "LadderDeskModel" "results" "I", Cond.methodLink RL 38 yX2_again, Cond.instanceMethod yX2_again, Cond.selects RX2 yX2_again yX2_again, Cond.code yX2_again cX2_again 1 (some .int), Cond.methodLink RL 41 yX3_again, Cond.instanceMethod yX3_again, Cond.selects RX3 yX3_again yX3_again, Cond.code yX3_again cX3_again 2 (some .int), Cond.methodLink RX3 100 yX3_longOf, Cond.instanceMethod yX3_longOf, Cond.selects RX3 yX3_longOf yX3_longOf]
def wsL_law_r14 : List Cond := [Cond.code yX3_longOf cX3_longOf 6 (some .long), Cond.methodLink RL 42 yX2_reset, Cond.instanceMethod yX2_reset, Cond.selects RX2 yX2_reset yX2_reset, Cond.code yX2_reset cX2_reset 2 (some .int), Cond.methodLink RL 45 yX3_reset, Cond.instanceMethod yX3_reset, Cond.selects RX3 yX3_reset yX3_reset, Cond.code yX3_reset cX3_reset 2 (some .int), Cond.methodLink RL 46 yX2_phase, Cond.instanceMethod yX2_phase, Cond.selects RX2 yX2_phase yX2_phase, Cond.code yX2_phase cX2_phase 1 (some .int), Cond.methodLink RL 49 yX3_phase, Cond.instanceMethod yX3_phase, Cond.selects RX3 yX3_phase yX3_phase, Cond.code yX3_phase cX3_phase 1 (some .int), Cond.methodLink RL 50 yX2_out, Cond.instanceMethod yX2_out, Cond.selects RX2 yX2_out yX2_out, Cond.code yX2_out cX2_out 2 (some .long), Cond.methodLink RL 54 yX3_out, Cond.instanceMethod yX3_out, Cond.selects RX3 yX3_out yX3_out]
def wsL_law_r15 : List Cond := [Cond.code yX3_out cX3_out 2 (some .long), Cond.methodLink RL 55 yX2_part, Cond.instanceMethod yX2_part, Cond.selects RX2 yX2_part yX2_part, Cond.code yX2_part cX2_part 3 (some .long), Cond.methodLink RX2 76 yX1_isPart, Cond.static yX1_isPart, Cond.code yX1_isPart cX1_isPart 1 (some .boolean), Cond.methodLink RX2 79 yX1_writePart, Cond.instanceMethod yX1_writePart, Cond.selects RX1 yX1_writePart yX1_writePart, Cond.code yX1_writePart cX1_writePart 3 none, Cond.methodLink RX1 94 yX1_rowOf, Cond.instanceMethod yX1_rowOf, Cond.selects RX1 yX1_rowOf yX1_rowOf, Cond.code yX1_rowOf cX1_rowOf 2 (some (.array .long)), Cond.methodLink RL 59 yX3_part, Cond.instanceMethod yX3_part, Cond.selects RX3 yX3_part yX3_part, Cond.code yX3_part cX3_part 3 (some .long), Cond.methodLink RL 60 yX2_told, Cond.instanceMethod yX2_told, Cond.selects RX2 yX2_told yX2_told, Cond.code yX2_told cX2_told 3 (some .long)]
def wsL_law_r16 : List Cond := [Cond.methodLink RL 63 yX3_told, Cond.instanceMethod yX3_told, Cond.selects RX3 yX3_told yX3_told, Cond.code yX3_told cX3_told 5 (some .long), Cond.constantLong RX3 104 (-8), Cond.constantLong RX3 106 (4611686018427387903), Cond.constantLong RX3 108 (4611686018427387904), Cond.methodLink RL 64 yX2_count, Cond.instanceMethod yX2_count, Cond.selects RX2 yX2_count yX2_count, Cond.code yX2_count cX2_count 2 (some .int), Cond.methodLink RL 67 yX3_count, Cond.instanceMethod yX3_count, Cond.selects RX3 yX3_count yX3_count, Cond.code yX3_count cX3_count 2 (some .int), Cond.methodLink RL 68 yX2_check, Cond.instanceMethod yX2_check, Cond.selects RX2 yX2_check yX2_check, Cond.code yX2_check cX2_check 1 (some .int), Cond.methodLink RX2 87 yX1_agreesWith, Cond.instanceMethod yX1_agreesWith, Cond.selects RX1 yX1_agreesWith yX1_agreesWith, Cond.code yX1_agreesWith cX1_agreesWith 2 (some .boolean), Cond.methodLink RX1 108 yX1_isZero]
def wsL_law_r17 : List Cond := [Cond.static yX1_isZero, Cond.code yX1_isZero cX1_isZero 1 (some .boolean), Cond.methodLink RX1 112 yX1_areEqual, Cond.static yX1_areEqual, Cond.code yX1_areEqual cX1_areEqual 3 (some .boolean), Cond.methodLink RL 71 yX3_check, Cond.instanceMethod yX3_check, Cond.selects RX3 yX3_check yX3_check, Cond.code yX3_check cX3_check 2 (some .int), Cond.methodLink RX3 110 yX3_isZero, Cond.instanceMethod yX3_isZero, Cond.selects RX3 yX3_isZero yX3_isZero, Cond.code yX3_isZero cX3_isZero 4 (some .boolean), Cond.methodLink RX3 113 yX3_isSame, Cond.instanceMethod yX3_isSame, Cond.selects RX3 yX3_isSame yX3_isSame, Cond.code yX3_isSame cX3_isSame 5 (some .boolean)]
def wsL_law : List Cond := (wsL_law_r1 ++ (wsL_law_r2 ++ (wsL_law_r3 ++ (wsL_law_r4 ++ (wsL_law_r5 ++ (wsL_law_r6 ++ (wsL_law_r7 ++ (wsL_law_r8 ++ (wsL_law_r9 ++ (wsL_law_r10 ++ (wsL_law_r11 ++ (wsL_law_r12 ++ (wsL_law_r13 ++ (wsL_law_r14 ++ (wsL_law_r15 ++ (wsL_law_r16 ++ wsL_law_r17)))))))))))))))) ++ wsX20 ++ wsX30 ++ wsX10 ++ wsX00 ++ ([] : List Cond)
set_option maxRecDepth 20000 in
theorem wsL_law_in : ∀ w ∈ wsL_law, w ∈ lw_tbl := fun w h => (goodIn_p wsL_law [39, 42, 47, 53, 57, 343, 150, 154, 157, 371, 374, 161, 378, 165, 169, 176, 184, 187, 191, 194, 382, 386, 392, 398, 401, 407, 411, 198, 201, 205, 209, 215, 219, 223, 226, 229, 235, 239, 243, 247, 251, 254, 259, 415, 419, 423, 427, 431, 435, 439, 444, 450, 263, 267, 271, 277, 280, 284, 454, 289, 458, 462, 293, 466, 297, 470, 301, 474, 305, 308, 312, 316, 478, 320, 482, 324, 489, 328, 332, 335, 338, 493, 497, 501] (by decide +kernel) (by decide +kernel) w h).1
theorem inlX0 : ∀ w ∈ wsX00, w ∈ wsL_law := fun _ h => List.mem_append_left _ (List.mem_append_right _ h)
theorem inX0 : ∀ w ∈ wsX00, w ∈ lw_tbl := fun w h => wsL_law_in w (inlX0 w h)
theorem inlX1 : ∀ w ∈ wsX10, w ∈ wsL_law := fun _ h => List.mem_append_left _ (List.mem_append_left _ (List.mem_append_right _ h))
theorem inX1 : ∀ w ∈ wsX10, w ∈ lw_tbl := fun w h => wsL_law_in w (inlX1 w h)
theorem inlX2 : ∀ w ∈ wsX20, w ∈ wsL_law := fun _ h => List.mem_append_left _ (List.mem_append_left _ (List.mem_append_left _ (List.mem_append_left _ (List.mem_append_right _ h))))
theorem inX2 : ∀ w ∈ wsX20, w ∈ lw_tbl := fun w h => wsL_law_in w (inlX2 w h)
theorem inlX3 : ∀ w ∈ wsX30, w ∈ wsL_law := fun _ h => List.mem_append_left _ (List.mem_append_left _ (List.mem_append_left _ (List.mem_append_right _ h)))
theorem inX3 : ∀ w ∈ wsX30, w ∈ lw_tbl := fun w h => wsL_law_in w (inlX3 w h)
theorem inJ9 : ∀ w ∈ wsJ90, w ∈ lw_tbl := by decide +kernel
theorem inJ10 : ∀ w ∈ wsJ100, w ∈ lw_tbl := by decide +kernel
theorem inJ7 : ∀ w ∈ wsJ70, w ∈ lw_tbl := by decide +kernel
set_option maxRecDepth 20000 in
theorem ggX0_init_X0_newRow : GoodIn wsX0_init wsX0_newRow := goodIn_r _ [10, 4] (by decide +kernel) (by decide +kernel)
set_option maxRecDepth 20000 in
theorem gX0_init_X0_newRow : GoodIn wsX0_init (va_wsS RX0 15 yX0_newRow wsX0_newRow) := goodIn_app (goodIn_of _ (by decide +kernel)) ggX0_init_X0_newRow
theorem dX0_init_0 : decode cX0_init 0 = .ok (.aload_n 0, 1) := by decide +kernel
theorem dX0_init_1 : decode cX0_init 1 = .ok (.invokespecial 5, 3) := by decide +kernel
theorem dX0_init_4 : decode cX0_init 4 = .ok (.aload_n 0, 1) := by decide +kernel
theorem dX0_init_5 : decode cX0_init 5 = .ok (.bipush 20, 2) := by decide +kernel
theorem dX0_init_7 : decode cX0_init 7 = .ok (.newarray .long, 2) := by decide +kernel
theorem dX0_init_9 : decode cX0_init 9 = .ok (.putfield 11, 3) := by decide +kernel
theorem dX0_init_12 : decode cX0_init 12 = .ok (.aload_n 0, 1) := by decide +kernel
theorem dX0_init_13 : decode cX0_init 13 = .ok (.invokestatic 15, 3) := by decide +kernel
theorem dX0_init_16 : decode cX0_init 16 = .ok (.putfield 19, 3) := by decide +kernel
theorem dX0_init_19 : decode cX0_init 19 = .ok (.return_, 1) := by decide +kernel
theorem dX0_newRow_0 : decode cX0_newRow 0 = .ok (.bipush 10, 2) := by decide +kernel
theorem dX0_newRow_2 : decode cX0_newRow 2 = .ok (.newarray .long, 2) := by decide +kernel
theorem dX0_newRow_4 : decode cX0_newRow 4 = .ok (.areturn, 1) := by decide +kernel
set_option maxRecDepth 20000 in
theorem ggX0_setSmall_J7_fill_d0a16 : GoodIn wsX0_setSmall wsJ7_fill_d0a16 := goodIn_r _ [4] (by decide +kernel) (by decide +kernel)
set_option maxRecDepth 20000 in
theorem gX0_setSmall_J7_fill_d0a16 : GoodIn wsX0_setSmall (va_wsS RX0 22 yJ7_fill_d0a16 wsJ7_fill_d0a16) := goodIn_app (goodIn_of _ (by decide +kernel)) ggX0_setSmall_J7_fill_d0a16
theorem dX0_setSmall_0 : decode cX0_setSmall 0 = .ok (.aload_n 0, 1) := by decide +kernel
theorem dX0_setSmall_1 : decode cX0_setSmall 1 = .ok (.lconst 0, 1) := by decide +kernel
theorem dX0_setSmall_2 : decode cX0_setSmall 2 = .ok (.invokestatic 22, 3) := by decide +kernel
theorem dX0_setSmall_5 : decode cX0_setSmall 5 = .ok (.aload_n 0, 1) := by decide +kernel
theorem dX0_setSmall_6 : decode cX0_setSmall 6 = .ok (.iconst 0, 1) := by decide +kernel
theorem dX0_setSmall_7 : decode cX0_setSmall 7 = .ok (.lload_n 1, 1) := by decide +kernel
theorem dX0_setSmall_8 : decode cX0_setSmall 8 = .ok (.lastore, 1) := by decide +kernel
theorem dX0_setSmall_9 : decode cX0_setSmall 9 = .ok (.return_, 1) := by decide +kernel
theorem dX0_add_0 : decode cX0_add 0 = .ok (.iconst 0, 1) := by decide +kernel
theorem dX0_add_1 : decode cX0_add 1 = .ok (.istore_n 3, 1) := by decide +kernel
theorem dX0_add_2 : decode cX0_add 2 = .ok (.iload_n 3, 1) := by decide +kernel
theorem dX0_add_3 : decode cX0_add 3 = .ok (.bipush 10, 2) := by decide +kernel
theorem dX0_add_5 : decode cX0_add 5 = .ok (.if_icmp .ge 19, 3) := by decide +kernel
theorem dX0_add_8 : decode cX0_add 8 = .ok (.aload_n 0, 1) := by decide +kernel
theorem dX0_add_9 : decode cX0_add 9 = .ok (.iload_n 3, 1) := by decide +kernel
theorem dX0_add_10 : decode cX0_add 10 = .ok (.aload_n 1, 1) := by decide +kernel
theorem dX0_add_11 : decode cX0_add 11 = .ok (.iload_n 3, 1) := by decide +kernel
theorem dX0_add_12 : decode cX0_add 12 = .ok (.laload, 1) := by decide +kernel
theorem dX0_add_13 : decode cX0_add 13 = .ok (.aload_n 2, 1) := by decide +kernel
theorem dX0_add_14 : decode cX0_add 14 = .ok (.iload_n 3, 1) := by decide +kernel
theorem dX0_add_15 : decode cX0_add 15 = .ok (.laload, 1) := by decide +kernel
theorem dX0_add_16 : decode cX0_add 16 = .ok (.ladd, 1) := by decide +kernel
theorem dX0_add_17 : decode cX0_add 17 = .ok (.lastore, 1) := by decide +kernel
theorem dX0_add_18 : decode cX0_add 18 = .ok (.iinc 3 1, 3) := by decide +kernel
theorem dX0_add_21 : decode cX0_add 21 = .ok (.goto (-19), 3) := by decide +kernel
theorem dX0_add_24 : decode cX0_add 24 = .ok (.return_, 1) := by decide +kernel
theorem dX0_subtract_0 : decode cX0_subtract 0 = .ok (.aload_n 0, 1) := by decide +kernel
theorem dX0_subtract_1 : decode cX0_subtract 1 = .ok (.iconst 0, 1) := by decide +kernel
theorem dX0_subtract_2 : decode cX0_subtract 2 = .ok (.aload_n 1, 1) := by decide +kernel
theorem dX0_subtract_3 : decode cX0_subtract 3 = .ok (.iconst 0, 1) := by decide +kernel
theorem dX0_subtract_4 : decode cX0_subtract 4 = .ok (.laload, 1) := by decide +kernel
theorem dX0_subtract_5 : decode cX0_subtract 5 = .ok (.ldc2_w 28, 3) := by decide +kernel
theorem dX0_subtract_8 : decode cX0_subtract 8 = .ok (.ladd, 1) := by decide +kernel
theorem dX0_subtract_9 : decode cX0_subtract 9 = .ok (.aload_n 2, 1) := by decide +kernel
theorem dX0_subtract_10 : decode cX0_subtract 10 = .ok (.iconst 0, 1) := by decide +kernel
theorem dX0_subtract_11 : decode cX0_subtract 11 = .ok (.laload, 1) := by decide +kernel
theorem dX0_subtract_12 : decode cX0_subtract 12 = .ok (.lsub, 1) := by decide +kernel
theorem dX0_subtract_13 : decode cX0_subtract 13 = .ok (.lastore, 1) := by decide +kernel
theorem dX0_subtract_14 : decode cX0_subtract 14 = .ok (.iconst 1, 1) := by decide +kernel
theorem dX0_subtract_15 : decode cX0_subtract 15 = .ok (.istore_n 3, 1) := by decide +kernel
theorem dX0_subtract_16 : decode cX0_subtract 16 = .ok (.iload_n 3, 1) := by decide +kernel
theorem dX0_subtract_17 : decode cX0_subtract 17 = .ok (.bipush 10, 2) := by decide +kernel
theorem dX0_subtract_19 : decode cX0_subtract 19 = .ok (.if_icmp .ge 23, 3) := by decide +kernel
theorem dX0_subtract_22 : decode cX0_subtract 22 = .ok (.aload_n 0, 1) := by decide +kernel
theorem dX0_subtract_23 : decode cX0_subtract 23 = .ok (.iload_n 3, 1) := by decide +kernel
theorem dX0_subtract_24 : decode cX0_subtract 24 = .ok (.aload_n 1, 1) := by decide +kernel
theorem dX0_subtract_25 : decode cX0_subtract 25 = .ok (.iload_n 3, 1) := by decide +kernel
theorem dX0_subtract_26 : decode cX0_subtract 26 = .ok (.laload, 1) := by decide +kernel
theorem dX0_subtract_27 : decode cX0_subtract 27 = .ok (.ldc2_w 30, 3) := by decide +kernel
theorem dX0_subtract_30 : decode cX0_subtract 30 = .ok (.ladd, 1) := by decide +kernel
theorem dX0_subtract_31 : decode cX0_subtract 31 = .ok (.aload_n 2, 1) := by decide +kernel
theorem dX0_subtract_32 : decode cX0_subtract 32 = .ok (.iload_n 3, 1) := by decide +kernel
theorem dX0_subtract_33 : decode cX0_subtract 33 = .ok (.laload, 1) := by decide +kernel
theorem dX0_subtract_34 : decode cX0_subtract 34 = .ok (.lsub, 1) := by decide +kernel
theorem dX0_subtract_35 : decode cX0_subtract 35 = .ok (.lastore, 1) := by decide +kernel
theorem dX0_subtract_36 : decode cX0_subtract 36 = .ok (.iinc 3 1, 3) := by decide +kernel
theorem dX0_subtract_39 : decode cX0_subtract 39 = .ok (.goto (-23), 3) := by decide +kernel
theorem dX0_subtract_42 : decode cX0_subtract 42 = .ok (.return_, 1) := by decide +kernel
set_option maxRecDepth 20000 in
theorem ggX0_scale_X0_carry : GoodIn wsX0_scale wsX0_carry := goodIn_r _ [5, 6, 7] (by decide +kernel) (by decide +kernel)
set_option maxRecDepth 20000 in
theorem gX0_scale_X0_carry : GoodIn wsX0_scale (va_wsS RX0 34 yX0_carry wsX0_carry) := goodIn_app (goodIn_of _ (by decide +kernel)) ggX0_scale_X0_carry
theorem dX0_scale_0 : decode cX0_scale 0 = .ok (.iconst 0, 1) := by decide +kernel
theorem dX0_scale_1 : decode cX0_scale 1 = .ok (.istore_n 2, 1) := by decide +kernel
theorem dX0_scale_2 : decode cX0_scale 2 = .ok (.iload_n 2, 1) := by decide +kernel
theorem dX0_scale_3 : decode cX0_scale 3 = .ok (.bipush 10, 2) := by decide +kernel
theorem dX0_scale_5 : decode cX0_scale 5 = .ok (.if_icmp .ge 19, 3) := by decide +kernel
theorem dX0_scale_8 : decode cX0_scale 8 = .ok (.aload_n 0, 1) := by decide +kernel
theorem dX0_scale_9 : decode cX0_scale 9 = .ok (.iload_n 2, 1) := by decide +kernel
theorem dX0_scale_10 : decode cX0_scale 10 = .ok (.aload_n 1, 1) := by decide +kernel
theorem dX0_scale_11 : decode cX0_scale 11 = .ok (.iload_n 2, 1) := by decide +kernel
theorem dX0_scale_12 : decode cX0_scale 12 = .ok (.laload, 1) := by decide +kernel
theorem dX0_scale_13 : decode cX0_scale 13 = .ok (.ldc2_w 32, 3) := by decide +kernel
theorem dX0_scale_16 : decode cX0_scale 16 = .ok (.lmul, 1) := by decide +kernel
theorem dX0_scale_17 : decode cX0_scale 17 = .ok (.lastore, 1) := by decide +kernel
theorem dX0_scale_18 : decode cX0_scale 18 = .ok (.iinc 2 1, 3) := by decide +kernel
theorem dX0_scale_21 : decode cX0_scale 21 = .ok (.goto (-19), 3) := by decide +kernel
theorem dX0_scale_24 : decode cX0_scale 24 = .ok (.aload_n 0, 1) := by decide +kernel
theorem dX0_scale_25 : decode cX0_scale 25 = .ok (.invokestatic 34, 3) := by decide +kernel
theorem dX0_scale_28 : decode cX0_scale 28 = .ok (.return_, 1) := by decide +kernel
set_option maxRecDepth 20000 in
theorem ggX0_multiply_X0_gather : GoodIn wsX0_multiply wsX0_gather := goodIn_r _ [7, 1, 8, 9, 10, 11, 20, 21] (by decide +kernel) (by decide +kernel)
set_option maxRecDepth 20000 in
theorem gX0_multiply_X0_gather : GoodIn wsX0_multiply (wsV RX0 38 RX0 yX0_gather wsX0_gather) := goodIn_app (goodIn_of _ (by decide +kernel)) ggX0_multiply_X0_gather
set_option maxRecDepth 20000 in
theorem ggX0_multiply_X0_carryWide : GoodIn wsX0_multiply wsX0_carryWide := goodIn_r _ [15, 1, 16, 20, 21] (by decide +kernel) (by decide +kernel)
set_option maxRecDepth 20000 in
theorem gX0_multiply_X0_carryWide : GoodIn wsX0_multiply (wsV RX0 42 RX0 yX0_carryWide wsX0_carryWide) := goodIn_app (goodIn_of _ (by decide +kernel)) ggX0_multiply_X0_carryWide
set_option maxRecDepth 20000 in
theorem ggX0_multiply_X0_carry : GoodIn wsX0_multiply wsX0_carry := goodIn_r _ [19, 16, 2] (by decide +kernel) (by decide +kernel)
set_option maxRecDepth 20000 in
theorem gX0_multiply_X0_carry : GoodIn wsX0_multiply (va_wsS RX0 34 yX0_carry wsX0_carry) := goodIn_app (goodIn_of _ (by decide +kernel)) ggX0_multiply_X0_carry
theorem dX0_multiply_0 : decode cX0_multiply 0 = .ok (.aload_n 0, 1) := by decide +kernel
theorem dX0_multiply_1 : decode cX0_multiply 1 = .ok (.aload_n 2, 1) := by decide +kernel
theorem dX0_multiply_2 : decode cX0_multiply 2 = .ok (.aload_n 3, 1) := by decide +kernel
theorem dX0_multiply_3 : decode cX0_multiply 3 = .ok (.invokevirtual 38, 3) := by decide +kernel
theorem dX0_multiply_6 : decode cX0_multiply 6 = .ok (.aload_n 0, 1) := by decide +kernel
theorem dX0_multiply_7 : decode cX0_multiply 7 = .ok (.invokevirtual 42, 3) := by decide +kernel
theorem dX0_multiply_10 : decode cX0_multiply 10 = .ok (.iconst 0, 1) := by decide +kernel
theorem dX0_multiply_11 : decode cX0_multiply 11 = .ok (.istore 4, 2) := by decide +kernel
theorem dX0_multiply_13 : decode cX0_multiply 13 = .ok (.iload 4, 2) := by decide +kernel
theorem dX0_multiply_15 : decode cX0_multiply 15 = .ok (.bipush 10, 2) := by decide +kernel
theorem dX0_multiply_17 : decode cX0_multiply 17 = .ok (.if_icmp .ge 35, 3) := by decide +kernel
theorem dX0_multiply_20 : decode cX0_multiply 20 = .ok (.aload_n 1, 1) := by decide +kernel
theorem dX0_multiply_21 : decode cX0_multiply 21 = .ok (.iload 4, 2) := by decide +kernel
theorem dX0_multiply_23 : decode cX0_multiply 23 = .ok (.aload_n 0, 1) := by decide +kernel
theorem dX0_multiply_24 : decode cX0_multiply 24 = .ok (.getfield 11, 3) := by decide +kernel
theorem dX0_multiply_27 : decode cX0_multiply 27 = .ok (.iload 4, 2) := by decide +kernel
theorem dX0_multiply_29 : decode cX0_multiply 29 = .ok (.laload, 1) := by decide +kernel
theorem dX0_multiply_30 : decode cX0_multiply 30 = .ok (.ldc2_w 45, 3) := by decide +kernel
theorem dX0_multiply_33 : decode cX0_multiply 33 = .ok (.aload_n 0, 1) := by decide +kernel
theorem dX0_multiply_34 : decode cX0_multiply 34 = .ok (.getfield 11, 3) := by decide +kernel
theorem dX0_multiply_37 : decode cX0_multiply 37 = .ok (.iload 4, 2) := by decide +kernel
theorem dX0_multiply_39 : decode cX0_multiply 39 = .ok (.bipush 10, 2) := by decide +kernel
theorem dX0_multiply_41 : decode cX0_multiply 41 = .ok (.iadd, 1) := by decide +kernel
theorem dX0_multiply_42 : decode cX0_multiply 42 = .ok (.laload, 1) := by decide +kernel
theorem dX0_multiply_43 : decode cX0_multiply 43 = .ok (.lmul, 1) := by decide +kernel
theorem dX0_multiply_44 : decode cX0_multiply 44 = .ok (.ladd, 1) := by decide +kernel
theorem dX0_multiply_45 : decode cX0_multiply 45 = .ok (.lastore, 1) := by decide +kernel
theorem dX0_multiply_46 : decode cX0_multiply 46 = .ok (.iinc 4 1, 3) := by decide +kernel
theorem dX0_multiply_49 : decode cX0_multiply 49 = .ok (.goto (-36), 3) := by decide +kernel
theorem dX0_multiply_52 : decode cX0_multiply 52 = .ok (.aload_n 1, 1) := by decide +kernel
theorem dX0_multiply_53 : decode cX0_multiply 53 = .ok (.invokestatic 34, 3) := by decide +kernel
theorem dX0_multiply_56 : decode cX0_multiply 56 = .ok (.return_, 1) := by decide +kernel
set_option maxRecDepth 20000 in
theorem ggX0_invert_X0_multiply : GoodIn wsX0_invert wsX0_multiply := goodIn_r _ [9, 10, 11, 12, 13, 14, 8, 15, 16, 17, 18, 19, 20, 21, 22, 23, 24, 25, 26, 27, 28, 29] (by decide +kernel) (by decide +kernel)
set_option maxRecDepth 20000 in
theorem gX0_invert_X0_multiply : GoodIn wsX0_invert (wsV RX0 53 RX0 yX0_multiply wsX0_multiply) := goodIn_app (goodIn_of _ (by decide +kernel)) ggX0_invert_X0_multiply
theorem dX0_invert_0 : decode cX0_invert 0 = .ok (.aload_n 2, 1) := by decide +kernel
theorem dX0_invert_1 : decode cX0_invert 1 = .ok (.iconst 0, 1) := by decide +kernel
theorem dX0_invert_2 : decode cX0_invert 2 = .ok (.aload_n 1, 1) := by decide +kernel
theorem dX0_invert_3 : decode cX0_invert 3 = .ok (.iconst 0, 1) := by decide +kernel
theorem dX0_invert_4 : decode cX0_invert 4 = .ok (.bipush 10, 2) := by decide +kernel
theorem dX0_invert_6 : decode cX0_invert 6 = .ok (.invokestatic 47, 3) := by decide +kernel
theorem dX0_invert_9 : decode cX0_invert 9 = .ok (.sipush 253, 3) := by decide +kernel
theorem dX0_invert_12 : decode cX0_invert 12 = .ok (.istore_n 3, 1) := by decide +kernel
theorem dX0_invert_13 : decode cX0_invert 13 = .ok (.iload_n 3, 1) := by decide +kernel
theorem dX0_invert_14 : decode cX0_invert 14 = .ok (.ifCond .lt 33, 3) := by decide +kernel
theorem dX0_invert_17 : decode cX0_invert 17 = .ok (.aload_n 0, 1) := by decide +kernel
theorem dX0_invert_18 : decode cX0_invert 18 = .ok (.aload_n 1, 1) := by decide +kernel
theorem dX0_invert_19 : decode cX0_invert 19 = .ok (.aload_n 1, 1) := by decide +kernel
theorem dX0_invert_20 : decode cX0_invert 20 = .ok (.aload_n 1, 1) := by decide +kernel
theorem dX0_invert_21 : decode cX0_invert 21 = .ok (.invokevirtual 53, 3) := by decide +kernel
theorem dX0_invert_24 : decode cX0_invert 24 = .ok (.iload_n 3, 1) := by decide +kernel
theorem dX0_invert_25 : decode cX0_invert 25 = .ok (.iconst 4, 1) := by decide +kernel
theorem dX0_invert_26 : decode cX0_invert 26 = .ok (.if_icmp .eq 15, 3) := by decide +kernel
theorem dX0_invert_29 : decode cX0_invert 29 = .ok (.iload_n 3, 1) := by decide +kernel
theorem dX0_invert_30 : decode cX0_invert 30 = .ok (.iconst 2, 1) := by decide +kernel
theorem dX0_invert_31 : decode cX0_invert 31 = .ok (.if_icmp .eq 10, 3) := by decide +kernel
theorem dX0_invert_34 : decode cX0_invert 34 = .ok (.aload_n 0, 1) := by decide +kernel
theorem dX0_invert_35 : decode cX0_invert 35 = .ok (.aload_n 1, 1) := by decide +kernel
theorem dX0_invert_36 : decode cX0_invert 36 = .ok (.aload_n 1, 1) := by decide +kernel
theorem dX0_invert_37 : decode cX0_invert 37 = .ok (.aload_n 2, 1) := by decide +kernel
theorem dX0_invert_38 : decode cX0_invert 38 = .ok (.invokevirtual 53, 3) := by decide +kernel
theorem dX0_invert_41 : decode cX0_invert 41 = .ok (.iinc 3 (-1), 3) := by decide +kernel
theorem dX0_invert_44 : decode cX0_invert 44 = .ok (.goto (-31), 3) := by decide +kernel
theorem dX0_invert_47 : decode cX0_invert 47 = .ok (.return_, 1) := by decide +kernel
theorem dX0_read_0 : decode cX0_read 0 = .ok (.iconst 0, 1) := by decide +kernel
theorem dX0_read_1 : decode cX0_read 1 = .ok (.istore_n 2, 1) := by decide +kernel
theorem dX0_read_2 : decode cX0_read 2 = .ok (.iload_n 2, 1) := by decide +kernel
theorem dX0_read_3 : decode cX0_read 3 = .ok (.bipush 10, 2) := by decide +kernel
theorem dX0_read_5 : decode cX0_read 5 = .ok (.if_icmp .ge 76, 3) := by decide +kernel
theorem dX0_read_8 : decode cX0_read 8 = .ok (.iload_n 2, 1) := by decide +kernel
theorem dX0_read_9 : decode cX0_read 9 = .ok (.bipush 26, 2) := by decide +kernel
theorem dX0_read_11 : decode cX0_read 11 = .ok (.imul, 1) := by decide +kernel
theorem dX0_read_12 : decode cX0_read 12 = .ok (.bipush 6, 2) := by decide +kernel
theorem dX0_read_14 : decode cX0_read 14 = .ok (.ishr, 1) := by decide +kernel
theorem dX0_read_15 : decode cX0_read 15 = .ok (.istore_n 3, 1) := by decide +kernel
theorem dX0_read_16 : decode cX0_read 16 = .ok (.iload_n 2, 1) := by decide +kernel
theorem dX0_read_17 : decode cX0_read 17 = .ok (.bipush 26, 2) := by decide +kernel
theorem dX0_read_19 : decode cX0_read 19 = .ok (.imul, 1) := by decide +kernel
theorem dX0_read_20 : decode cX0_read 20 = .ok (.bipush 63, 2) := by decide +kernel
theorem dX0_read_22 : decode cX0_read 22 = .ok (.iand, 1) := by decide +kernel
theorem dX0_read_23 : decode cX0_read 23 = .ok (.istore 4, 2) := by decide +kernel
theorem dX0_read_25 : decode cX0_read 25 = .ok (.aload_n 1, 1) := by decide +kernel
theorem dX0_read_26 : decode cX0_read 26 = .ok (.iload_n 3, 1) := by decide +kernel
theorem dX0_read_27 : decode cX0_read 27 = .ok (.laload, 1) := by decide +kernel
theorem dX0_read_28 : decode cX0_read 28 = .ok (.iload 4, 2) := by decide +kernel
theorem dX0_read_30 : decode cX0_read 30 = .ok (.lushr, 1) := by decide +kernel
theorem dX0_read_31 : decode cX0_read 31 = .ok (.lstore 5, 2) := by decide +kernel
theorem dX0_read_33 : decode cX0_read 33 = .ok (.iload 4, 2) := by decide +kernel
theorem dX0_read_35 : decode cX0_read 35 = .ok (.bipush 26, 2) := by decide +kernel
theorem dX0_read_37 : decode cX0_read 37 = .ok (.iadd, 1) := by decide +kernel
theorem dX0_read_38 : decode cX0_read 38 = .ok (.bipush 64, 2) := by decide +kernel
theorem dX0_read_40 : decode cX0_read 40 = .ok (.if_icmp .le 26, 3) := by decide +kernel
theorem dX0_read_43 : decode cX0_read 43 = .ok (.iload_n 3, 1) := by decide +kernel
theorem dX0_read_44 : decode cX0_read 44 = .ok (.iconst 1, 1) := by decide +kernel
theorem dX0_read_45 : decode cX0_read 45 = .ok (.iadd, 1) := by decide +kernel
theorem dX0_read_46 : decode cX0_read 46 = .ok (.iconst 4, 1) := by decide +kernel
theorem dX0_read_47 : decode cX0_read 47 = .ok (.if_icmp .ge 19, 3) := by decide +kernel
theorem dX0_read_50 : decode cX0_read 50 = .ok (.lload 5, 2) := by decide +kernel
theorem dX0_read_52 : decode cX0_read 52 = .ok (.aload_n 1, 1) := by decide +kernel
theorem dX0_read_53 : decode cX0_read 53 = .ok (.iload_n 3, 1) := by decide +kernel
theorem dX0_read_54 : decode cX0_read 54 = .ok (.iconst 1, 1) := by decide +kernel
theorem dX0_read_55 : decode cX0_read 55 = .ok (.iadd, 1) := by decide +kernel
theorem dX0_read_56 : decode cX0_read 56 = .ok (.laload, 1) := by decide +kernel
theorem dX0_read_57 : decode cX0_read 57 = .ok (.bipush 64, 2) := by decide +kernel
theorem dX0_read_59 : decode cX0_read 59 = .ok (.iload 4, 2) := by decide +kernel
theorem dX0_read_61 : decode cX0_read 61 = .ok (.isub, 1) := by decide +kernel
theorem dX0_read_62 : decode cX0_read 62 = .ok (.lshl, 1) := by decide +kernel
theorem dX0_read_63 : decode cX0_read 63 = .ok (.lor, 1) := by decide +kernel
theorem dX0_read_64 : decode cX0_read 64 = .ok (.lstore 5, 2) := by decide +kernel
theorem dX0_read_66 : decode cX0_read 66 = .ok (.aload_n 0, 1) := by decide +kernel
theorem dX0_read_67 : decode cX0_read 67 = .ok (.iload_n 2, 1) := by decide +kernel
theorem dX0_read_68 : decode cX0_read 68 = .ok (.lload 5, 2) := by decide +kernel
theorem dX0_read_70 : decode cX0_read 70 = .ok (.ldc2_w 57, 3) := by decide +kernel
theorem dX0_read_73 : decode cX0_read 73 = .ok (.land, 1) := by decide +kernel
theorem dX0_read_74 : decode cX0_read 74 = .ok (.lastore, 1) := by decide +kernel
theorem dX0_read_75 : decode cX0_read 75 = .ok (.iinc 2 1, 3) := by decide +kernel
theorem dX0_read_78 : decode cX0_read 78 = .ok (.goto (-76), 3) := by decide +kernel
theorem dX0_read_81 : decode cX0_read 81 = .ok (.return_, 1) := by decide +kernel
set_option maxRecDepth 20000 in
theorem ggX0_write_X0_foldTop : GoodIn wsX0_write wsX0_foldTop := goodIn_r _ [9, 10, 11, 12] (by decide +kernel) (by decide +kernel)
set_option maxRecDepth 20000 in
theorem gX0_write_X0_foldTop : GoodIn wsX0_write (va_wsS RX0 59 yX0_foldTop wsX0_foldTop) := goodIn_app (goodIn_of _ (by decide +kernel)) ggX0_write_X0_foldTop
set_option maxRecDepth 20000 in
theorem ggX0_write_X0_join : GoodIn wsX0_write wsX0_join := goodIn_r _ [15, 16, 17, 18, 19] (by decide +kernel) (by decide +kernel)
set_option maxRecDepth 20000 in
theorem gX0_write_X0_join : GoodIn wsX0_write (va_wsS RX0 62 yX0_join wsX0_join) := goodIn_app (goodIn_of _ (by decide +kernel)) ggX0_write_X0_join
set_option maxRecDepth 20000 in
theorem ggX0_write_X0_takeRest : GoodIn wsX0_write wsX0_takeRest := goodIn_r _ [22, 23, 24, 25, 11] (by decide +kernel) (by decide +kernel)
set_option maxRecDepth 20000 in
theorem gX0_write_X0_takeRest : GoodIn wsX0_write (va_wsS RX0 65 yX0_takeRest wsX0_takeRest) := goodIn_app (goodIn_of _ (by decide +kernel)) ggX0_write_X0_takeRest
theorem dX0_write_0 : decode cX0_write 0 = .ok (.aload_n 2, 1) := by decide +kernel
theorem dX0_write_1 : decode cX0_write 1 = .ok (.iconst 0, 1) := by decide +kernel
theorem dX0_write_2 : decode cX0_write 2 = .ok (.aload_n 0, 1) := by decide +kernel
theorem dX0_write_3 : decode cX0_write 3 = .ok (.getfield 19, 3) := by decide +kernel
theorem dX0_write_6 : decode cX0_write 6 = .ok (.iconst 0, 1) := by decide +kernel
theorem dX0_write_7 : decode cX0_write 7 = .ok (.bipush 10, 2) := by decide +kernel
theorem dX0_write_9 : decode cX0_write 9 = .ok (.invokestatic 47, 3) := by decide +kernel
theorem dX0_write_12 : decode cX0_write 12 = .ok (.aload_n 0, 1) := by decide +kernel
theorem dX0_write_13 : decode cX0_write 13 = .ok (.getfield 19, 3) := by decide +kernel
theorem dX0_write_16 : decode cX0_write 16 = .ok (.invokestatic 59, 3) := by decide +kernel
theorem dX0_write_19 : decode cX0_write 19 = .ok (.aload_n 0, 1) := by decide +kernel
theorem dX0_write_20 : decode cX0_write 20 = .ok (.getfield 19, 3) := by decide +kernel
theorem dX0_write_23 : decode cX0_write 23 = .ok (.invokestatic 59, 3) := by decide +kernel
theorem dX0_write_26 : decode cX0_write 26 = .ok (.aload_n 1, 1) := by decide +kernel
theorem dX0_write_27 : decode cX0_write 27 = .ok (.aload_n 0, 1) := by decide +kernel
theorem dX0_write_28 : decode cX0_write 28 = .ok (.getfield 19, 3) := by decide +kernel
theorem dX0_write_31 : decode cX0_write 31 = .ok (.invokestatic 62, 3) := by decide +kernel
theorem dX0_write_34 : decode cX0_write 34 = .ok (.aload_n 1, 1) := by decide +kernel
theorem dX0_write_35 : decode cX0_write 35 = .ok (.invokestatic 65, 3) := by decide +kernel
theorem dX0_write_38 : decode cX0_write 38 = .ok (.return_, 1) := by decide +kernel
theorem dX0_takeRest_0 : decode cX0_takeRest 0 = .ok (.aload_n 0, 1) := by decide +kernel
theorem dX0_takeRest_1 : decode cX0_takeRest 1 = .ok (.iconst 3, 1) := by decide +kernel
theorem dX0_takeRest_2 : decode cX0_takeRest 2 = .ok (.laload, 1) := by decide +kernel
theorem dX0_takeRest_3 : decode cX0_takeRest 3 = .ok (.ldc2_w 68, 3) := by decide +kernel
theorem dX0_takeRest_6 : decode cX0_takeRest 6 = .ok (.lcmp, 1) := by decide +kernel
theorem dX0_takeRest_7 : decode cX0_takeRest 7 = .ok (.ifCond .ne 27, 3) := by decide +kernel
theorem dX0_takeRest_10 : decode cX0_takeRest 10 = .ok (.aload_n 0, 1) := by decide +kernel
theorem dX0_takeRest_11 : decode cX0_takeRest 11 = .ok (.iconst 2, 1) := by decide +kernel
theorem dX0_takeRest_12 : decode cX0_takeRest 12 = .ok (.laload, 1) := by decide +kernel
theorem dX0_takeRest_13 : decode cX0_takeRest 13 = .ok (.ldc2_w 70, 3) := by decide +kernel
theorem dX0_takeRest_16 : decode cX0_takeRest 16 = .ok (.lcmp, 1) := by decide +kernel
theorem dX0_takeRest_17 : decode cX0_takeRest 17 = .ok (.ifCond .ne 17, 3) := by decide +kernel
theorem dX0_takeRest_20 : decode cX0_takeRest 20 = .ok (.aload_n 0, 1) := by decide +kernel
theorem dX0_takeRest_21 : decode cX0_takeRest 21 = .ok (.iconst 1, 1) := by decide +kernel
theorem dX0_takeRest_22 : decode cX0_takeRest 22 = .ok (.laload, 1) := by decide +kernel
theorem dX0_takeRest_23 : decode cX0_takeRest 23 = .ok (.ldc2_w 70, 3) := by decide +kernel
theorem dX0_takeRest_26 : decode cX0_takeRest 26 = .ok (.lcmp, 1) := by decide +kernel
theorem dX0_takeRest_27 : decode cX0_takeRest 27 = .ok (.ifCond .ne 7, 3) := by decide +kernel
theorem dX0_takeRest_30 : decode cX0_takeRest 30 = .ok (.iconst 1, 1) := by decide +kernel
theorem dX0_takeRest_31 : decode cX0_takeRest 31 = .ok (.goto 4, 3) := by decide +kernel
theorem dX0_takeRest_34 : decode cX0_takeRest 34 = .ok (.iconst 0, 1) := by decide +kernel
theorem dX0_takeRest_35 : decode cX0_takeRest 35 = .ok (.istore_n 1, 1) := by decide +kernel
theorem dX0_takeRest_36 : decode cX0_takeRest 36 = .ok (.iload_n 1, 1) := by decide +kernel
theorem dX0_takeRest_37 : decode cX0_takeRest 37 = .ok (.ifCond .eq 42, 3) := by decide +kernel
theorem dX0_takeRest_40 : decode cX0_takeRest 40 = .ok (.aload_n 0, 1) := by decide +kernel
theorem dX0_takeRest_41 : decode cX0_takeRest 41 = .ok (.iconst 0, 1) := by decide +kernel
theorem dX0_takeRest_42 : decode cX0_takeRest 42 = .ok (.laload, 1) := by decide +kernel
theorem dX0_takeRest_43 : decode cX0_takeRest 43 = .ok (.ldc2_w 72, 3) := by decide +kernel
theorem dX0_takeRest_46 : decode cX0_takeRest 46 = .ok (.lcmp, 1) := by decide +kernel
theorem dX0_takeRest_47 : decode cX0_takeRest 47 = .ok (.ifCond .lt 32, 3) := by decide +kernel
theorem dX0_takeRest_50 : decode cX0_takeRest 50 = .ok (.aload_n 0, 1) := by decide +kernel
theorem dX0_takeRest_51 : decode cX0_takeRest 51 = .ok (.iconst 0, 1) := by decide +kernel
theorem dX0_takeRest_52 : decode cX0_takeRest 52 = .ok (.laload, 1) := by decide +kernel
theorem dX0_takeRest_53 : decode cX0_takeRest 53 = .ok (.lconst 0, 1) := by decide +kernel
theorem dX0_takeRest_54 : decode cX0_takeRest 54 = .ok (.lcmp, 1) := by decide +kernel
theorem dX0_takeRest_55 : decode cX0_takeRest 55 = .ok (.ifCond .ge 24, 3) := by decide +kernel
theorem dX0_takeRest_58 : decode cX0_takeRest 58 = .ok (.aload_n 0, 1) := by decide +kernel
theorem dX0_takeRest_59 : decode cX0_takeRest 59 = .ok (.iconst 0, 1) := by decide +kernel
theorem dX0_takeRest_60 : decode cX0_takeRest 60 = .ok (.dup2, 1) := by decide +kernel
theorem dX0_takeRest_61 : decode cX0_takeRest 61 = .ok (.laload, 1) := by decide +kernel
theorem dX0_takeRest_62 : decode cX0_takeRest 62 = .ok (.ldc2_w 74, 3) := by decide +kernel
theorem dX0_takeRest_65 : decode cX0_takeRest 65 = .ok (.ladd, 1) := by decide +kernel
theorem dX0_takeRest_66 : decode cX0_takeRest 66 = .ok (.lastore, 1) := by decide +kernel
theorem dX0_takeRest_67 : decode cX0_takeRest 67 = .ok (.aload_n 0, 1) := by decide +kernel
theorem dX0_takeRest_68 : decode cX0_takeRest 68 = .ok (.iconst 1, 1) := by decide +kernel
theorem dX0_takeRest_69 : decode cX0_takeRest 69 = .ok (.lconst 0, 1) := by decide +kernel
theorem dX0_takeRest_70 : decode cX0_takeRest 70 = .ok (.lastore, 1) := by decide +kernel
theorem dX0_takeRest_71 : decode cX0_takeRest 71 = .ok (.aload_n 0, 1) := by decide +kernel
theorem dX0_takeRest_72 : decode cX0_takeRest 72 = .ok (.iconst 2, 1) := by decide +kernel
theorem dX0_takeRest_73 : decode cX0_takeRest 73 = .ok (.lconst 0, 1) := by decide +kernel
theorem dX0_takeRest_74 : decode cX0_takeRest 74 = .ok (.lastore, 1) := by decide +kernel
theorem dX0_takeRest_75 : decode cX0_takeRest 75 = .ok (.aload_n 0, 1) := by decide +kernel
theorem dX0_takeRest_76 : decode cX0_takeRest 76 = .ok (.iconst 3, 1) := by decide +kernel
theorem dX0_takeRest_77 : decode cX0_takeRest 77 = .ok (.lconst 0, 1) := by decide +kernel
theorem dX0_takeRest_78 : decode cX0_takeRest 78 = .ok (.lastore, 1) := by decide +kernel
theorem dX0_takeRest_79 : decode cX0_takeRest 79 = .ok (.return_, 1) := by decide +kernel
set_option maxRecDepth 20000 in
theorem ggX0_gather_J7_fill_d0a16 : GoodIn wsX0_gather wsJ7_fill_d0a16 := goodIn_r _ [5] (by decide +kernel) (by decide +kernel)
set_option maxRecDepth 20000 in
theorem gX0_gather_J7_fill_d0a16 : GoodIn wsX0_gather (va_wsS RX0 22 yJ7_fill_d0a16 wsJ7_fill_d0a16) := goodIn_app (goodIn_of _ (by decide +kernel)) ggX0_gather_J7_fill_d0a16
theorem dX0_gather_0 : decode cX0_gather 0 = .ok (.aload_n 0, 1) := by decide +kernel
theorem dX0_gather_1 : decode cX0_gather 1 = .ok (.getfield 11, 3) := by decide +kernel
theorem dX0_gather_4 : decode cX0_gather 4 = .ok (.lconst 0, 1) := by decide +kernel
theorem dX0_gather_5 : decode cX0_gather 5 = .ok (.invokestatic 22, 3) := by decide +kernel
theorem dX0_gather_8 : decode cX0_gather 8 = .ok (.iconst 0, 1) := by decide +kernel
theorem dX0_gather_9 : decode cX0_gather 9 = .ok (.istore_n 3, 1) := by decide +kernel
theorem dX0_gather_10 : decode cX0_gather 10 = .ok (.iload_n 3, 1) := by decide +kernel
theorem dX0_gather_11 : decode cX0_gather 11 = .ok (.bipush 10, 2) := by decide +kernel
theorem dX0_gather_13 : decode cX0_gather 13 = .ok (.if_icmp .ge 49, 3) := by decide +kernel
theorem dX0_gather_16 : decode cX0_gather 16 = .ok (.aload_n 1, 1) := by decide +kernel
theorem dX0_gather_17 : decode cX0_gather 17 = .ok (.iload_n 3, 1) := by decide +kernel
theorem dX0_gather_18 : decode cX0_gather 18 = .ok (.laload, 1) := by decide +kernel
theorem dX0_gather_19 : decode cX0_gather 19 = .ok (.lstore 4, 2) := by decide +kernel
theorem dX0_gather_21 : decode cX0_gather 21 = .ok (.iconst 0, 1) := by decide +kernel
theorem dX0_gather_22 : decode cX0_gather 22 = .ok (.istore 6, 2) := by decide +kernel
theorem dX0_gather_24 : decode cX0_gather 24 = .ok (.iload 6, 2) := by decide +kernel
theorem dX0_gather_26 : decode cX0_gather 26 = .ok (.bipush 10, 2) := by decide +kernel
theorem dX0_gather_28 : decode cX0_gather 28 = .ok (.if_icmp .ge 28, 3) := by decide +kernel
theorem dX0_gather_31 : decode cX0_gather 31 = .ok (.aload_n 0, 1) := by decide +kernel
theorem dX0_gather_32 : decode cX0_gather 32 = .ok (.getfield 11, 3) := by decide +kernel
theorem dX0_gather_35 : decode cX0_gather 35 = .ok (.iload_n 3, 1) := by decide +kernel
theorem dX0_gather_36 : decode cX0_gather 36 = .ok (.iload 6, 2) := by decide +kernel
theorem dX0_gather_38 : decode cX0_gather 38 = .ok (.iadd, 1) := by decide +kernel
theorem dX0_gather_39 : decode cX0_gather 39 = .ok (.dup2, 1) := by decide +kernel
theorem dX0_gather_40 : decode cX0_gather 40 = .ok (.laload, 1) := by decide +kernel
theorem dX0_gather_41 : decode cX0_gather 41 = .ok (.lload 4, 2) := by decide +kernel
theorem dX0_gather_43 : decode cX0_gather 43 = .ok (.aload_n 2, 1) := by decide +kernel
theorem dX0_gather_44 : decode cX0_gather 44 = .ok (.iload 6, 2) := by decide +kernel
theorem dX0_gather_46 : decode cX0_gather 46 = .ok (.laload, 1) := by decide +kernel
theorem dX0_gather_47 : decode cX0_gather 47 = .ok (.lmul, 1) := by decide +kernel
theorem dX0_gather_48 : decode cX0_gather 48 = .ok (.ladd, 1) := by decide +kernel
theorem dX0_gather_49 : decode cX0_gather 49 = .ok (.lastore, 1) := by decide +kernel
theorem dX0_gather_50 : decode cX0_gather 50 = .ok (.iinc 6 1, 3) := by decide +kernel
theorem dX0_gather_53 : decode cX0_gather 53 = .ok (.goto (-29), 3) := by decide +kernel
theorem dX0_gather_56 : decode cX0_gather 56 = .ok (.iinc 3 1, 3) := by decide +kernel
theorem dX0_gather_59 : decode cX0_gather 59 = .ok (.goto (-49), 3) := by decide +kernel
theorem dX0_gather_62 : decode cX0_gather 62 = .ok (.return_, 1) := by decide +kernel
theorem dX0_carryWide_0 : decode cX0_carryWide 0 = .ok (.iconst 0, 1) := by decide +kernel
theorem dX0_carryWide_1 : decode cX0_carryWide 1 = .ok (.istore_n 1, 1) := by decide +kernel
theorem dX0_carryWide_2 : decode cX0_carryWide 2 = .ok (.iload_n 1, 1) := by decide +kernel
theorem dX0_carryWide_3 : decode cX0_carryWide 3 = .ok (.bipush 19, 2) := by decide +kernel
theorem dX0_carryWide_5 : decode cX0_carryWide 5 = .ok (.if_icmp .ge 41, 3) := by decide +kernel
theorem dX0_carryWide_8 : decode cX0_carryWide 8 = .ok (.aload_n 0, 1) := by decide +kernel
theorem dX0_carryWide_9 : decode cX0_carryWide 9 = .ok (.getfield 11, 3) := by decide +kernel
theorem dX0_carryWide_12 : decode cX0_carryWide 12 = .ok (.iload_n 1, 1) := by decide +kernel
theorem dX0_carryWide_13 : decode cX0_carryWide 13 = .ok (.iconst 1, 1) := by decide +kernel
theorem dX0_carryWide_14 : decode cX0_carryWide 14 = .ok (.iadd, 1) := by decide +kernel
theorem dX0_carryWide_15 : decode cX0_carryWide 15 = .ok (.dup2, 1) := by decide +kernel
theorem dX0_carryWide_16 : decode cX0_carryWide 16 = .ok (.laload, 1) := by decide +kernel
theorem dX0_carryWide_17 : decode cX0_carryWide 17 = .ok (.aload_n 0, 1) := by decide +kernel
theorem dX0_carryWide_18 : decode cX0_carryWide 18 = .ok (.getfield 11, 3) := by decide +kernel
theorem dX0_carryWide_21 : decode cX0_carryWide 21 = .ok (.iload_n 1, 1) := by decide +kernel
theorem dX0_carryWide_22 : decode cX0_carryWide 22 = .ok (.laload, 1) := by decide +kernel
theorem dX0_carryWide_23 : decode cX0_carryWide 23 = .ok (.bipush 26, 2) := by decide +kernel
theorem dX0_carryWide_25 : decode cX0_carryWide 25 = .ok (.lshr, 1) := by decide +kernel
theorem dX0_carryWide_26 : decode cX0_carryWide 26 = .ok (.ladd, 1) := by decide +kernel
theorem dX0_carryWide_27 : decode cX0_carryWide 27 = .ok (.lastore, 1) := by decide +kernel
theorem dX0_carryWide_28 : decode cX0_carryWide 28 = .ok (.aload_n 0, 1) := by decide +kernel
theorem dX0_carryWide_29 : decode cX0_carryWide 29 = .ok (.getfield 11, 3) := by decide +kernel
theorem dX0_carryWide_32 : decode cX0_carryWide 32 = .ok (.iload_n 1, 1) := by decide +kernel
theorem dX0_carryWide_33 : decode cX0_carryWide 33 = .ok (.dup2, 1) := by decide +kernel
theorem dX0_carryWide_34 : decode cX0_carryWide 34 = .ok (.laload, 1) := by decide +kernel
theorem dX0_carryWide_35 : decode cX0_carryWide 35 = .ok (.ldc2_w 57, 3) := by decide +kernel
theorem dX0_carryWide_38 : decode cX0_carryWide 38 = .ok (.land, 1) := by decide +kernel
theorem dX0_carryWide_39 : decode cX0_carryWide 39 = .ok (.lastore, 1) := by decide +kernel
theorem dX0_carryWide_40 : decode cX0_carryWide 40 = .ok (.iinc 1 1, 3) := by decide +kernel
theorem dX0_carryWide_43 : decode cX0_carryWide 43 = .ok (.goto (-41), 3) := by decide +kernel
theorem dX0_carryWide_46 : decode cX0_carryWide 46 = .ok (.return_, 1) := by decide +kernel
theorem dX0_carry_0 : decode cX0_carry 0 = .ok (.lconst 0, 1) := by decide +kernel
theorem dX0_carry_1 : decode cX0_carry 1 = .ok (.lstore_n 1, 1) := by decide +kernel
theorem dX0_carry_2 : decode cX0_carry 2 = .ok (.iconst 0, 1) := by decide +kernel
theorem dX0_carry_3 : decode cX0_carry 3 = .ok (.istore_n 3, 1) := by decide +kernel
theorem dX0_carry_4 : decode cX0_carry 4 = .ok (.iload_n 3, 1) := by decide +kernel
theorem dX0_carry_5 : decode cX0_carry 5 = .ok (.bipush 10, 2) := by decide +kernel
theorem dX0_carry_7 : decode cX0_carry 7 = .ok (.if_icmp .ge 31, 3) := by decide +kernel
theorem dX0_carry_10 : decode cX0_carry 10 = .ok (.aload_n 0, 1) := by decide +kernel
theorem dX0_carry_11 : decode cX0_carry 11 = .ok (.iload_n 3, 1) := by decide +kernel
theorem dX0_carry_12 : decode cX0_carry 12 = .ok (.laload, 1) := by decide +kernel
theorem dX0_carry_13 : decode cX0_carry 13 = .ok (.lload_n 1, 1) := by decide +kernel
theorem dX0_carry_14 : decode cX0_carry 14 = .ok (.ladd, 1) := by decide +kernel
theorem dX0_carry_15 : decode cX0_carry 15 = .ok (.lstore 4, 2) := by decide +kernel
theorem dX0_carry_17 : decode cX0_carry 17 = .ok (.aload_n 0, 1) := by decide +kernel
theorem dX0_carry_18 : decode cX0_carry 18 = .ok (.iload_n 3, 1) := by decide +kernel
theorem dX0_carry_19 : decode cX0_carry 19 = .ok (.lload 4, 2) := by decide +kernel
theorem dX0_carry_21 : decode cX0_carry 21 = .ok (.ldc2_w 57, 3) := by decide +kernel
theorem dX0_carry_24 : decode cX0_carry 24 = .ok (.land, 1) := by decide +kernel
theorem dX0_carry_25 : decode cX0_carry 25 = .ok (.lastore, 1) := by decide +kernel
theorem dX0_carry_26 : decode cX0_carry 26 = .ok (.lload 4, 2) := by decide +kernel
theorem dX0_carry_28 : decode cX0_carry 28 = .ok (.bipush 26, 2) := by decide +kernel
theorem dX0_carry_30 : decode cX0_carry 30 = .ok (.lshr, 1) := by decide +kernel
theorem dX0_carry_31 : decode cX0_carry 31 = .ok (.lstore_n 1, 1) := by decide +kernel
theorem dX0_carry_32 : decode cX0_carry 32 = .ok (.iinc 3 1, 3) := by decide +kernel
theorem dX0_carry_35 : decode cX0_carry 35 = .ok (.goto (-31), 3) := by decide +kernel
theorem dX0_carry_38 : decode cX0_carry 38 = .ok (.aload_n 0, 1) := by decide +kernel
theorem dX0_carry_39 : decode cX0_carry 39 = .ok (.iconst 0, 1) := by decide +kernel
theorem dX0_carry_40 : decode cX0_carry 40 = .ok (.dup2, 1) := by decide +kernel
theorem dX0_carry_41 : decode cX0_carry 41 = .ok (.laload, 1) := by decide +kernel
theorem dX0_carry_42 : decode cX0_carry 42 = .ok (.ldc2_w 45, 3) := by decide +kernel
theorem dX0_carry_45 : decode cX0_carry 45 = .ok (.lload_n 1, 1) := by decide +kernel
theorem dX0_carry_46 : decode cX0_carry 46 = .ok (.lmul, 1) := by decide +kernel
theorem dX0_carry_47 : decode cX0_carry 47 = .ok (.ladd, 1) := by decide +kernel
theorem dX0_carry_48 : decode cX0_carry 48 = .ok (.lastore, 1) := by decide +kernel
theorem dX0_carry_49 : decode cX0_carry 49 = .ok (.return_, 1) := by decide +kernel
theorem dX0_foldTop_0 : decode cX0_foldTop 0 = .ok (.iconst 0, 1) := by decide +kernel
theorem dX0_foldTop_1 : decode cX0_foldTop 1 = .ok (.istore_n 1, 1) := by decide +kernel
theorem dX0_foldTop_2 : decode cX0_foldTop 2 = .ok (.iload_n 1, 1) := by decide +kernel
theorem dX0_foldTop_3 : decode cX0_foldTop 3 = .ok (.bipush 9, 2) := by decide +kernel
theorem dX0_foldTop_5 : decode cX0_foldTop 5 = .ok (.if_icmp .ge 32, 3) := by decide +kernel
theorem dX0_foldTop_8 : decode cX0_foldTop 8 = .ok (.aload_n 0, 1) := by decide +kernel
theorem dX0_foldTop_9 : decode cX0_foldTop 9 = .ok (.iload_n 1, 1) := by decide +kernel
theorem dX0_foldTop_10 : decode cX0_foldTop 10 = .ok (.iconst 1, 1) := by decide +kernel
theorem dX0_foldTop_11 : decode cX0_foldTop 11 = .ok (.iadd, 1) := by decide +kernel
theorem dX0_foldTop_12 : decode cX0_foldTop 12 = .ok (.dup2, 1) := by decide +kernel
theorem dX0_foldTop_13 : decode cX0_foldTop 13 = .ok (.laload, 1) := by decide +kernel
theorem dX0_foldTop_14 : decode cX0_foldTop 14 = .ok (.aload_n 0, 1) := by decide +kernel
theorem dX0_foldTop_15 : decode cX0_foldTop 15 = .ok (.iload_n 1, 1) := by decide +kernel
theorem dX0_foldTop_16 : decode cX0_foldTop 16 = .ok (.laload, 1) := by decide +kernel
theorem dX0_foldTop_17 : decode cX0_foldTop 17 = .ok (.bipush 26, 2) := by decide +kernel
theorem dX0_foldTop_19 : decode cX0_foldTop 19 = .ok (.lshr, 1) := by decide +kernel
theorem dX0_foldTop_20 : decode cX0_foldTop 20 = .ok (.ladd, 1) := by decide +kernel
theorem dX0_foldTop_21 : decode cX0_foldTop 21 = .ok (.lastore, 1) := by decide +kernel
theorem dX0_foldTop_22 : decode cX0_foldTop 22 = .ok (.aload_n 0, 1) := by decide +kernel
theorem dX0_foldTop_23 : decode cX0_foldTop 23 = .ok (.iload_n 1, 1) := by decide +kernel
theorem dX0_foldTop_24 : decode cX0_foldTop 24 = .ok (.dup2, 1) := by decide +kernel
theorem dX0_foldTop_25 : decode cX0_foldTop 25 = .ok (.laload, 1) := by decide +kernel
theorem dX0_foldTop_26 : decode cX0_foldTop 26 = .ok (.ldc2_w 57, 3) := by decide +kernel
theorem dX0_foldTop_29 : decode cX0_foldTop 29 = .ok (.land, 1) := by decide +kernel
theorem dX0_foldTop_30 : decode cX0_foldTop 30 = .ok (.lastore, 1) := by decide +kernel
theorem dX0_foldTop_31 : decode cX0_foldTop 31 = .ok (.iinc 1 1, 3) := by decide +kernel
theorem dX0_foldTop_34 : decode cX0_foldTop 34 = .ok (.goto (-32), 3) := by decide +kernel
theorem dX0_foldTop_37 : decode cX0_foldTop 37 = .ok (.aload_n 0, 1) := by decide +kernel
theorem dX0_foldTop_38 : decode cX0_foldTop 38 = .ok (.iconst 0, 1) := by decide +kernel
theorem dX0_foldTop_39 : decode cX0_foldTop 39 = .ok (.dup2, 1) := by decide +kernel
theorem dX0_foldTop_40 : decode cX0_foldTop 40 = .ok (.laload, 1) := by decide +kernel
theorem dX0_foldTop_41 : decode cX0_foldTop 41 = .ok (.ldc2_w 74, 3) := by decide +kernel
theorem dX0_foldTop_44 : decode cX0_foldTop 44 = .ok (.aload_n 0, 1) := by decide +kernel
theorem dX0_foldTop_45 : decode cX0_foldTop 45 = .ok (.bipush 9, 2) := by decide +kernel
theorem dX0_foldTop_47 : decode cX0_foldTop 47 = .ok (.laload, 1) := by decide +kernel
theorem dX0_foldTop_48 : decode cX0_foldTop 48 = .ok (.bipush 21, 2) := by decide +kernel
theorem dX0_foldTop_50 : decode cX0_foldTop 50 = .ok (.lshr, 1) := by decide +kernel
theorem dX0_foldTop_51 : decode cX0_foldTop 51 = .ok (.lmul, 1) := by decide +kernel
theorem dX0_foldTop_52 : decode cX0_foldTop 52 = .ok (.ladd, 1) := by decide +kernel
theorem dX0_foldTop_53 : decode cX0_foldTop 53 = .ok (.lastore, 1) := by decide +kernel
theorem dX0_foldTop_54 : decode cX0_foldTop 54 = .ok (.aload_n 0, 1) := by decide +kernel
theorem dX0_foldTop_55 : decode cX0_foldTop 55 = .ok (.bipush 9, 2) := by decide +kernel
theorem dX0_foldTop_57 : decode cX0_foldTop 57 = .ok (.dup2, 1) := by decide +kernel
theorem dX0_foldTop_58 : decode cX0_foldTop 58 = .ok (.laload, 1) := by decide +kernel
theorem dX0_foldTop_59 : decode cX0_foldTop 59 = .ok (.ldc2_w 76, 3) := by decide +kernel
theorem dX0_foldTop_62 : decode cX0_foldTop 62 = .ok (.land, 1) := by decide +kernel
theorem dX0_foldTop_63 : decode cX0_foldTop 63 = .ok (.lastore, 1) := by decide +kernel
theorem dX0_foldTop_64 : decode cX0_foldTop 64 = .ok (.return_, 1) := by decide +kernel
set_option maxRecDepth 20000 in
theorem ggX0_join_J7_fill_d0a16 : GoodIn wsX0_join wsJ7_fill_d0a16 := goodIn_r _ [4] (by decide +kernel) (by decide +kernel)
set_option maxRecDepth 20000 in
theorem gX0_join_J7_fill_d0a16 : GoodIn wsX0_join (va_wsS RX0 22 yJ7_fill_d0a16 wsJ7_fill_d0a16) := goodIn_app (goodIn_of _ (by decide +kernel)) ggX0_join_J7_fill_d0a16
theorem dX0_join_0 : decode cX0_join 0 = .ok (.aload_n 0, 1) := by decide +kernel
theorem dX0_join_1 : decode cX0_join 1 = .ok (.lconst 0, 1) := by decide +kernel
theorem dX0_join_2 : decode cX0_join 2 = .ok (.invokestatic 22, 3) := by decide +kernel
theorem dX0_join_5 : decode cX0_join 5 = .ok (.iconst 0, 1) := by decide +kernel
theorem dX0_join_6 : decode cX0_join 6 = .ok (.istore_n 2, 1) := by decide +kernel
theorem dX0_join_7 : decode cX0_join 7 = .ok (.iload_n 2, 1) := by decide +kernel
theorem dX0_join_8 : decode cX0_join 8 = .ok (.bipush 10, 2) := by decide +kernel
theorem dX0_join_10 : decode cX0_join 10 = .ok (.if_icmp .ge 72, 3) := by decide +kernel
theorem dX0_join_13 : decode cX0_join 13 = .ok (.iload_n 2, 1) := by decide +kernel
theorem dX0_join_14 : decode cX0_join 14 = .ok (.bipush 26, 2) := by decide +kernel
theorem dX0_join_16 : decode cX0_join 16 = .ok (.imul, 1) := by decide +kernel
theorem dX0_join_17 : decode cX0_join 17 = .ok (.bipush 6, 2) := by decide +kernel
theorem dX0_join_19 : decode cX0_join 19 = .ok (.ishr, 1) := by decide +kernel
theorem dX0_join_20 : decode cX0_join 20 = .ok (.istore_n 3, 1) := by decide +kernel
theorem dX0_join_21 : decode cX0_join 21 = .ok (.iload_n 2, 1) := by decide +kernel
theorem dX0_join_22 : decode cX0_join 22 = .ok (.bipush 26, 2) := by decide +kernel
theorem dX0_join_24 : decode cX0_join 24 = .ok (.imul, 1) := by decide +kernel
theorem dX0_join_25 : decode cX0_join 25 = .ok (.bipush 63, 2) := by decide +kernel
theorem dX0_join_27 : decode cX0_join 27 = .ok (.iand, 1) := by decide +kernel
theorem dX0_join_28 : decode cX0_join 28 = .ok (.istore 4, 2) := by decide +kernel
theorem dX0_join_30 : decode cX0_join 30 = .ok (.aload_n 0, 1) := by decide +kernel
theorem dX0_join_31 : decode cX0_join 31 = .ok (.iload_n 3, 1) := by decide +kernel
theorem dX0_join_32 : decode cX0_join 32 = .ok (.dup2, 1) := by decide +kernel
theorem dX0_join_33 : decode cX0_join 33 = .ok (.laload, 1) := by decide +kernel
theorem dX0_join_34 : decode cX0_join 34 = .ok (.aload_n 1, 1) := by decide +kernel
theorem dX0_join_35 : decode cX0_join 35 = .ok (.iload_n 2, 1) := by decide +kernel
theorem dX0_join_36 : decode cX0_join 36 = .ok (.laload, 1) := by decide +kernel
theorem dX0_join_37 : decode cX0_join 37 = .ok (.iload 4, 2) := by decide +kernel
theorem dX0_join_39 : decode cX0_join 39 = .ok (.lshl, 1) := by decide +kernel
theorem dX0_join_40 : decode cX0_join 40 = .ok (.lor, 1) := by decide +kernel
theorem dX0_join_41 : decode cX0_join 41 = .ok (.lastore, 1) := by decide +kernel
theorem dX0_join_42 : decode cX0_join 42 = .ok (.iload 4, 2) := by decide +kernel
theorem dX0_join_44 : decode cX0_join 44 = .ok (.bipush 26, 2) := by decide +kernel
theorem dX0_join_46 : decode cX0_join 46 = .ok (.iadd, 1) := by decide +kernel
theorem dX0_join_47 : decode cX0_join 47 = .ok (.bipush 64, 2) := by decide +kernel
theorem dX0_join_49 : decode cX0_join 49 = .ok (.if_icmp .le 27, 3) := by decide +kernel
theorem dX0_join_52 : decode cX0_join 52 = .ok (.iload_n 3, 1) := by decide +kernel
theorem dX0_join_53 : decode cX0_join 53 = .ok (.iconst 1, 1) := by decide +kernel
theorem dX0_join_54 : decode cX0_join 54 = .ok (.iadd, 1) := by decide +kernel
theorem dX0_join_55 : decode cX0_join 55 = .ok (.iconst 4, 1) := by decide +kernel
theorem dX0_join_56 : decode cX0_join 56 = .ok (.if_icmp .ge 20, 3) := by decide +kernel
theorem dX0_join_59 : decode cX0_join 59 = .ok (.aload_n 0, 1) := by decide +kernel
theorem dX0_join_60 : decode cX0_join 60 = .ok (.iload_n 3, 1) := by decide +kernel
theorem dX0_join_61 : decode cX0_join 61 = .ok (.iconst 1, 1) := by decide +kernel
theorem dX0_join_62 : decode cX0_join 62 = .ok (.iadd, 1) := by decide +kernel
theorem dX0_join_63 : decode cX0_join 63 = .ok (.dup2, 1) := by decide +kernel
theorem dX0_join_64 : decode cX0_join 64 = .ok (.laload, 1) := by decide +kernel
theorem dX0_join_65 : decode cX0_join 65 = .ok (.aload_n 1, 1) := by decide +kernel
theorem dX0_join_66 : decode cX0_join 66 = .ok (.iload_n 2, 1) := by decide +kernel
theorem dX0_join_67 : decode cX0_join 67 = .ok (.laload, 1) := by decide +kernel
theorem dX0_join_68 : decode cX0_join 68 = .ok (.bipush 64, 2) := by decide +kernel
theorem dX0_join_70 : decode cX0_join 70 = .ok (.iload 4, 2) := by decide +kernel
theorem dX0_join_72 : decode cX0_join 72 = .ok (.isub, 1) := by decide +kernel
theorem dX0_join_73 : decode cX0_join 73 = .ok (.lushr, 1) := by decide +kernel
theorem dX0_join_74 : decode cX0_join 74 = .ok (.lor, 1) := by decide +kernel
theorem dX0_join_75 : decode cX0_join 75 = .ok (.lastore, 1) := by decide +kernel
theorem dX0_join_76 : decode cX0_join 76 = .ok (.iinc 2 1, 3) := by decide +kernel
theorem dX0_join_79 : decode cX0_join 79 = .ok (.goto (-72), 3) := by decide +kernel
theorem dX0_join_82 : decode cX0_join 82 = .ok (.return_, 1) := by decide +kernel
set_option maxRecDepth 20000 in
theorem ggX1_init_X0_init : GoodIn wsX1_init wsX0_init := goodIn_r _ [28, 29, 2, 3, 23, 30, 31, 32, 33, 6, 34, 36, 37] (by decide +kernel) (by decide +kernel)
set_option maxRecDepth 20000 in
theorem gX1_init_X0_init : GoodIn wsX1_init (wsX0_init) := ggX1_init_X0_init
set_option maxRecDepth 20000 in
theorem ggX1_init_X0_newRow : GoodIn wsX1_init wsX0_newRow := goodIn_r _ [34, 23] (by decide +kernel) (by decide +kernel)
set_option maxRecDepth 20000 in
theorem gX1_init_X0_newRow : GoodIn wsX1_init (va_wsS RX1 18 yX0_newRow wsX0_newRow) := goodIn_app (goodIn_of _ (by decide +kernel)) ggX1_init_X0_newRow
theorem dX1_init_0 : decode cX1_init 0 = .ok (.aload_n 0, 1) := by decide +kernel
theorem dX1_init_1 : decode cX1_init 1 = .ok (.invokespecial 3, 3) := by decide +kernel
theorem dX1_init_4 : decode cX1_init 4 = .ok (.aload_n 0, 1) := by decide +kernel
theorem dX1_init_5 : decode cX1_init 5 = .ok (.new 9, 3) := by decide +kernel
theorem dX1_init_8 : decode cX1_init 8 = .ok (.dup, 1) := by decide +kernel
theorem dX1_init_9 : decode cX1_init 9 = .ok (.invokespecial 11, 3) := by decide +kernel
theorem dX1_init_12 : decode cX1_init 12 = .ok (.putfield 12, 3) := by decide +kernel
theorem dX1_init_15 : decode cX1_init 15 = .ok (.aload_n 0, 1) := by decide +kernel
theorem dX1_init_16 : decode cX1_init 16 = .ok (.invokestatic 18, 3) := by decide +kernel
theorem dX1_init_19 : decode cX1_init 19 = .ok (.putfield 22, 3) := by decide +kernel
theorem dX1_init_22 : decode cX1_init 22 = .ok (.aload_n 0, 1) := by decide +kernel
theorem dX1_init_23 : decode cX1_init 23 = .ok (.invokestatic 18, 3) := by decide +kernel
theorem dX1_init_26 : decode cX1_init 26 = .ok (.putfield 26, 3) := by decide +kernel
theorem dX1_init_29 : decode cX1_init 29 = .ok (.aload_n 0, 1) := by decide +kernel
theorem dX1_init_30 : decode cX1_init 30 = .ok (.invokestatic 18, 3) := by decide +kernel
theorem dX1_init_33 : decode cX1_init 33 = .ok (.putfield 29, 3) := by decide +kernel
theorem dX1_init_36 : decode cX1_init 36 = .ok (.aload_n 0, 1) := by decide +kernel
theorem dX1_init_37 : decode cX1_init 37 = .ok (.invokestatic 18, 3) := by decide +kernel
theorem dX1_init_40 : decode cX1_init 40 = .ok (.putfield 32, 3) := by decide +kernel
theorem dX1_init_43 : decode cX1_init 43 = .ok (.aload_n 0, 1) := by decide +kernel
theorem dX1_init_44 : decode cX1_init 44 = .ok (.invokestatic 18, 3) := by decide +kernel
theorem dX1_init_47 : decode cX1_init 47 = .ok (.putfield 35, 3) := by decide +kernel
theorem dX1_init_50 : decode cX1_init 50 = .ok (.aload_n 0, 1) := by decide +kernel
theorem dX1_init_51 : decode cX1_init 51 = .ok (.invokestatic 18, 3) := by decide +kernel
theorem dX1_init_54 : decode cX1_init 54 = .ok (.putfield 38, 3) := by decide +kernel
theorem dX1_init_57 : decode cX1_init 57 = .ok (.aload_n 0, 1) := by decide +kernel
theorem dX1_init_58 : decode cX1_init 58 = .ok (.invokestatic 18, 3) := by decide +kernel
theorem dX1_init_61 : decode cX1_init 61 = .ok (.putfield 41, 3) := by decide +kernel
theorem dX1_init_64 : decode cX1_init 64 = .ok (.aload_n 0, 1) := by decide +kernel
theorem dX1_init_65 : decode cX1_init 65 = .ok (.invokestatic 18, 3) := by decide +kernel
theorem dX1_init_68 : decode cX1_init 68 = .ok (.putfield 44, 3) := by decide +kernel
theorem dX1_init_71 : decode cX1_init 71 = .ok (.aload_n 0, 1) := by decide +kernel
theorem dX1_init_72 : decode cX1_init 72 = .ok (.invokestatic 18, 3) := by decide +kernel
theorem dX1_init_75 : decode cX1_init 75 = .ok (.putfield 47, 3) := by decide +kernel
theorem dX1_init_78 : decode cX1_init 78 = .ok (.aload_n 0, 1) := by decide +kernel
theorem dX1_init_79 : decode cX1_init 79 = .ok (.invokestatic 18, 3) := by decide +kernel
theorem dX1_init_82 : decode cX1_init 82 = .ok (.putfield 50, 3) := by decide +kernel
theorem dX1_init_85 : decode cX1_init 85 = .ok (.aload_n 0, 1) := by decide +kernel
theorem dX1_init_86 : decode cX1_init 86 = .ok (.invokestatic 18, 3) := by decide +kernel
theorem dX1_init_89 : decode cX1_init 89 = .ok (.putfield 53, 3) := by decide +kernel
theorem dX1_init_92 : decode cX1_init 92 = .ok (.aload_n 0, 1) := by decide +kernel
theorem dX1_init_93 : decode cX1_init 93 = .ok (.invokestatic 18, 3) := by decide +kernel
theorem dX1_init_96 : decode cX1_init 96 = .ok (.putfield 56, 3) := by decide +kernel
theorem dX1_init_99 : decode cX1_init 99 = .ok (.aload_n 0, 1) := by decide +kernel
theorem dX1_init_100 : decode cX1_init 100 = .ok (.invokestatic 18, 3) := by decide +kernel
theorem dX1_init_103 : decode cX1_init 103 = .ok (.putfield 59, 3) := by decide +kernel
theorem dX1_init_106 : decode cX1_init 106 = .ok (.aload_n 0, 1) := by decide +kernel
theorem dX1_init_107 : decode cX1_init 107 = .ok (.invokestatic 18, 3) := by decide +kernel
theorem dX1_init_110 : decode cX1_init 110 = .ok (.putfield 62, 3) := by decide +kernel
theorem dX1_init_113 : decode cX1_init 113 = .ok (.aload_n 0, 1) := by decide +kernel
theorem dX1_init_114 : decode cX1_init 114 = .ok (.invokestatic 18, 3) := by decide +kernel
theorem dX1_init_117 : decode cX1_init 117 = .ok (.putfield 65, 3) := by decide +kernel
theorem dX1_init_120 : decode cX1_init 120 = .ok (.aload_n 0, 1) := by decide +kernel
theorem dX1_init_121 : decode cX1_init 121 = .ok (.iconst 4, 1) := by decide +kernel
theorem dX1_init_122 : decode cX1_init 122 = .ok (.newarray .long, 2) := by decide +kernel
theorem dX1_init_124 : decode cX1_init 124 = .ok (.putfield 68, 3) := by decide +kernel
theorem dX1_init_127 : decode cX1_init 127 = .ok (.aload_n 0, 1) := by decide +kernel
theorem dX1_init_128 : decode cX1_init 128 = .ok (.iconst 4, 1) := by decide +kernel
theorem dX1_init_129 : decode cX1_init 129 = .ok (.newarray .long, 2) := by decide +kernel
theorem dX1_init_131 : decode cX1_init 131 = .ok (.putfield 71, 3) := by decide +kernel
theorem dX1_init_134 : decode cX1_init 134 = .ok (.return_, 1) := by decide +kernel
theorem dX1_isPart_0 : decode cX1_isPart 0 = .ok (.iload_n 0, 1) := by decide +kernel
theorem dX1_isPart_1 : decode cX1_isPart 1 = .ok (.ifCond .lt 12, 3) := by decide +kernel
theorem dX1_isPart_4 : decode cX1_isPart 4 = .ok (.iload_n 0, 1) := by decide +kernel
theorem dX1_isPart_5 : decode cX1_isPart 5 = .ok (.iconst 5, 1) := by decide +kernel
theorem dX1_isPart_6 : decode cX1_isPart 6 = .ok (.if_icmp .ge 7, 3) := by decide +kernel
theorem dX1_isPart_9 : decode cX1_isPart 9 = .ok (.iconst 1, 1) := by decide +kernel
theorem dX1_isPart_10 : decode cX1_isPart 10 = .ok (.goto 4, 3) := by decide +kernel
theorem dX1_isPart_13 : decode cX1_isPart 13 = .ok (.iconst 0, 1) := by decide +kernel
theorem dX1_isPart_14 : decode cX1_isPart 14 = .ok (.ireturn, 1) := by decide +kernel
set_option maxRecDepth 20000 in
theorem ggX1_begin_X0_read : GoodIn wsX1_begin wsX0_read := goodIn_r _ [9, 10] (by decide +kernel) (by decide +kernel)
set_option maxRecDepth 20000 in
theorem gX1_begin_X0_read : GoodIn wsX1_begin (va_wsS RX1 74 yX0_read wsX0_read) := goodIn_app (goodIn_of _ (by decide +kernel)) ggX1_begin_X0_read
set_option maxRecDepth 20000 in
theorem ggX1_begin_X0_setSmall : GoodIn wsX1_begin wsX0_setSmall := goodIn_r _ [13, 14, 15, 16, 17] (by decide +kernel) (by decide +kernel)
set_option maxRecDepth 20000 in
theorem gX1_begin_X0_setSmall : GoodIn wsX1_begin (va_wsS RX1 78 yX0_setSmall wsX0_setSmall) := goodIn_app (goodIn_of _ (by decide +kernel)) ggX1_begin_X0_setSmall
theorem dX1_begin_0 : decode cX1_begin 0 = .ok (.aload_n 0, 1) := by decide +kernel
theorem dX1_begin_1 : decode cX1_begin 1 = .ok (.getfield 22, 3) := by decide +kernel
theorem dX1_begin_4 : decode cX1_begin 4 = .ok (.aload_n 1, 1) := by decide +kernel
theorem dX1_begin_5 : decode cX1_begin 5 = .ok (.invokestatic 74, 3) := by decide +kernel
theorem dX1_begin_8 : decode cX1_begin 8 = .ok (.aload_n 0, 1) := by decide +kernel
theorem dX1_begin_9 : decode cX1_begin 9 = .ok (.getfield 26, 3) := by decide +kernel
theorem dX1_begin_12 : decode cX1_begin 12 = .ok (.lconst 1, 1) := by decide +kernel
theorem dX1_begin_13 : decode cX1_begin 13 = .ok (.invokestatic 78, 3) := by decide +kernel
theorem dX1_begin_16 : decode cX1_begin 16 = .ok (.aload_n 0, 1) := by decide +kernel
theorem dX1_begin_17 : decode cX1_begin 17 = .ok (.getfield 29, 3) := by decide +kernel
theorem dX1_begin_20 : decode cX1_begin 20 = .ok (.lconst 0, 1) := by decide +kernel
theorem dX1_begin_21 : decode cX1_begin 21 = .ok (.invokestatic 78, 3) := by decide +kernel
theorem dX1_begin_24 : decode cX1_begin 24 = .ok (.aload_n 0, 1) := by decide +kernel
theorem dX1_begin_25 : decode cX1_begin 25 = .ok (.getfield 32, 3) := by decide +kernel
theorem dX1_begin_28 : decode cX1_begin 28 = .ok (.aload_n 1, 1) := by decide +kernel
theorem dX1_begin_29 : decode cX1_begin 29 = .ok (.invokestatic 74, 3) := by decide +kernel
theorem dX1_begin_32 : decode cX1_begin 32 = .ok (.aload_n 0, 1) := by decide +kernel
theorem dX1_begin_33 : decode cX1_begin 33 = .ok (.getfield 35, 3) := by decide +kernel
theorem dX1_begin_36 : decode cX1_begin 36 = .ok (.lconst 1, 1) := by decide +kernel
theorem dX1_begin_37 : decode cX1_begin 37 = .ok (.invokestatic 78, 3) := by decide +kernel
theorem dX1_begin_40 : decode cX1_begin 40 = .ok (.return_, 1) := by decide +kernel
set_option maxRecDepth 20000 in
theorem ggX1_walk_X1_changePlaces : GoodIn wsX1_walk wsX1_changePlaces := goodIn_r _ [5, 6, 7, 8, 9, 69, 70, 71, 72, 73, 74, 75, 76, 77, 78, 79, 80, 81, 82, 83, 84, 85, 86] (by decide +kernel) (by decide +kernel)
set_option maxRecDepth 20000 in
theorem gX1_walk_X1_changePlaces : GoodIn wsX1_walk (wsV RX1 82 RX1 yX1_changePlaces wsX1_changePlaces) := goodIn_app (goodIn_of _ (by decide +kernel)) ggX1_walk_X1_changePlaces
set_option maxRecDepth 20000 in
theorem ggX1_walk_X1_makeSums : GoodIn wsX1_walk wsX1_makeSums := goodIn_r _ [13, 14, 6, 8, 15, 16, 7, 9, 17, 18, 19, 20, 21, 22, 23, 24, 25, 26, 69, 70, 71, 72, 73, 74, 75, 76, 77, 78, 79, 80, 81, 82, 83, 84, 85, 86] (by decide +kernel) (by decide +kernel)
set_option maxRecDepth 20000 in
theorem gX1_walk_X1_makeSums : GoodIn wsX1_walk (wsV RX1 85 RX1 yX1_makeSums wsX1_makeSums) := goodIn_app (goodIn_of _ (by decide +kernel)) ggX1_walk_X1_makeSums
set_option maxRecDepth 20000 in
theorem ggX1_walk_X1_makeDouble : GoodIn wsX1_walk wsX1_makeDouble := goodIn_r _ [30, 31, 32, 14, 33, 15, 34, 6, 35, 8, 36, 37, 38, 20, 39, 40, 41, 42, 43, 44, 45, 46, 47, 48, 49, 50, 51, 52, 53, 54, 55, 56, 57, 22, 23, 24, 25, 26, 58, 59, 60, 61, 18, 19, 21, 69, 70, 71, 72, 73, 74, 75, 76, 77, 78, 79, 80, 81, 82, 83, 84, 85, 86, 87, 88] (by decide +kernel) (by decide +kernel)
set_option maxRecDepth 20000 in
theorem gX1_walk_X1_makeDouble : GoodIn wsX1_walk (wsV RX1 88 RX1 yX1_makeDouble wsX1_makeDouble) := goodIn_app (goodIn_of _ (by decide +kernel)) ggX1_walk_X1_makeDouble
set_option maxRecDepth 20000 in
theorem ggX1_walk_X1_makeOther : GoodIn wsX1_walk wsX1_makeOther := goodIn_r _ [65, 31, 66, 17, 14, 67, 16, 15, 35, 7, 9, 68, 36, 37, 38, 20, 39, 40, 41, 42, 43, 44, 45, 46, 47, 48, 49, 50, 51, 52, 53, 54, 55, 56, 57, 18, 19, 21, 22, 23, 24, 25, 26, 69, 70, 71, 72, 73, 74, 75, 76, 77, 78, 79, 80, 81, 82, 83, 84, 85, 86, 87, 88] (by decide +kernel) (by decide +kernel)
set_option maxRecDepth 20000 in
theorem gX1_walk_X1_makeOther : GoodIn wsX1_walk (wsV RX1 91 RX1 yX1_makeOther wsX1_makeOther) := goodIn_app (goodIn_of _ (by decide +kernel)) ggX1_walk_X1_makeOther
theorem dX1_walk_0 : decode cX1_walk 0 = .ok (.iload_n 1, 1) := by decide +kernel
theorem dX1_walk_1 : decode cX1_walk 1 = .ok (.ifCond .eq 7, 3) := by decide +kernel
theorem dX1_walk_4 : decode cX1_walk 4 = .ok (.aload_n 0, 1) := by decide +kernel
theorem dX1_walk_5 : decode cX1_walk 5 = .ok (.invokevirtual 82, 3) := by decide +kernel
theorem dX1_walk_8 : decode cX1_walk 8 = .ok (.aload_n 0, 1) := by decide +kernel
theorem dX1_walk_9 : decode cX1_walk 9 = .ok (.invokevirtual 85, 3) := by decide +kernel
theorem dX1_walk_12 : decode cX1_walk 12 = .ok (.aload_n 0, 1) := by decide +kernel
theorem dX1_walk_13 : decode cX1_walk 13 = .ok (.invokevirtual 88, 3) := by decide +kernel
theorem dX1_walk_16 : decode cX1_walk 16 = .ok (.aload_n 0, 1) := by decide +kernel
theorem dX1_walk_17 : decode cX1_walk 17 = .ok (.invokevirtual 91, 3) := by decide +kernel
theorem dX1_walk_20 : decode cX1_walk 20 = .ok (.iload_n 1, 1) := by decide +kernel
theorem dX1_walk_21 : decode cX1_walk 21 = .ok (.ifCond .eq 7, 3) := by decide +kernel
theorem dX1_walk_24 : decode cX1_walk 24 = .ok (.aload_n 0, 1) := by decide +kernel
theorem dX1_walk_25 : decode cX1_walk 25 = .ok (.invokevirtual 82, 3) := by decide +kernel
theorem dX1_walk_28 : decode cX1_walk 28 = .ok (.return_, 1) := by decide +kernel
set_option maxRecDepth 20000 in
theorem ggX1_writePart_X1_rowOf : GoodIn wsX1_writePart wsX1_rowOf := goodIn_r _ [6, 7, 8, 9, 10, 11, 41, 42, 43, 44, 45, 46, 47, 48, 49, 50, 51, 52, 53, 54, 55, 56, 57, 58] (by decide +kernel) (by decide +kernel)
set_option maxRecDepth 20000 in
theorem gX1_writePart_X1_rowOf : GoodIn wsX1_writePart (wsV RX1 94 RX1 yX1_rowOf wsX1_rowOf) := goodIn_app (goodIn_of _ (by decide +kernel)) ggX1_writePart_X1_rowOf
set_option maxRecDepth 20000 in
theorem ggX1_writePart_X0_write : GoodIn wsX1_writePart wsX0_write := goodIn_r _ [16, 17, 18, 19, 20, 21, 22, 23, 15, 24, 25, 26, 27, 28, 29, 30, 31, 32, 33, 34, 35, 36, 37, 38, 39, 40, 59, 60] (by decide +kernel) (by decide +kernel)
set_option maxRecDepth 20000 in
theorem gX1_writePart_X0_write : GoodIn wsX1_writePart (wsV RX1 98 RX0 yX0_write wsX0_write) := goodIn_app (goodIn_of _ (by decide +kernel)) ggX1_writePart_X0_write
theorem dX1_writePart_0 : decode cX1_writePart 0 = .ok (.aload_n 0, 1) := by decide +kernel
theorem dX1_writePart_1 : decode cX1_writePart 1 = .ok (.getfield 12, 3) := by decide +kernel
theorem dX1_writePart_4 : decode cX1_writePart 4 = .ok (.aload_n 1, 1) := by decide +kernel
theorem dX1_writePart_5 : decode cX1_writePart 5 = .ok (.aload_n 0, 1) := by decide +kernel
theorem dX1_writePart_6 : decode cX1_writePart 6 = .ok (.iload_n 2, 1) := by decide +kernel
theorem dX1_writePart_7 : decode cX1_writePart 7 = .ok (.invokevirtual 94, 3) := by decide +kernel
theorem dX1_writePart_10 : decode cX1_writePart 10 = .ok (.invokevirtual 98, 3) := by decide +kernel
theorem dX1_writePart_13 : decode cX1_writePart 13 = .ok (.return_, 1) := by decide +kernel
set_option maxRecDepth 20000 in
theorem ggX1_writeResult_X0_invert : GoodIn wsX1_writeResult wsX0_invert := goodIn_r _ [9, 10, 11, 12, 13, 14, 15, 16, 8, 17, 18, 19, 20, 21, 22, 23, 24, 25, 26, 27, 28, 29, 30, 31, 32, 33, 34, 35, 74, 75] (by decide +kernel) (by decide +kernel)
set_option maxRecDepth 20000 in
theorem gX1_writeResult_X0_invert : GoodIn wsX1_writeResult (wsV RX1 101 RX0 yX0_invert wsX0_invert) := goodIn_app (goodIn_of _ (by decide +kernel)) ggX1_writeResult_X0_invert
set_option maxRecDepth 20000 in
theorem ggX1_writeResult_X0_multiply : GoodIn wsX1_writeResult wsX0_multiply := goodIn_r _ [17, 18, 19, 20, 21, 22, 8, 23, 24, 25, 26, 27, 28, 29, 30, 31, 32, 33, 34, 35, 74, 75] (by decide +kernel) (by decide +kernel)
set_option maxRecDepth 20000 in
theorem gX1_writeResult_X0_multiply : GoodIn wsX1_writeResult (wsV RX1 104 RX0 yX0_multiply wsX0_multiply) := goodIn_app (goodIn_of _ (by decide +kernel)) ggX1_writeResult_X0_multiply
set_option maxRecDepth 20000 in
theorem ggX1_writeResult_X0_write : GoodIn wsX1_writeResult wsX0_write := goodIn_r _ [40, 41, 10, 11, 12, 13, 42, 43, 8, 44, 32, 45, 46, 47, 48, 49, 24, 25, 26, 27, 50, 51, 52, 53, 54, 55, 74, 75] (by decide +kernel) (by decide +kernel)
set_option maxRecDepth 20000 in
theorem gX1_writeResult_X0_write : GoodIn wsX1_writeResult (wsV RX1 98 RX0 yX0_write wsX0_write) := goodIn_app (goodIn_of _ (by decide +kernel)) ggX1_writeResult_X0_write
theorem dX1_writeResult_0 : decode cX1_writeResult 0 = .ok (.aload_n 0, 1) := by decide +kernel
theorem dX1_writeResult_1 : decode cX1_writeResult 1 = .ok (.getfield 12, 3) := by decide +kernel
theorem dX1_writeResult_4 : decode cX1_writeResult 4 = .ok (.aload_n 0, 1) := by decide +kernel
theorem dX1_writeResult_5 : decode cX1_writeResult 5 = .ok (.getfield 65, 3) := by decide +kernel
theorem dX1_writeResult_8 : decode cX1_writeResult 8 = .ok (.aload_n 0, 1) := by decide +kernel
theorem dX1_writeResult_9 : decode cX1_writeResult 9 = .ok (.getfield 29, 3) := by decide +kernel
theorem dX1_writeResult_12 : decode cX1_writeResult 12 = .ok (.invokevirtual 101, 3) := by decide +kernel
theorem dX1_writeResult_15 : decode cX1_writeResult 15 = .ok (.aload_n 0, 1) := by decide +kernel
theorem dX1_writeResult_16 : decode cX1_writeResult 16 = .ok (.getfield 12, 3) := by decide +kernel
theorem dX1_writeResult_19 : decode cX1_writeResult 19 = .ok (.aload_n 0, 1) := by decide +kernel
theorem dX1_writeResult_20 : decode cX1_writeResult 20 = .ok (.getfield 65, 3) := by decide +kernel
theorem dX1_writeResult_23 : decode cX1_writeResult 23 = .ok (.aload_n 0, 1) := by decide +kernel
theorem dX1_writeResult_24 : decode cX1_writeResult 24 = .ok (.getfield 26, 3) := by decide +kernel
theorem dX1_writeResult_27 : decode cX1_writeResult 27 = .ok (.aload_n 0, 1) := by decide +kernel
theorem dX1_writeResult_28 : decode cX1_writeResult 28 = .ok (.getfield 65, 3) := by decide +kernel
theorem dX1_writeResult_31 : decode cX1_writeResult 31 = .ok (.invokevirtual 104, 3) := by decide +kernel
theorem dX1_writeResult_34 : decode cX1_writeResult 34 = .ok (.aload_n 0, 1) := by decide +kernel
theorem dX1_writeResult_35 : decode cX1_writeResult 35 = .ok (.getfield 12, 3) := by decide +kernel
theorem dX1_writeResult_38 : decode cX1_writeResult 38 = .ok (.aload_n 1, 1) := by decide +kernel
theorem dX1_writeResult_39 : decode cX1_writeResult 39 = .ok (.aload_n 0, 1) := by decide +kernel
theorem dX1_writeResult_40 : decode cX1_writeResult 40 = .ok (.getfield 65, 3) := by decide +kernel
theorem dX1_writeResult_43 : decode cX1_writeResult 43 = .ok (.invokevirtual 98, 3) := by decide +kernel
theorem dX1_writeResult_46 : decode cX1_writeResult 46 = .ok (.return_, 1) := by decide +kernel
set_option maxRecDepth 20000 in
theorem ggX1_agreesWith_X0_write : GoodIn wsX1_agreesWith wsX0_write := goodIn_r _ [11, 12, 13, 14, 15, 16, 17, 18, 10, 19, 20, 21, 22, 23, 24, 25, 26, 27, 28, 29, 30, 31, 32, 33, 34, 35, 81, 82] (by decide +kernel) (by decide +kernel)
set_option maxRecDepth 20000 in
theorem gX1_agreesWith_X0_write : GoodIn wsX1_agreesWith (wsV RX1 98 RX0 yX0_write wsX0_write) := goodIn_app (goodIn_of _ (by decide +kernel)) ggX1_agreesWith_X0_write
set_option maxRecDepth 20000 in
theorem ggX1_agreesWith_X1_isZero : GoodIn wsX1_agreesWith wsX1_isZero := goodIn_r _ [39] (by decide +kernel) (by decide +kernel)
set_option maxRecDepth 20000 in
theorem gX1_agreesWith_X1_isZero : GoodIn wsX1_agreesWith (va_wsS RX1 108 yX1_isZero wsX1_isZero) := goodIn_app (goodIn_of _ (by decide +kernel)) ggX1_agreesWith_X1_isZero
set_option maxRecDepth 20000 in
theorem ggX1_agreesWith_X0_read : GoodIn wsX1_agreesWith wsX0_read := goodIn_r _ [42, 20] (by decide +kernel) (by decide +kernel)
set_option maxRecDepth 20000 in
theorem gX1_agreesWith_X0_read : GoodIn wsX1_agreesWith (va_wsS RX1 74 yX0_read wsX0_read) := goodIn_app (goodIn_of _ (by decide +kernel)) ggX1_agreesWith_X0_read
set_option maxRecDepth 20000 in
theorem ggX1_agreesWith_X0_multiply : GoodIn wsX1_agreesWith wsX0_multiply := goodIn_r _ [46, 47, 48, 49, 50, 51, 10, 52, 26, 27, 28, 29, 53, 54, 55, 56, 20, 57, 58, 59, 81, 82] (by decide +kernel) (by decide +kernel)
set_option maxRecDepth 20000 in
theorem gX1_agreesWith_X0_multiply : GoodIn wsX1_agreesWith (wsV RX1 104 RX0 yX0_multiply wsX0_multiply) := goodIn_app (goodIn_of _ (by decide +kernel)) ggX1_agreesWith_X0_multiply
set_option maxRecDepth 20000 in
theorem ggX1_agreesWith_X1_areEqual : GoodIn wsX1_agreesWith wsX1_areEqual := goodIn_r _ [62] (by decide +kernel) (by decide +kernel)
set_option maxRecDepth 20000 in
theorem gX1_agreesWith_X1_areEqual : GoodIn wsX1_agreesWith (va_wsS RX1 112 yX1_areEqual wsX1_areEqual) := goodIn_app (goodIn_of _ (by decide +kernel)) ggX1_agreesWith_X1_areEqual
theorem dX1_agreesWith_0 : decode cX1_agreesWith 0 = .ok (.aload_n 0, 1) := by decide +kernel
theorem dX1_agreesWith_1 : decode cX1_agreesWith 1 = .ok (.getfield 12, 3) := by decide +kernel
theorem dX1_agreesWith_4 : decode cX1_agreesWith 4 = .ok (.aload_n 0, 1) := by decide +kernel
theorem dX1_agreesWith_5 : decode cX1_agreesWith 5 = .ok (.getfield 68, 3) := by decide +kernel
theorem dX1_agreesWith_8 : decode cX1_agreesWith 8 = .ok (.aload_n 0, 1) := by decide +kernel
theorem dX1_agreesWith_9 : decode cX1_agreesWith 9 = .ok (.getfield 29, 3) := by decide +kernel
theorem dX1_agreesWith_12 : decode cX1_agreesWith 12 = .ok (.invokevirtual 98, 3) := by decide +kernel
theorem dX1_agreesWith_15 : decode cX1_agreesWith 15 = .ok (.aload_n 0, 1) := by decide +kernel
theorem dX1_agreesWith_16 : decode cX1_agreesWith 16 = .ok (.getfield 68, 3) := by decide +kernel
theorem dX1_agreesWith_19 : decode cX1_agreesWith 19 = .ok (.invokestatic 108, 3) := by decide +kernel
theorem dX1_agreesWith_22 : decode cX1_agreesWith 22 = .ok (.ifCond .eq 8, 3) := by decide +kernel
theorem dX1_agreesWith_25 : decode cX1_agreesWith 25 = .ok (.aload_n 1, 1) := by decide +kernel
theorem dX1_agreesWith_26 : decode cX1_agreesWith 26 = .ok (.invokestatic 108, 3) := by decide +kernel
theorem dX1_agreesWith_29 : decode cX1_agreesWith 29 = .ok (.ireturn, 1) := by decide +kernel
theorem dX1_agreesWith_30 : decode cX1_agreesWith 30 = .ok (.aload_n 0, 1) := by decide +kernel
theorem dX1_agreesWith_31 : decode cX1_agreesWith 31 = .ok (.getfield 65, 3) := by decide +kernel
theorem dX1_agreesWith_34 : decode cX1_agreesWith 34 = .ok (.aload_n 1, 1) := by decide +kernel
theorem dX1_agreesWith_35 : decode cX1_agreesWith 35 = .ok (.invokestatic 74, 3) := by decide +kernel
theorem dX1_agreesWith_38 : decode cX1_agreesWith 38 = .ok (.aload_n 0, 1) := by decide +kernel
theorem dX1_agreesWith_39 : decode cX1_agreesWith 39 = .ok (.getfield 12, 3) := by decide +kernel
theorem dX1_agreesWith_42 : decode cX1_agreesWith 42 = .ok (.aload_n 0, 1) := by decide +kernel
theorem dX1_agreesWith_43 : decode cX1_agreesWith 43 = .ok (.getfield 65, 3) := by decide +kernel
theorem dX1_agreesWith_46 : decode cX1_agreesWith 46 = .ok (.aload_n 0, 1) := by decide +kernel
theorem dX1_agreesWith_47 : decode cX1_agreesWith 47 = .ok (.getfield 65, 3) := by decide +kernel
theorem dX1_agreesWith_50 : decode cX1_agreesWith 50 = .ok (.aload_n 0, 1) := by decide +kernel
theorem dX1_agreesWith_51 : decode cX1_agreesWith 51 = .ok (.getfield 29, 3) := by decide +kernel
theorem dX1_agreesWith_54 : decode cX1_agreesWith 54 = .ok (.invokevirtual 104, 3) := by decide +kernel
theorem dX1_agreesWith_57 : decode cX1_agreesWith 57 = .ok (.aload_n 0, 1) := by decide +kernel
theorem dX1_agreesWith_58 : decode cX1_agreesWith 58 = .ok (.getfield 12, 3) := by decide +kernel
theorem dX1_agreesWith_61 : decode cX1_agreesWith 61 = .ok (.aload_n 0, 1) := by decide +kernel
theorem dX1_agreesWith_62 : decode cX1_agreesWith 62 = .ok (.getfield 68, 3) := by decide +kernel
theorem dX1_agreesWith_65 : decode cX1_agreesWith 65 = .ok (.aload_n 0, 1) := by decide +kernel
theorem dX1_agreesWith_66 : decode cX1_agreesWith 66 = .ok (.getfield 65, 3) := by decide +kernel
theorem dX1_agreesWith_69 : decode cX1_agreesWith 69 = .ok (.invokevirtual 98, 3) := by decide +kernel
theorem dX1_agreesWith_72 : decode cX1_agreesWith 72 = .ok (.aload_n 0, 1) := by decide +kernel
theorem dX1_agreesWith_73 : decode cX1_agreesWith 73 = .ok (.getfield 12, 3) := by decide +kernel
theorem dX1_agreesWith_76 : decode cX1_agreesWith 76 = .ok (.aload_n 0, 1) := by decide +kernel
theorem dX1_agreesWith_77 : decode cX1_agreesWith 77 = .ok (.getfield 71, 3) := by decide +kernel
theorem dX1_agreesWith_80 : decode cX1_agreesWith 80 = .ok (.aload_n 0, 1) := by decide +kernel
theorem dX1_agreesWith_81 : decode cX1_agreesWith 81 = .ok (.getfield 26, 3) := by decide +kernel
theorem dX1_agreesWith_84 : decode cX1_agreesWith 84 = .ok (.invokevirtual 98, 3) := by decide +kernel
theorem dX1_agreesWith_87 : decode cX1_agreesWith 87 = .ok (.aload_n 0, 1) := by decide +kernel
theorem dX1_agreesWith_88 : decode cX1_agreesWith 88 = .ok (.getfield 68, 3) := by decide +kernel
theorem dX1_agreesWith_91 : decode cX1_agreesWith 91 = .ok (.aload_n 0, 1) := by decide +kernel
theorem dX1_agreesWith_92 : decode cX1_agreesWith 92 = .ok (.getfield 71, 3) := by decide +kernel
theorem dX1_agreesWith_95 : decode cX1_agreesWith 95 = .ok (.invokestatic 112, 3) := by decide +kernel
theorem dX1_agreesWith_98 : decode cX1_agreesWith 98 = .ok (.ireturn, 1) := by decide +kernel
theorem dX1_rowOf_0 : decode cX1_rowOf 0 = .ok (.iload_n 1, 1) := by decide +kernel
theorem dX1_rowOf_1 : decode cX1_rowOf 1 = .ok (.tableswitch 51 0 3 #[31, 36, 41, 46], 31) := by decide +kernel
theorem dX1_rowOf_32 : decode cX1_rowOf 32 = .ok (.aload_n 0, 1) := by decide +kernel
theorem dX1_rowOf_33 : decode cX1_rowOf 33 = .ok (.getfield 26, 3) := by decide +kernel
theorem dX1_rowOf_36 : decode cX1_rowOf 36 = .ok (.areturn, 1) := by decide +kernel
theorem dX1_rowOf_37 : decode cX1_rowOf 37 = .ok (.aload_n 0, 1) := by decide +kernel
theorem dX1_rowOf_38 : decode cX1_rowOf 38 = .ok (.getfield 29, 3) := by decide +kernel
theorem dX1_rowOf_41 : decode cX1_rowOf 41 = .ok (.areturn, 1) := by decide +kernel
theorem dX1_rowOf_42 : decode cX1_rowOf 42 = .ok (.aload_n 0, 1) := by decide +kernel
theorem dX1_rowOf_43 : decode cX1_rowOf 43 = .ok (.getfield 32, 3) := by decide +kernel
theorem dX1_rowOf_46 : decode cX1_rowOf 46 = .ok (.areturn, 1) := by decide +kernel
theorem dX1_rowOf_47 : decode cX1_rowOf 47 = .ok (.aload_n 0, 1) := by decide +kernel
theorem dX1_rowOf_48 : decode cX1_rowOf 48 = .ok (.getfield 35, 3) := by decide +kernel
theorem dX1_rowOf_51 : decode cX1_rowOf 51 = .ok (.areturn, 1) := by decide +kernel
theorem dX1_rowOf_52 : decode cX1_rowOf 52 = .ok (.aload_n 0, 1) := by decide +kernel
theorem dX1_rowOf_53 : decode cX1_rowOf 53 = .ok (.getfield 22, 3) := by decide +kernel
theorem dX1_rowOf_56 : decode cX1_rowOf 56 = .ok (.areturn, 1) := by decide +kernel
theorem dX1_changePlaces_0 : decode cX1_changePlaces 0 = .ok (.aload_n 0, 1) := by decide +kernel
theorem dX1_changePlaces_1 : decode cX1_changePlaces 1 = .ok (.getfield 26, 3) := by decide +kernel
theorem dX1_changePlaces_4 : decode cX1_changePlaces 4 = .ok (.astore_n 1, 1) := by decide +kernel
theorem dX1_changePlaces_5 : decode cX1_changePlaces 5 = .ok (.aload_n 0, 1) := by decide +kernel
theorem dX1_changePlaces_6 : decode cX1_changePlaces 6 = .ok (.aload_n 0, 1) := by decide +kernel
theorem dX1_changePlaces_7 : decode cX1_changePlaces 7 = .ok (.getfield 32, 3) := by decide +kernel
theorem dX1_changePlaces_10 : decode cX1_changePlaces 10 = .ok (.putfield 26, 3) := by decide +kernel
theorem dX1_changePlaces_13 : decode cX1_changePlaces 13 = .ok (.aload_n 0, 1) := by decide +kernel
theorem dX1_changePlaces_14 : decode cX1_changePlaces 14 = .ok (.aload_n 1, 1) := by decide +kernel
theorem dX1_changePlaces_15 : decode cX1_changePlaces 15 = .ok (.putfield 32, 3) := by decide +kernel
theorem dX1_changePlaces_18 : decode cX1_changePlaces 18 = .ok (.aload_n 0, 1) := by decide +kernel
theorem dX1_changePlaces_19 : decode cX1_changePlaces 19 = .ok (.getfield 29, 3) := by decide +kernel
theorem dX1_changePlaces_22 : decode cX1_changePlaces 22 = .ok (.astore_n 2, 1) := by decide +kernel
theorem dX1_changePlaces_23 : decode cX1_changePlaces 23 = .ok (.aload_n 0, 1) := by decide +kernel
theorem dX1_changePlaces_24 : decode cX1_changePlaces 24 = .ok (.aload_n 0, 1) := by decide +kernel
theorem dX1_changePlaces_25 : decode cX1_changePlaces 25 = .ok (.getfield 35, 3) := by decide +kernel
theorem dX1_changePlaces_28 : decode cX1_changePlaces 28 = .ok (.putfield 29, 3) := by decide +kernel
theorem dX1_changePlaces_31 : decode cX1_changePlaces 31 = .ok (.aload_n 0, 1) := by decide +kernel
theorem dX1_changePlaces_32 : decode cX1_changePlaces 32 = .ok (.aload_n 2, 1) := by decide +kernel
theorem dX1_changePlaces_33 : decode cX1_changePlaces 33 = .ok (.putfield 35, 3) := by decide +kernel
theorem dX1_changePlaces_36 : decode cX1_changePlaces 36 = .ok (.return_, 1) := by decide +kernel
set_option maxRecDepth 20000 in
theorem ggX1_makeSums_X0_add : GoodIn wsX1_makeSums wsX0_add := goodIn_r _ [12] (by decide +kernel) (by decide +kernel)
set_option maxRecDepth 20000 in
theorem gX1_makeSums_X0_add : GoodIn wsX1_makeSums (va_wsS RX1 116 yX0_add wsX0_add) := goodIn_app (goodIn_of _ (by decide +kernel)) ggX1_makeSums_X0_add
set_option maxRecDepth 20000 in
theorem ggX1_makeSums_X0_subtract : GoodIn wsX1_makeSums wsX0_subtract := goodIn_r _ [15, 16, 17] (by decide +kernel) (by decide +kernel)
set_option maxRecDepth 20000 in
theorem gX1_makeSums_X0_subtract : GoodIn wsX1_makeSums (va_wsS RX1 119 yX0_subtract wsX0_subtract) := goodIn_app (goodIn_of _ (by decide +kernel)) ggX1_makeSums_X0_subtract
theorem dX1_makeSums_0 : decode cX1_makeSums 0 = .ok (.aload_n 0, 1) := by decide +kernel
theorem dX1_makeSums_1 : decode cX1_makeSums 1 = .ok (.getfield 38, 3) := by decide +kernel
theorem dX1_makeSums_4 : decode cX1_makeSums 4 = .ok (.aload_n 0, 1) := by decide +kernel
theorem dX1_makeSums_5 : decode cX1_makeSums 5 = .ok (.getfield 26, 3) := by decide +kernel
theorem dX1_makeSums_8 : decode cX1_makeSums 8 = .ok (.aload_n 0, 1) := by decide +kernel
theorem dX1_makeSums_9 : decode cX1_makeSums 9 = .ok (.getfield 29, 3) := by decide +kernel
theorem dX1_makeSums_12 : decode cX1_makeSums 12 = .ok (.invokestatic 116, 3) := by decide +kernel
theorem dX1_makeSums_15 : decode cX1_makeSums 15 = .ok (.aload_n 0, 1) := by decide +kernel
theorem dX1_makeSums_16 : decode cX1_makeSums 16 = .ok (.getfield 41, 3) := by decide +kernel
theorem dX1_makeSums_19 : decode cX1_makeSums 19 = .ok (.aload_n 0, 1) := by decide +kernel
theorem dX1_makeSums_20 : decode cX1_makeSums 20 = .ok (.getfield 26, 3) := by decide +kernel
theorem dX1_makeSums_23 : decode cX1_makeSums 23 = .ok (.aload_n 0, 1) := by decide +kernel
theorem dX1_makeSums_24 : decode cX1_makeSums 24 = .ok (.getfield 29, 3) := by decide +kernel
theorem dX1_makeSums_27 : decode cX1_makeSums 27 = .ok (.invokestatic 119, 3) := by decide +kernel
theorem dX1_makeSums_30 : decode cX1_makeSums 30 = .ok (.aload_n 0, 1) := by decide +kernel
theorem dX1_makeSums_31 : decode cX1_makeSums 31 = .ok (.getfield 44, 3) := by decide +kernel
theorem dX1_makeSums_34 : decode cX1_makeSums 34 = .ok (.aload_n 0, 1) := by decide +kernel
theorem dX1_makeSums_35 : decode cX1_makeSums 35 = .ok (.getfield 32, 3) := by decide +kernel
theorem dX1_makeSums_38 : decode cX1_makeSums 38 = .ok (.aload_n 0, 1) := by decide +kernel
theorem dX1_makeSums_39 : decode cX1_makeSums 39 = .ok (.getfield 35, 3) := by decide +kernel
theorem dX1_makeSums_42 : decode cX1_makeSums 42 = .ok (.invokestatic 116, 3) := by decide +kernel
theorem dX1_makeSums_45 : decode cX1_makeSums 45 = .ok (.aload_n 0, 1) := by decide +kernel
theorem dX1_makeSums_46 : decode cX1_makeSums 46 = .ok (.getfield 47, 3) := by decide +kernel
theorem dX1_makeSums_49 : decode cX1_makeSums 49 = .ok (.aload_n 0, 1) := by decide +kernel
theorem dX1_makeSums_50 : decode cX1_makeSums 50 = .ok (.getfield 32, 3) := by decide +kernel
theorem dX1_makeSums_53 : decode cX1_makeSums 53 = .ok (.aload_n 0, 1) := by decide +kernel
theorem dX1_makeSums_54 : decode cX1_makeSums 54 = .ok (.getfield 35, 3) := by decide +kernel
theorem dX1_makeSums_57 : decode cX1_makeSums 57 = .ok (.invokestatic 119, 3) := by decide +kernel
theorem dX1_makeSums_60 : decode cX1_makeSums 60 = .ok (.return_, 1) := by decide +kernel
set_option maxRecDepth 20000 in
theorem ggX1_makeDouble_X0_multiply : GoodIn wsX1_makeDouble wsX0_multiply := goodIn_r _ [14, 15, 16, 17, 18, 19, 13, 20, 21, 22, 23, 24, 25, 26, 27, 28, 29, 30, 31, 32, 63, 64] (by decide +kernel) (by decide +kernel)
set_option maxRecDepth 20000 in
theorem gX1_makeDouble_X0_multiply : GoodIn wsX1_makeDouble (wsV RX1 104 RX0 yX0_multiply wsX0_multiply) := goodIn_app (goodIn_of _ (by decide +kernel)) ggX1_makeDouble_X0_multiply
set_option maxRecDepth 20000 in
theorem ggX1_makeDouble_X0_subtract : GoodIn wsX1_makeDouble wsX0_subtract := goodIn_r _ [35, 36, 37] (by decide +kernel) (by decide +kernel)
set_option maxRecDepth 20000 in
theorem gX1_makeDouble_X0_subtract : GoodIn wsX1_makeDouble (va_wsS RX1 119 yX0_subtract wsX0_subtract) := goodIn_app (goodIn_of _ (by decide +kernel)) ggX1_makeDouble_X0_subtract
set_option maxRecDepth 20000 in
theorem ggX1_makeDouble_X0_scale : GoodIn wsX1_makeDouble wsX0_scale := goodIn_r _ [40, 41, 30, 31, 13, 32, 29, 16] (by decide +kernel) (by decide +kernel)
set_option maxRecDepth 20000 in
theorem gX1_makeDouble_X0_scale : GoodIn wsX1_makeDouble (va_wsS RX1 122 yX0_scale wsX0_scale) := goodIn_app (goodIn_of _ (by decide +kernel)) ggX1_makeDouble_X0_scale
set_option maxRecDepth 20000 in
theorem ggX1_makeDouble_X0_add : GoodIn wsX1_makeDouble wsX0_add := goodIn_r _ [44] (by decide +kernel) (by decide +kernel)
set_option maxRecDepth 20000 in
theorem gX1_makeDouble_X0_add : GoodIn wsX1_makeDouble (va_wsS RX1 116 yX0_add wsX0_add) := goodIn_app (goodIn_of _ (by decide +kernel)) ggX1_makeDouble_X0_add
theorem dX1_makeDouble_0 : decode cX1_makeDouble 0 = .ok (.aload_n 0, 1) := by decide +kernel
theorem dX1_makeDouble_1 : decode cX1_makeDouble 1 = .ok (.getfield 12, 3) := by decide +kernel
theorem dX1_makeDouble_4 : decode cX1_makeDouble 4 = .ok (.aload_n 0, 1) := by decide +kernel
theorem dX1_makeDouble_5 : decode cX1_makeDouble 5 = .ok (.getfield 53, 3) := by decide +kernel
theorem dX1_makeDouble_8 : decode cX1_makeDouble 8 = .ok (.aload_n 0, 1) := by decide +kernel
theorem dX1_makeDouble_9 : decode cX1_makeDouble 9 = .ok (.getfield 38, 3) := by decide +kernel
theorem dX1_makeDouble_12 : decode cX1_makeDouble 12 = .ok (.aload_n 0, 1) := by decide +kernel
theorem dX1_makeDouble_13 : decode cX1_makeDouble 13 = .ok (.getfield 38, 3) := by decide +kernel
theorem dX1_makeDouble_16 : decode cX1_makeDouble 16 = .ok (.invokevirtual 104, 3) := by decide +kernel
theorem dX1_makeDouble_19 : decode cX1_makeDouble 19 = .ok (.aload_n 0, 1) := by decide +kernel
theorem dX1_makeDouble_20 : decode cX1_makeDouble 20 = .ok (.getfield 12, 3) := by decide +kernel
theorem dX1_makeDouble_23 : decode cX1_makeDouble 23 = .ok (.aload_n 0, 1) := by decide +kernel
theorem dX1_makeDouble_24 : decode cX1_makeDouble 24 = .ok (.getfield 56, 3) := by decide +kernel
theorem dX1_makeDouble_27 : decode cX1_makeDouble 27 = .ok (.aload_n 0, 1) := by decide +kernel
theorem dX1_makeDouble_28 : decode cX1_makeDouble 28 = .ok (.getfield 41, 3) := by decide +kernel
theorem dX1_makeDouble_31 : decode cX1_makeDouble 31 = .ok (.aload_n 0, 1) := by decide +kernel
theorem dX1_makeDouble_32 : decode cX1_makeDouble 32 = .ok (.getfield 41, 3) := by decide +kernel
theorem dX1_makeDouble_35 : decode cX1_makeDouble 35 = .ok (.invokevirtual 104, 3) := by decide +kernel
theorem dX1_makeDouble_38 : decode cX1_makeDouble 38 = .ok (.aload_n 0, 1) := by decide +kernel
theorem dX1_makeDouble_39 : decode cX1_makeDouble 39 = .ok (.getfield 50, 3) := by decide +kernel
theorem dX1_makeDouble_42 : decode cX1_makeDouble 42 = .ok (.aload_n 0, 1) := by decide +kernel
theorem dX1_makeDouble_43 : decode cX1_makeDouble 43 = .ok (.getfield 53, 3) := by decide +kernel
theorem dX1_makeDouble_46 : decode cX1_makeDouble 46 = .ok (.aload_n 0, 1) := by decide +kernel
theorem dX1_makeDouble_47 : decode cX1_makeDouble 47 = .ok (.getfield 56, 3) := by decide +kernel
theorem dX1_makeDouble_50 : decode cX1_makeDouble 50 = .ok (.invokestatic 119, 3) := by decide +kernel
theorem dX1_makeDouble_53 : decode cX1_makeDouble 53 = .ok (.aload_n 0, 1) := by decide +kernel
theorem dX1_makeDouble_54 : decode cX1_makeDouble 54 = .ok (.getfield 12, 3) := by decide +kernel
theorem dX1_makeDouble_57 : decode cX1_makeDouble 57 = .ok (.aload_n 0, 1) := by decide +kernel
theorem dX1_makeDouble_58 : decode cX1_makeDouble 58 = .ok (.getfield 26, 3) := by decide +kernel
theorem dX1_makeDouble_61 : decode cX1_makeDouble 61 = .ok (.aload_n 0, 1) := by decide +kernel
theorem dX1_makeDouble_62 : decode cX1_makeDouble 62 = .ok (.getfield 53, 3) := by decide +kernel
theorem dX1_makeDouble_65 : decode cX1_makeDouble 65 = .ok (.aload_n 0, 1) := by decide +kernel
theorem dX1_makeDouble_66 : decode cX1_makeDouble 66 = .ok (.getfield 56, 3) := by decide +kernel
theorem dX1_makeDouble_69 : decode cX1_makeDouble 69 = .ok (.invokevirtual 104, 3) := by decide +kernel
theorem dX1_makeDouble_72 : decode cX1_makeDouble 72 = .ok (.aload_n 0, 1) := by decide +kernel
theorem dX1_makeDouble_73 : decode cX1_makeDouble 73 = .ok (.getfield 65, 3) := by decide +kernel
theorem dX1_makeDouble_76 : decode cX1_makeDouble 76 = .ok (.aload_n 0, 1) := by decide +kernel
theorem dX1_makeDouble_77 : decode cX1_makeDouble 77 = .ok (.getfield 50, 3) := by decide +kernel
theorem dX1_makeDouble_80 : decode cX1_makeDouble 80 = .ok (.invokestatic 122, 3) := by decide +kernel
theorem dX1_makeDouble_83 : decode cX1_makeDouble 83 = .ok (.aload_n 0, 1) := by decide +kernel
theorem dX1_makeDouble_84 : decode cX1_makeDouble 84 = .ok (.getfield 65, 3) := by decide +kernel
theorem dX1_makeDouble_87 : decode cX1_makeDouble 87 = .ok (.aload_n 0, 1) := by decide +kernel
theorem dX1_makeDouble_88 : decode cX1_makeDouble 88 = .ok (.getfield 53, 3) := by decide +kernel
theorem dX1_makeDouble_91 : decode cX1_makeDouble 91 = .ok (.aload_n 0, 1) := by decide +kernel
theorem dX1_makeDouble_92 : decode cX1_makeDouble 92 = .ok (.getfield 65, 3) := by decide +kernel
theorem dX1_makeDouble_95 : decode cX1_makeDouble 95 = .ok (.invokestatic 116, 3) := by decide +kernel
theorem dX1_makeDouble_98 : decode cX1_makeDouble 98 = .ok (.aload_n 0, 1) := by decide +kernel
theorem dX1_makeDouble_99 : decode cX1_makeDouble 99 = .ok (.getfield 12, 3) := by decide +kernel
theorem dX1_makeDouble_102 : decode cX1_makeDouble 102 = .ok (.aload_n 0, 1) := by decide +kernel
theorem dX1_makeDouble_103 : decode cX1_makeDouble 103 = .ok (.getfield 29, 3) := by decide +kernel
theorem dX1_makeDouble_106 : decode cX1_makeDouble 106 = .ok (.aload_n 0, 1) := by decide +kernel
theorem dX1_makeDouble_107 : decode cX1_makeDouble 107 = .ok (.getfield 50, 3) := by decide +kernel
theorem dX1_makeDouble_110 : decode cX1_makeDouble 110 = .ok (.aload_n 0, 1) := by decide +kernel
theorem dX1_makeDouble_111 : decode cX1_makeDouble 111 = .ok (.getfield 65, 3) := by decide +kernel
theorem dX1_makeDouble_114 : decode cX1_makeDouble 114 = .ok (.invokevirtual 104, 3) := by decide +kernel
theorem dX1_makeDouble_117 : decode cX1_makeDouble 117 = .ok (.return_, 1) := by decide +kernel
set_option maxRecDepth 20000 in
theorem ggX1_makeOther_X0_multiply : GoodIn wsX1_makeOther wsX0_multiply := goodIn_r _ [16, 17, 18, 19, 20, 21, 15, 22, 23, 24, 25, 26, 27, 28, 29, 30, 31, 32, 33, 34, 61, 62] (by decide +kernel) (by decide +kernel)
set_option maxRecDepth 20000 in
theorem gX1_makeOther_X0_multiply : GoodIn wsX1_makeOther (wsV RX1 104 RX0 yX0_multiply wsX0_multiply) := goodIn_app (goodIn_of _ (by decide +kernel)) ggX1_makeOther_X0_multiply
set_option maxRecDepth 20000 in
theorem ggX1_makeOther_X0_add : GoodIn wsX1_makeOther wsX0_add := goodIn_r _ [37] (by decide +kernel) (by decide +kernel)
set_option maxRecDepth 20000 in
theorem gX1_makeOther_X0_add : GoodIn wsX1_makeOther (va_wsS RX1 116 yX0_add wsX0_add) := goodIn_app (goodIn_of _ (by decide +kernel)) ggX1_makeOther_X0_add
set_option maxRecDepth 20000 in
theorem ggX1_makeOther_X0_subtract : GoodIn wsX1_makeOther wsX0_subtract := goodIn_r _ [40, 41, 42] (by decide +kernel) (by decide +kernel)
set_option maxRecDepth 20000 in
theorem gX1_makeOther_X0_subtract : GoodIn wsX1_makeOther (va_wsS RX1 119 yX0_subtract wsX0_subtract) := goodIn_app (goodIn_of _ (by decide +kernel)) ggX1_makeOther_X0_subtract
theorem dX1_makeOther_0 : decode cX1_makeOther 0 = .ok (.aload_n 0, 1) := by decide +kernel
theorem dX1_makeOther_1 : decode cX1_makeOther 1 = .ok (.getfield 12, 3) := by decide +kernel
theorem dX1_makeOther_4 : decode cX1_makeOther 4 = .ok (.aload_n 0, 1) := by decide +kernel
theorem dX1_makeOther_5 : decode cX1_makeOther 5 = .ok (.getfield 59, 3) := by decide +kernel
theorem dX1_makeOther_8 : decode cX1_makeOther 8 = .ok (.aload_n 0, 1) := by decide +kernel
theorem dX1_makeOther_9 : decode cX1_makeOther 9 = .ok (.getfield 47, 3) := by decide +kernel
theorem dX1_makeOther_12 : decode cX1_makeOther 12 = .ok (.aload_n 0, 1) := by decide +kernel
theorem dX1_makeOther_13 : decode cX1_makeOther 13 = .ok (.getfield 38, 3) := by decide +kernel
theorem dX1_makeOther_16 : decode cX1_makeOther 16 = .ok (.invokevirtual 104, 3) := by decide +kernel
theorem dX1_makeOther_19 : decode cX1_makeOther 19 = .ok (.aload_n 0, 1) := by decide +kernel
theorem dX1_makeOther_20 : decode cX1_makeOther 20 = .ok (.getfield 12, 3) := by decide +kernel
theorem dX1_makeOther_23 : decode cX1_makeOther 23 = .ok (.aload_n 0, 1) := by decide +kernel
theorem dX1_makeOther_24 : decode cX1_makeOther 24 = .ok (.getfield 62, 3) := by decide +kernel
theorem dX1_makeOther_27 : decode cX1_makeOther 27 = .ok (.aload_n 0, 1) := by decide +kernel
theorem dX1_makeOther_28 : decode cX1_makeOther 28 = .ok (.getfield 44, 3) := by decide +kernel
theorem dX1_makeOther_31 : decode cX1_makeOther 31 = .ok (.aload_n 0, 1) := by decide +kernel
theorem dX1_makeOther_32 : decode cX1_makeOther 32 = .ok (.getfield 41, 3) := by decide +kernel
theorem dX1_makeOther_35 : decode cX1_makeOther 35 = .ok (.invokevirtual 104, 3) := by decide +kernel
theorem dX1_makeOther_38 : decode cX1_makeOther 38 = .ok (.aload_n 0, 1) := by decide +kernel
theorem dX1_makeOther_39 : decode cX1_makeOther 39 = .ok (.getfield 65, 3) := by decide +kernel
theorem dX1_makeOther_42 : decode cX1_makeOther 42 = .ok (.aload_n 0, 1) := by decide +kernel
theorem dX1_makeOther_43 : decode cX1_makeOther 43 = .ok (.getfield 59, 3) := by decide +kernel
theorem dX1_makeOther_46 : decode cX1_makeOther 46 = .ok (.aload_n 0, 1) := by decide +kernel
theorem dX1_makeOther_47 : decode cX1_makeOther 47 = .ok (.getfield 62, 3) := by decide +kernel
theorem dX1_makeOther_50 : decode cX1_makeOther 50 = .ok (.invokestatic 116, 3) := by decide +kernel
theorem dX1_makeOther_53 : decode cX1_makeOther 53 = .ok (.aload_n 0, 1) := by decide +kernel
theorem dX1_makeOther_54 : decode cX1_makeOther 54 = .ok (.getfield 12, 3) := by decide +kernel
theorem dX1_makeOther_57 : decode cX1_makeOther 57 = .ok (.aload_n 0, 1) := by decide +kernel
theorem dX1_makeOther_58 : decode cX1_makeOther 58 = .ok (.getfield 32, 3) := by decide +kernel
theorem dX1_makeOther_61 : decode cX1_makeOther 61 = .ok (.aload_n 0, 1) := by decide +kernel
theorem dX1_makeOther_62 : decode cX1_makeOther 62 = .ok (.getfield 65, 3) := by decide +kernel
theorem dX1_makeOther_65 : decode cX1_makeOther 65 = .ok (.aload_n 0, 1) := by decide +kernel
theorem dX1_makeOther_66 : decode cX1_makeOther 66 = .ok (.getfield 65, 3) := by decide +kernel
theorem dX1_makeOther_69 : decode cX1_makeOther 69 = .ok (.invokevirtual 104, 3) := by decide +kernel
theorem dX1_makeOther_72 : decode cX1_makeOther 72 = .ok (.aload_n 0, 1) := by decide +kernel
theorem dX1_makeOther_73 : decode cX1_makeOther 73 = .ok (.getfield 65, 3) := by decide +kernel
theorem dX1_makeOther_76 : decode cX1_makeOther 76 = .ok (.aload_n 0, 1) := by decide +kernel
theorem dX1_makeOther_77 : decode cX1_makeOther 77 = .ok (.getfield 59, 3) := by decide +kernel
theorem dX1_makeOther_80 : decode cX1_makeOther 80 = .ok (.aload_n 0, 1) := by decide +kernel
theorem dX1_makeOther_81 : decode cX1_makeOther 81 = .ok (.getfield 62, 3) := by decide +kernel
theorem dX1_makeOther_84 : decode cX1_makeOther 84 = .ok (.invokestatic 119, 3) := by decide +kernel
theorem dX1_makeOther_87 : decode cX1_makeOther 87 = .ok (.aload_n 0, 1) := by decide +kernel
theorem dX1_makeOther_88 : decode cX1_makeOther 88 = .ok (.getfield 12, 3) := by decide +kernel
theorem dX1_makeOther_91 : decode cX1_makeOther 91 = .ok (.aload_n 0, 1) := by decide +kernel
theorem dX1_makeOther_92 : decode cX1_makeOther 92 = .ok (.getfield 65, 3) := by decide +kernel
theorem dX1_makeOther_95 : decode cX1_makeOther 95 = .ok (.aload_n 0, 1) := by decide +kernel
theorem dX1_makeOther_96 : decode cX1_makeOther 96 = .ok (.getfield 65, 3) := by decide +kernel
theorem dX1_makeOther_99 : decode cX1_makeOther 99 = .ok (.aload_n 0, 1) := by decide +kernel
theorem dX1_makeOther_100 : decode cX1_makeOther 100 = .ok (.getfield 65, 3) := by decide +kernel
theorem dX1_makeOther_103 : decode cX1_makeOther 103 = .ok (.invokevirtual 104, 3) := by decide +kernel
theorem dX1_makeOther_106 : decode cX1_makeOther 106 = .ok (.aload_n 0, 1) := by decide +kernel
theorem dX1_makeOther_107 : decode cX1_makeOther 107 = .ok (.getfield 12, 3) := by decide +kernel
theorem dX1_makeOther_110 : decode cX1_makeOther 110 = .ok (.aload_n 0, 1) := by decide +kernel
theorem dX1_makeOther_111 : decode cX1_makeOther 111 = .ok (.getfield 35, 3) := by decide +kernel
theorem dX1_makeOther_114 : decode cX1_makeOther 114 = .ok (.aload_n 0, 1) := by decide +kernel
theorem dX1_makeOther_115 : decode cX1_makeOther 115 = .ok (.getfield 22, 3) := by decide +kernel
theorem dX1_makeOther_118 : decode cX1_makeOther 118 = .ok (.aload_n 0, 1) := by decide +kernel
theorem dX1_makeOther_119 : decode cX1_makeOther 119 = .ok (.getfield 65, 3) := by decide +kernel
theorem dX1_makeOther_122 : decode cX1_makeOther 122 = .ok (.invokevirtual 104, 3) := by decide +kernel
theorem dX1_makeOther_125 : decode cX1_makeOther 125 = .ok (.return_, 1) := by decide +kernel
theorem dX1_isZero_0 : decode cX1_isZero 0 = .ok (.aload_n 0, 1) := by decide +kernel
theorem dX1_isZero_1 : decode cX1_isZero 1 = .ok (.iconst 0, 1) := by decide +kernel
theorem dX1_isZero_2 : decode cX1_isZero 2 = .ok (.laload, 1) := by decide +kernel
theorem dX1_isZero_3 : decode cX1_isZero 3 = .ok (.aload_n 0, 1) := by decide +kernel
theorem dX1_isZero_4 : decode cX1_isZero 4 = .ok (.iconst 1, 1) := by decide +kernel
theorem dX1_isZero_5 : decode cX1_isZero 5 = .ok (.laload, 1) := by decide +kernel
theorem dX1_isZero_6 : decode cX1_isZero 6 = .ok (.lor, 1) := by decide +kernel
theorem dX1_isZero_7 : decode cX1_isZero 7 = .ok (.aload_n 0, 1) := by decide +kernel
theorem dX1_isZero_8 : decode cX1_isZero 8 = .ok (.iconst 2, 1) := by decide +kernel
theorem dX1_isZero_9 : decode cX1_isZero 9 = .ok (.laload, 1) := by decide +kernel
theorem dX1_isZero_10 : decode cX1_isZero 10 = .ok (.lor, 1) := by decide +kernel
theorem dX1_isZero_11 : decode cX1_isZero 11 = .ok (.aload_n 0, 1) := by decide +kernel
theorem dX1_isZero_12 : decode cX1_isZero 12 = .ok (.iconst 3, 1) := by decide +kernel
theorem dX1_isZero_13 : decode cX1_isZero 13 = .ok (.laload, 1) := by decide +kernel
theorem dX1_isZero_14 : decode cX1_isZero 14 = .ok (.lor, 1) := by decide +kernel
theorem dX1_isZero_15 : decode cX1_isZero 15 = .ok (.lconst 0, 1) := by decide +kernel
theorem dX1_isZero_16 : decode cX1_isZero 16 = .ok (.lcmp, 1) := by decide +kernel
theorem dX1_isZero_17 : decode cX1_isZero 17 = .ok (.ifCond .ne 7, 3) := by decide +kernel
theorem dX1_isZero_20 : decode cX1_isZero 20 = .ok (.iconst 1, 1) := by decide +kernel
theorem dX1_isZero_21 : decode cX1_isZero 21 = .ok (.goto 4, 3) := by decide +kernel
theorem dX1_isZero_24 : decode cX1_isZero 24 = .ok (.iconst 0, 1) := by decide +kernel
theorem dX1_isZero_25 : decode cX1_isZero 25 = .ok (.ireturn, 1) := by decide +kernel
theorem dX1_areEqual_0 : decode cX1_areEqual 0 = .ok (.iconst 0, 1) := by decide +kernel
theorem dX1_areEqual_1 : decode cX1_areEqual 1 = .ok (.istore_n 2, 1) := by decide +kernel
theorem dX1_areEqual_2 : decode cX1_areEqual 2 = .ok (.iload_n 2, 1) := by decide +kernel
theorem dX1_areEqual_3 : decode cX1_areEqual 3 = .ok (.iconst 4, 1) := by decide +kernel
theorem dX1_areEqual_4 : decode cX1_areEqual 4 = .ok (.if_icmp .ge 21, 3) := by decide +kernel
theorem dX1_areEqual_7 : decode cX1_areEqual 7 = .ok (.aload_n 0, 1) := by decide +kernel
theorem dX1_areEqual_8 : decode cX1_areEqual 8 = .ok (.iload_n 2, 1) := by decide +kernel
theorem dX1_areEqual_9 : decode cX1_areEqual 9 = .ok (.laload, 1) := by decide +kernel
theorem dX1_areEqual_10 : decode cX1_areEqual 10 = .ok (.aload_n 1, 1) := by decide +kernel
theorem dX1_areEqual_11 : decode cX1_areEqual 11 = .ok (.iload_n 2, 1) := by decide +kernel
theorem dX1_areEqual_12 : decode cX1_areEqual 12 = .ok (.laload, 1) := by decide +kernel
theorem dX1_areEqual_13 : decode cX1_areEqual 13 = .ok (.lcmp, 1) := by decide +kernel
theorem dX1_areEqual_14 : decode cX1_areEqual 14 = .ok (.ifCond .eq 5, 3) := by decide +kernel
theorem dX1_areEqual_17 : decode cX1_areEqual 17 = .ok (.iconst 0, 1) := by decide +kernel
theorem dX1_areEqual_18 : decode cX1_areEqual 18 = .ok (.ireturn, 1) := by decide +kernel
theorem dX1_areEqual_19 : decode cX1_areEqual 19 = .ok (.iinc 2 1, 3) := by decide +kernel
theorem dX1_areEqual_22 : decode cX1_areEqual 22 = .ok (.goto (-20), 3) := by decide +kernel
theorem dX1_areEqual_25 : decode cX1_areEqual 25 = .ok (.iconst 1, 1) := by decide +kernel
theorem dX1_areEqual_26 : decode cX1_areEqual 26 = .ok (.ireturn, 1) := by decide +kernel
set_option maxRecDepth 20000 in
theorem ggX2_init_X1_init : GoodIn wsX2_init wsX1_init := goodIn_r _ [18, 19, 2, 3, 20, 21, 22, 23, 24, 25, 26, 27, 28, 29, 30, 31, 32, 33, 34, 35, 36, 37, 38, 4, 39, 40, 41, 42, 43, 44, 45, 46, 47, 48, 49, 50, 77, 78, 59, 60, 61, 62, 63, 64, 65, 66, 67, 68, 69, 70, 71, 72, 73, 74, 75, 76] (by decide +kernel) (by decide +kernel)
set_option maxRecDepth 20000 in
theorem gX2_init_X1_init : GoodIn wsX2_init (wsX1_init) := ggX2_init_X1_init
theorem dX2_init_0 : decode cX2_init 0 = .ok (.aload_n 0, 1) := by decide +kernel
theorem dX2_init_1 : decode cX2_init 1 = .ok (.invokespecial 1, 3) := by decide +kernel
theorem dX2_init_4 : decode cX2_init 4 = .ok (.aload_n 0, 1) := by decide +kernel
theorem dX2_init_5 : decode cX2_init 5 = .ok (.iconst 4, 1) := by decide +kernel
theorem dX2_init_6 : decode cX2_init 6 = .ok (.newarray .long, 2) := by decide +kernel
theorem dX2_init_8 : decode cX2_init 8 = .ok (.putfield 9, 3) := by decide +kernel
theorem dX2_init_11 : decode cX2_init 11 = .ok (.aload_n 0, 1) := by decide +kernel
theorem dX2_init_12 : decode cX2_init 12 = .ok (.iconst 4, 1) := by decide +kernel
theorem dX2_init_13 : decode cX2_init 13 = .ok (.newarray .long, 2) := by decide +kernel
theorem dX2_init_15 : decode cX2_init 15 = .ok (.putfield 13, 3) := by decide +kernel
theorem dX2_init_18 : decode cX2_init 18 = .ok (.aload_n 0, 1) := by decide +kernel
theorem dX2_init_19 : decode cX2_init 19 = .ok (.iconst 4, 1) := by decide +kernel
theorem dX2_init_20 : decode cX2_init 20 = .ok (.newarray .long, 2) := by decide +kernel
theorem dX2_init_22 : decode cX2_init 22 = .ok (.putfield 16, 3) := by decide +kernel
theorem dX2_init_25 : decode cX2_init 25 = .ok (.aload_n 0, 1) := by decide +kernel
theorem dX2_init_26 : decode cX2_init 26 = .ok (.iconst 4, 1) := by decide +kernel
theorem dX2_init_27 : decode cX2_init 27 = .ok (.newarray .long, 2) := by decide +kernel
theorem dX2_init_29 : decode cX2_init 29 = .ok (.putfield 19, 3) := by decide +kernel
theorem dX2_init_32 : decode cX2_init 32 = .ok (.aload_n 0, 1) := by decide +kernel
theorem dX2_init_33 : decode cX2_init 33 = .ok (.new 22, 3) := by decide +kernel
theorem dX2_init_36 : decode cX2_init 36 = .ok (.dup, 1) := by decide +kernel
theorem dX2_init_37 : decode cX2_init 37 = .ok (.invokespecial 24, 3) := by decide +kernel
theorem dX2_init_40 : decode cX2_init 40 = .ok (.putfield 25, 3) := by decide +kernel
theorem dX2_init_43 : decode cX2_init 43 = .ok (.aload_n 0, 1) := by decide +kernel
theorem dX2_init_44 : decode cX2_init 44 = .ok (.iconst 0, 1) := by decide +kernel
theorem dX2_init_45 : decode cX2_init 45 = .ok (.putfield 29, 3) := by decide +kernel
theorem dX2_init_48 : decode cX2_init 48 = .ok (.aload_n 0, 1) := by decide +kernel
theorem dX2_init_49 : decode cX2_init 49 = .ok (.iconst 0, 1) := by decide +kernel
theorem dX2_init_50 : decode cX2_init 50 = .ok (.putfield 33, 3) := by decide +kernel
theorem dX2_init_53 : decode cX2_init 53 = .ok (.aload_n 0, 1) := by decide +kernel
theorem dX2_init_54 : decode cX2_init 54 = .ok (.iconst 0, 1) := by decide +kernel
theorem dX2_init_55 : decode cX2_init 55 = .ok (.putfield 36, 3) := by decide +kernel
theorem dX2_init_58 : decode cX2_init 58 = .ok (.return_, 1) := by decide +kernel
set_option maxRecDepth 20000 in
theorem ggX2_scalar_X2_tell : GoodIn wsX2_scalar wsX2_tell := goodIn_r _ [6, 7, 8, 9, 5, 10, 11, 12, 13, 14, 15, 16, 17, 18] (by decide +kernel) (by decide +kernel)
set_option maxRecDepth 20000 in
theorem gX2_scalar_X2_tell : GoodIn wsX2_scalar (wsV RX2 39 RX2 yX2_tell wsX2_tell) := goodIn_app (goodIn_of _ (by decide +kernel)) ggX2_scalar_X2_tell
theorem dX2_scalar_0 : decode cX2_scalar 0 = .ok (.aload_n 0, 1) := by decide +kernel
theorem dX2_scalar_1 : decode cX2_scalar 1 = .ok (.aload_n 0, 1) := by decide +kernel
theorem dX2_scalar_2 : decode cX2_scalar 2 = .ok (.getfield 9, 3) := by decide +kernel
theorem dX2_scalar_5 : decode cX2_scalar 5 = .ok (.iload_n 1, 1) := by decide +kernel
theorem dX2_scalar_6 : decode cX2_scalar 6 = .ok (.lload_n 2, 1) := by decide +kernel
theorem dX2_scalar_7 : decode cX2_scalar 7 = .ok (.invokevirtual 39, 3) := by decide +kernel
theorem dX2_scalar_10 : decode cX2_scalar 10 = .ok (.ireturn, 1) := by decide +kernel
set_option maxRecDepth 20000 in
theorem ggX2_point_X2_tell : GoodIn wsX2_point wsX2_tell := goodIn_r _ [6, 7, 8, 9, 5, 10, 11, 12, 13, 14, 15, 16, 17, 18] (by decide +kernel) (by decide +kernel)
set_option maxRecDepth 20000 in
theorem gX2_point_X2_tell : GoodIn wsX2_point (wsV RX2 39 RX2 yX2_tell wsX2_tell) := goodIn_app (goodIn_of _ (by decide +kernel)) ggX2_point_X2_tell
theorem dX2_point_0 : decode cX2_point 0 = .ok (.aload_n 0, 1) := by decide +kernel
theorem dX2_point_1 : decode cX2_point 1 = .ok (.aload_n 0, 1) := by decide +kernel
theorem dX2_point_2 : decode cX2_point 2 = .ok (.getfield 13, 3) := by decide +kernel
theorem dX2_point_5 : decode cX2_point 5 = .ok (.iload_n 1, 1) := by decide +kernel
theorem dX2_point_6 : decode cX2_point 6 = .ok (.lload_n 2, 1) := by decide +kernel
theorem dX2_point_7 : decode cX2_point 7 = .ok (.invokevirtual 39, 3) := by decide +kernel
theorem dX2_point_10 : decode cX2_point 10 = .ok (.ireturn, 1) := by decide +kernel
set_option maxRecDepth 20000 in
theorem ggX2_start_X2_writeU : GoodIn wsX2_start wsX2_writeU := goodIn_r _ [9, 10, 11, 12, 13, 14, 15, 16, 17, 18, 19, 20, 21, 22, 23, 45, 46, 47, 48, 49, 50, 51, 52] (by decide +kernel) (by decide +kernel)
set_option maxRecDepth 20000 in
theorem gX2_start_X2_writeU : GoodIn wsX2_start (wsV RX2 43 RX2 yX2_writeU wsX2_writeU) := goodIn_app (goodIn_of _ (by decide +kernel)) ggX2_start_X2_writeU
set_option maxRecDepth 20000 in
theorem ggX2_start_X1_begin : GoodIn wsX2_start wsX1_begin := goodIn_r _ [28, 29, 30, 31, 32, 33, 34, 35, 18, 36, 37, 38, 39, 40, 41, 42, 43, 44, 53, 54, 55, 56, 57, 58, 59, 60, 61, 62, 63, 64, 65, 66, 67, 68, 69, 70] (by decide +kernel) (by decide +kernel)
set_option maxRecDepth 20000 in
theorem gX2_start_X1_begin : GoodIn wsX2_start (wsV RX2 47 RX1 yX1_begin wsX1_begin) := goodIn_app (goodIn_of _ (by decide +kernel)) ggX2_start_X1_begin
theorem dX2_start_0 : decode cX2_start 0 = .ok (.aload_n 0, 1) := by decide +kernel
theorem dX2_start_1 : decode cX2_start 1 = .ok (.getfield 29, 3) := by decide +kernel
theorem dX2_start_4 : decode cX2_start 4 = .ok (.ifCond .eq 5, 3) := by decide +kernel
theorem dX2_start_7 : decode cX2_start 7 = .ok (.iconst 0, 1) := by decide +kernel
theorem dX2_start_8 : decode cX2_start 8 = .ok (.ireturn, 1) := by decide +kernel
theorem dX2_start_9 : decode cX2_start 9 = .ok (.aload_n 0, 1) := by decide +kernel
theorem dX2_start_10 : decode cX2_start 10 = .ok (.aload_n 0, 1) := by decide +kernel
theorem dX2_start_11 : decode cX2_start 11 = .ok (.getfield 19, 3) := by decide +kernel
theorem dX2_start_14 : decode cX2_start 14 = .ok (.invokevirtual 43, 3) := by decide +kernel
theorem dX2_start_17 : decode cX2_start 17 = .ok (.aload_n 0, 1) := by decide +kernel
theorem dX2_start_18 : decode cX2_start 18 = .ok (.getfield 25, 3) := by decide +kernel
theorem dX2_start_21 : decode cX2_start 21 = .ok (.aload_n 0, 1) := by decide +kernel
theorem dX2_start_22 : decode cX2_start 22 = .ok (.getfield 19, 3) := by decide +kernel
theorem dX2_start_25 : decode cX2_start 25 = .ok (.invokevirtual 47, 3) := by decide +kernel
theorem dX2_start_28 : decode cX2_start 28 = .ok (.aload_n 0, 1) := by decide +kernel
theorem dX2_start_29 : decode cX2_start 29 = .ok (.iconst 0, 1) := by decide +kernel
theorem dX2_start_30 : decode cX2_start 30 = .ok (.putfield 33, 3) := by decide +kernel
theorem dX2_start_33 : decode cX2_start 33 = .ok (.aload_n 0, 1) := by decide +kernel
theorem dX2_start_34 : decode cX2_start 34 = .ok (.iconst 1, 1) := by decide +kernel
theorem dX2_start_35 : decode cX2_start 35 = .ok (.putfield 29, 3) := by decide +kernel
theorem dX2_start_38 : decode cX2_start 38 = .ok (.iconst 1, 1) := by decide +kernel
theorem dX2_start_39 : decode cX2_start 39 = .ok (.ireturn, 1) := by decide +kernel
set_option maxRecDepth 20000 in
theorem ggX2_step_X2_clampedBit : GoodIn wsX2_step wsX2_clampedBit := goodIn_r _ [12, 13, 14, 15, 11, 16, 17, 18, 19, 20, 93, 94, 95, 96, 97, 98, 99, 100] (by decide +kernel) (by decide +kernel)
set_option maxRecDepth 20000 in
theorem gX2_step_X2_clampedBit : GoodIn wsX2_step (wsV RX2 56 RX2 yX2_clampedBit wsX2_clampedBit) := goodIn_app (goodIn_of _ (by decide +kernel)) ggX2_step_X2_clampedBit
set_option maxRecDepth 20000 in
theorem ggX2_step_X1_walk : GoodIn wsX2_step wsX1_walk := goodIn_r _ [25, 26, 27, 28, 24, 29, 30, 31, 32, 33, 34, 35, 36, 37, 38, 39, 40, 41, 42, 43, 44, 45, 46, 47, 48, 49, 50, 51, 52, 53, 54, 55, 56, 57, 58, 59, 60, 61, 62, 63, 64, 65, 66, 67, 68, 69, 70, 71, 72, 73, 74, 75, 76, 77, 78, 79, 80, 81, 82, 83, 84, 85, 86, 87, 88, 89, 90, 91, 92, 101, 102, 103, 104, 105, 106, 107, 108, 109, 110, 111, 112, 113, 114, 115, 116, 117, 118, 119, 120] (by decide +kernel) (by decide +kernel)
set_option maxRecDepth 20000 in
theorem gX2_step_X1_walk : GoodIn wsX2_step (wsV RX2 60 RX1 yX1_walk wsX1_walk) := goodIn_app (goodIn_of _ (by decide +kernel)) ggX2_step_X1_walk
theorem dX2_step_0 : decode cX2_step 0 = .ok (.aload_n 0, 1) := by decide +kernel
theorem dX2_step_1 : decode cX2_step 1 = .ok (.getfield 29, 3) := by decide +kernel
theorem dX2_step_4 : decode cX2_step 4 = .ok (.iconst 1, 1) := by decide +kernel
theorem dX2_step_5 : decode cX2_step 5 = .ok (.if_icmp .ne 8, 3) := by decide +kernel
theorem dX2_step_8 : decode cX2_step 8 = .ok (.iload_n 1, 1) := by decide +kernel
theorem dX2_step_9 : decode cX2_step 9 = .ok (.iconst 1, 1) := by decide +kernel
theorem dX2_step_10 : decode cX2_step 10 = .ok (.if_icmp .ge 5, 3) := by decide +kernel
theorem dX2_step_13 : decode cX2_step 13 = .ok (.iconst (-1), 1) := by decide +kernel
theorem dX2_step_14 : decode cX2_step 14 = .ok (.ireturn, 1) := by decide +kernel
theorem dX2_step_15 : decode cX2_step 15 = .ok (.iload_n 1, 1) := by decide +kernel
theorem dX2_step_16 : decode cX2_step 16 = .ok (.sipush 255, 3) := by decide +kernel
theorem dX2_step_19 : decode cX2_step 19 = .ok (.aload_n 0, 1) := by decide +kernel
theorem dX2_step_20 : decode cX2_step 20 = .ok (.getfield 33, 3) := by decide +kernel
theorem dX2_step_23 : decode cX2_step 23 = .ok (.isub, 1) := by decide +kernel
theorem dX2_step_24 : decode cX2_step 24 = .ok (.invokestatic 50, 3) := by decide +kernel
theorem dX2_step_27 : decode cX2_step 27 = .ok (.istore_n 2, 1) := by decide +kernel
theorem dX2_step_28 : decode cX2_step 28 = .ok (.iconst 0, 1) := by decide +kernel
theorem dX2_step_29 : decode cX2_step 29 = .ok (.istore_n 3, 1) := by decide +kernel
theorem dX2_step_30 : decode cX2_step 30 = .ok (.iload_n 3, 1) := by decide +kernel
theorem dX2_step_31 : decode cX2_step 31 = .ok (.iload_n 2, 1) := by decide +kernel
theorem dX2_step_32 : decode cX2_step 32 = .ok (.if_icmp .ge 38, 3) := by decide +kernel
theorem dX2_step_35 : decode cX2_step 35 = .ok (.aload_n 0, 1) := by decide +kernel
theorem dX2_step_36 : decode cX2_step 36 = .ok (.getfield 25, 3) := by decide +kernel
theorem dX2_step_39 : decode cX2_step 39 = .ok (.aload_n 0, 1) := by decide +kernel
theorem dX2_step_40 : decode cX2_step 40 = .ok (.sipush 254, 3) := by decide +kernel
theorem dX2_step_43 : decode cX2_step 43 = .ok (.aload_n 0, 1) := by decide +kernel
theorem dX2_step_44 : decode cX2_step 44 = .ok (.getfield 33, 3) := by decide +kernel
theorem dX2_step_47 : decode cX2_step 47 = .ok (.isub, 1) := by decide +kernel
theorem dX2_step_48 : decode cX2_step 48 = .ok (.invokevirtual 56, 3) := by decide +kernel
theorem dX2_step_51 : decode cX2_step 51 = .ok (.invokevirtual 60, 3) := by decide +kernel
theorem dX2_step_54 : decode cX2_step 54 = .ok (.aload_n 0, 1) := by decide +kernel
theorem dX2_step_55 : decode cX2_step 55 = .ok (.dup, 1) := by decide +kernel
theorem dX2_step_56 : decode cX2_step 56 = .ok (.getfield 33, 3) := by decide +kernel
theorem dX2_step_59 : decode cX2_step 59 = .ok (.iconst 1, 1) := by decide +kernel
theorem dX2_step_60 : decode cX2_step 60 = .ok (.iadd, 1) := by decide +kernel
theorem dX2_step_61 : decode cX2_step 61 = .ok (.putfield 33, 3) := by decide +kernel
theorem dX2_step_64 : decode cX2_step 64 = .ok (.iinc 3 1, 3) := by decide +kernel
theorem dX2_step_67 : decode cX2_step 67 = .ok (.goto (-37), 3) := by decide +kernel
theorem dX2_step_70 : decode cX2_step 70 = .ok (.sipush 255, 3) := by decide +kernel
theorem dX2_step_73 : decode cX2_step 73 = .ok (.aload_n 0, 1) := by decide +kernel
theorem dX2_step_74 : decode cX2_step 74 = .ok (.getfield 33, 3) := by decide +kernel
theorem dX2_step_77 : decode cX2_step 77 = .ok (.isub, 1) := by decide +kernel
theorem dX2_step_78 : decode cX2_step 78 = .ok (.ireturn, 1) := by decide +kernel
set_option maxRecDepth 20000 in
theorem ggX2_finish_X1_writeResult : GoodIn wsX2_finish wsX1_writeResult := goodIn_r _ [10, 11, 12, 13, 14, 15, 16, 17, 18, 19, 20, 21, 22, 23, 24, 25, 26, 27, 28, 29, 30, 31, 32, 33, 34, 35, 36, 37, 38, 39, 40, 41, 42, 43, 44, 45, 46, 47, 48, 49, 50, 51, 52, 53, 54, 55, 56, 57, 58, 59, 60, 61, 62, 63, 64, 65, 74, 75, 76, 77, 78, 79, 80, 81, 82, 83, 84, 85, 86, 87, 88, 89, 90, 91, 92, 93] (by decide +kernel) (by decide +kernel)
set_option maxRecDepth 20000 in
theorem gX2_finish_X1_writeResult : GoodIn wsX2_finish (wsV RX2 64 RX1 yX1_writeResult wsX1_writeResult) := goodIn_app (goodIn_of _ (by decide +kernel)) ggX2_finish_X1_writeResult
theorem dX2_finish_0 : decode cX2_finish 0 = .ok (.aload_n 0, 1) := by decide +kernel
theorem dX2_finish_1 : decode cX2_finish 1 = .ok (.getfield 29, 3) := by decide +kernel
theorem dX2_finish_4 : decode cX2_finish 4 = .ok (.iconst 1, 1) := by decide +kernel
theorem dX2_finish_5 : decode cX2_finish 5 = .ok (.if_icmp .ne 13, 3) := by decide +kernel
theorem dX2_finish_8 : decode cX2_finish 8 = .ok (.aload_n 0, 1) := by decide +kernel
theorem dX2_finish_9 : decode cX2_finish 9 = .ok (.getfield 33, 3) := by decide +kernel
theorem dX2_finish_12 : decode cX2_finish 12 = .ok (.sipush 255, 3) := by decide +kernel
theorem dX2_finish_15 : decode cX2_finish 15 = .ok (.if_icmp .eq 5, 3) := by decide +kernel
theorem dX2_finish_18 : decode cX2_finish 18 = .ok (.iconst 0, 1) := by decide +kernel
theorem dX2_finish_19 : decode cX2_finish 19 = .ok (.ireturn, 1) := by decide +kernel
theorem dX2_finish_20 : decode cX2_finish 20 = .ok (.aload_n 0, 1) := by decide +kernel
theorem dX2_finish_21 : decode cX2_finish 21 = .ok (.getfield 25, 3) := by decide +kernel
theorem dX2_finish_24 : decode cX2_finish 24 = .ok (.aload_n 0, 1) := by decide +kernel
theorem dX2_finish_25 : decode cX2_finish 25 = .ok (.getfield 16, 3) := by decide +kernel
theorem dX2_finish_28 : decode cX2_finish 28 = .ok (.invokevirtual 64, 3) := by decide +kernel
theorem dX2_finish_31 : decode cX2_finish 31 = .ok (.aload_n 0, 1) := by decide +kernel
theorem dX2_finish_32 : decode cX2_finish 32 = .ok (.dup, 1) := by decide +kernel
theorem dX2_finish_33 : decode cX2_finish 33 = .ok (.getfield 36, 3) := by decide +kernel
theorem dX2_finish_36 : decode cX2_finish 36 = .ok (.iconst 1, 1) := by decide +kernel
theorem dX2_finish_37 : decode cX2_finish 37 = .ok (.iadd, 1) := by decide +kernel
theorem dX2_finish_38 : decode cX2_finish 38 = .ok (.putfield 36, 3) := by decide +kernel
theorem dX2_finish_41 : decode cX2_finish 41 = .ok (.aload_n 0, 1) := by decide +kernel
theorem dX2_finish_42 : decode cX2_finish 42 = .ok (.iconst 2, 1) := by decide +kernel
theorem dX2_finish_43 : decode cX2_finish 43 = .ok (.putfield 29, 3) := by decide +kernel
theorem dX2_finish_46 : decode cX2_finish 46 = .ok (.iconst 1, 1) := by decide +kernel
theorem dX2_finish_47 : decode cX2_finish 47 = .ok (.ireturn, 1) := by decide +kernel
theorem dX2_again_0 : decode cX2_again 0 = .ok (.aload_n 0, 1) := by decide +kernel
theorem dX2_again_1 : decode cX2_again 1 = .ok (.getfield 29, 3) := by decide +kernel
theorem dX2_again_4 : decode cX2_again 4 = .ok (.iconst 2, 1) := by decide +kernel
theorem dX2_again_5 : decode cX2_again 5 = .ok (.if_icmp .eq 5, 3) := by decide +kernel
theorem dX2_again_8 : decode cX2_again 8 = .ok (.iconst 0, 1) := by decide +kernel
theorem dX2_again_9 : decode cX2_again 9 = .ok (.ireturn, 1) := by decide +kernel
theorem dX2_again_10 : decode cX2_again 10 = .ok (.aload_n 0, 1) := by decide +kernel
theorem dX2_again_11 : decode cX2_again 11 = .ok (.getfield 16, 3) := by decide +kernel
theorem dX2_again_14 : decode cX2_again 14 = .ok (.iconst 0, 1) := by decide +kernel
theorem dX2_again_15 : decode cX2_again 15 = .ok (.aload_n 0, 1) := by decide +kernel
theorem dX2_again_16 : decode cX2_again 16 = .ok (.getfield 13, 3) := by decide +kernel
theorem dX2_again_19 : decode cX2_again 19 = .ok (.iconst 0, 1) := by decide +kernel
theorem dX2_again_20 : decode cX2_again 20 = .ok (.iconst 4, 1) := by decide +kernel
theorem dX2_again_21 : decode cX2_again 21 = .ok (.invokestatic 67, 3) := by decide +kernel
theorem dX2_again_24 : decode cX2_again 24 = .ok (.aload_n 0, 1) := by decide +kernel
theorem dX2_again_25 : decode cX2_again 25 = .ok (.iconst 0, 1) := by decide +kernel
theorem dX2_again_26 : decode cX2_again 26 = .ok (.putfield 29, 3) := by decide +kernel
theorem dX2_again_29 : decode cX2_again 29 = .ok (.iconst 1, 1) := by decide +kernel
theorem dX2_again_30 : decode cX2_again 30 = .ok (.ireturn, 1) := by decide +kernel
theorem dX2_reset_0 : decode cX2_reset 0 = .ok (.aload_n 0, 1) := by decide +kernel
theorem dX2_reset_1 : decode cX2_reset 1 = .ok (.getfield 29, 3) := by decide +kernel
theorem dX2_reset_4 : decode cX2_reset 4 = .ok (.istore_n 1, 1) := by decide +kernel
theorem dX2_reset_5 : decode cX2_reset 5 = .ok (.aload_n 0, 1) := by decide +kernel
theorem dX2_reset_6 : decode cX2_reset 6 = .ok (.iconst 0, 1) := by decide +kernel
theorem dX2_reset_7 : decode cX2_reset 7 = .ok (.putfield 29, 3) := by decide +kernel
theorem dX2_reset_10 : decode cX2_reset 10 = .ok (.iload_n 1, 1) := by decide +kernel
theorem dX2_reset_11 : decode cX2_reset 11 = .ok (.ireturn, 1) := by decide +kernel
theorem dX2_phase_0 : decode cX2_phase 0 = .ok (.aload_n 0, 1) := by decide +kernel
theorem dX2_phase_1 : decode cX2_phase 1 = .ok (.getfield 29, 3) := by decide +kernel
theorem dX2_phase_4 : decode cX2_phase 4 = .ok (.ireturn, 1) := by decide +kernel
set_option maxRecDepth 20000 in
theorem ggX2_out_X2_isLong : GoodIn wsX2_out wsX2_isLong := goodIn_r _ [6] (by decide +kernel) (by decide +kernel)
set_option maxRecDepth 20000 in
theorem gX2_out_X2_isLong : GoodIn wsX2_out (va_wsS RX2 73 yX2_isLong wsX2_isLong) := goodIn_app (goodIn_of _ (by decide +kernel)) ggX2_out_X2_isLong
theorem dX2_out_0 : decode cX2_out 0 = .ok (.aload_n 0, 1) := by decide +kernel
theorem dX2_out_1 : decode cX2_out 1 = .ok (.getfield 29, 3) := by decide +kernel
theorem dX2_out_4 : decode cX2_out 4 = .ok (.iconst 2, 1) := by decide +kernel
theorem dX2_out_5 : decode cX2_out 5 = .ok (.if_icmp .ne 10, 3) := by decide +kernel
theorem dX2_out_8 : decode cX2_out 8 = .ok (.iload_n 1, 1) := by decide +kernel
theorem dX2_out_9 : decode cX2_out 9 = .ok (.invokestatic 73, 3) := by decide +kernel
theorem dX2_out_12 : decode cX2_out 12 = .ok (.ifCond .ne 5, 3) := by decide +kernel
theorem dX2_out_15 : decode cX2_out 15 = .ok (.lconst 0, 1) := by decide +kernel
theorem dX2_out_16 : decode cX2_out 16 = .ok (.lreturn, 1) := by decide +kernel
theorem dX2_out_17 : decode cX2_out 17 = .ok (.aload_n 0, 1) := by decide +kernel
theorem dX2_out_18 : decode cX2_out 18 = .ok (.getfield 16, 3) := by decide +kernel
theorem dX2_out_21 : decode cX2_out 21 = .ok (.iload_n 1, 1) := by decide +kernel
theorem dX2_out_22 : decode cX2_out 22 = .ok (.laload, 1) := by decide +kernel
theorem dX2_out_23 : decode cX2_out 23 = .ok (.lreturn, 1) := by decide +kernel
set_option maxRecDepth 20000 in
theorem ggX2_part_X1_isPart : GoodIn wsX2_part wsX1_isPart := goodIn_r _ [7] (by decide +kernel) (by decide +kernel)
set_option maxRecDepth 20000 in
theorem gX2_part_X1_isPart : GoodIn wsX2_part (va_wsS RX2 76 yX1_isPart wsX1_isPart) := goodIn_app (goodIn_of _ (by decide +kernel)) ggX2_part_X1_isPart
set_option maxRecDepth 20000 in
theorem ggX2_part_X2_isLong : GoodIn wsX2_part wsX2_isLong := goodIn_r _ [11] (by decide +kernel) (by decide +kernel)
set_option maxRecDepth 20000 in
theorem gX2_part_X2_isLong : GoodIn wsX2_part (va_wsS RX2 73 yX2_isLong wsX2_isLong) := goodIn_app (goodIn_of _ (by decide +kernel)) ggX2_part_X2_isLong
set_option maxRecDepth 20000 in
theorem ggX2_part_X1_writePart : GoodIn wsX2_part wsX1_writePart := goodIn_r _ [15, 16, 17, 18, 19, 6, 20, 21, 22, 23, 24, 25, 26, 27, 28, 29, 30, 31, 32, 33, 34, 35, 36, 37, 38, 39, 40, 41, 42, 43, 44, 45, 46, 47, 48, 49, 50, 51, 52, 53, 54, 63, 64, 65, 66, 67, 68, 69, 70, 71, 72, 73, 74, 75, 76, 77, 78, 79, 80, 81, 82] (by decide +kernel) (by decide +kernel)
set_option maxRecDepth 20000 in
theorem gX2_part_X1_writePart : GoodIn wsX2_part (wsV RX2 79 RX1 yX1_writePart wsX1_writePart) := goodIn_app (goodIn_of _ (by decide +kernel)) ggX2_part_X1_writePart
theorem dX2_part_0 : decode cX2_part 0 = .ok (.aload_n 0, 1) := by decide +kernel
theorem dX2_part_1 : decode cX2_part 1 = .ok (.getfield 29, 3) := by decide +kernel
theorem dX2_part_4 : decode cX2_part 4 = .ok (.ifCond .eq 17, 3) := by decide +kernel
theorem dX2_part_7 : decode cX2_part 7 = .ok (.iload_n 1, 1) := by decide +kernel
theorem dX2_part_8 : decode cX2_part 8 = .ok (.invokestatic 76, 3) := by decide +kernel
theorem dX2_part_11 : decode cX2_part 11 = .ok (.ifCond .eq 10, 3) := by decide +kernel
theorem dX2_part_14 : decode cX2_part 14 = .ok (.iload_n 2, 1) := by decide +kernel
theorem dX2_part_15 : decode cX2_part 15 = .ok (.invokestatic 73, 3) := by decide +kernel
theorem dX2_part_18 : decode cX2_part 18 = .ok (.ifCond .ne 5, 3) := by decide +kernel
theorem dX2_part_21 : decode cX2_part 21 = .ok (.lconst 0, 1) := by decide +kernel
theorem dX2_part_22 : decode cX2_part 22 = .ok (.lreturn, 1) := by decide +kernel
theorem dX2_part_23 : decode cX2_part 23 = .ok (.aload_n 0, 1) := by decide +kernel
theorem dX2_part_24 : decode cX2_part 24 = .ok (.getfield 25, 3) := by decide +kernel
theorem dX2_part_27 : decode cX2_part 27 = .ok (.aload_n 0, 1) := by decide +kernel
theorem dX2_part_28 : decode cX2_part 28 = .ok (.getfield 19, 3) := by decide +kernel
theorem dX2_part_31 : decode cX2_part 31 = .ok (.iload_n 1, 1) := by decide +kernel
theorem dX2_part_32 : decode cX2_part 32 = .ok (.invokevirtual 79, 3) := by decide +kernel
theorem dX2_part_35 : decode cX2_part 35 = .ok (.aload_n 0, 1) := by decide +kernel
theorem dX2_part_36 : decode cX2_part 36 = .ok (.getfield 19, 3) := by decide +kernel
theorem dX2_part_39 : decode cX2_part 39 = .ok (.iload_n 2, 1) := by decide +kernel
theorem dX2_part_40 : decode cX2_part 40 = .ok (.laload, 1) := by decide +kernel
theorem dX2_part_41 : decode cX2_part 41 = .ok (.lreturn, 1) := by decide +kernel
set_option maxRecDepth 20000 in
theorem ggX2_told_X2_isLong : GoodIn wsX2_told wsX2_isLong := goodIn_r _ [7] (by decide +kernel) (by decide +kernel)
set_option maxRecDepth 20000 in
theorem gX2_told_X2_isLong : GoodIn wsX2_told (va_wsS RX2 73 yX2_isLong wsX2_isLong) := goodIn_app (goodIn_of _ (by decide +kernel)) ggX2_told_X2_isLong
set_option maxRecDepth 20000 in
theorem ggX2_told_X2_clampedLong : GoodIn wsX2_told wsX2_clampedLong := goodIn_r _ [11, 1, 12, 13, 14, 31, 32, 33, 34, 35, 36, 37, 38] (by decide +kernel) (by decide +kernel)
set_option maxRecDepth 20000 in
theorem gX2_told_X2_clampedLong : GoodIn wsX2_told (wsV RX2 83 RX2 yX2_clampedLong wsX2_clampedLong) := goodIn_app (goodIn_of _ (by decide +kernel)) ggX2_told_X2_clampedLong
set_option maxRecDepth 20000 in
theorem ggX2_told_X2_writeU : GoodIn wsX2_told wsX2_writeU := goodIn_r _ [18, 2, 19, 20, 21, 22, 13, 23, 24, 25, 26, 27, 28, 29, 30, 31, 32, 33, 34, 35, 36, 37, 38] (by decide +kernel) (by decide +kernel)
set_option maxRecDepth 20000 in
theorem gX2_told_X2_writeU : GoodIn wsX2_told (wsV RX2 43 RX2 yX2_writeU wsX2_writeU) := goodIn_app (goodIn_of _ (by decide +kernel)) ggX2_told_X2_writeU
theorem dX2_told_0 : decode cX2_told 0 = .ok (.iload_n 2, 1) := by decide +kernel
theorem dX2_told_1 : decode cX2_told 1 = .ok (.invokestatic 73, 3) := by decide +kernel
theorem dX2_told_4 : decode cX2_told 4 = .ok (.ifCond .ne 5, 3) := by decide +kernel
theorem dX2_told_7 : decode cX2_told 7 = .ok (.lconst 0, 1) := by decide +kernel
theorem dX2_told_8 : decode cX2_told 8 = .ok (.lreturn, 1) := by decide +kernel
theorem dX2_told_9 : decode cX2_told 9 = .ok (.iload_n 1, 1) := by decide +kernel
theorem dX2_told_10 : decode cX2_told 10 = .ok (.tableswitch 65 0 3 #[30, 37, 44, 50], 30) := by decide +kernel
theorem dX2_told_40 : decode cX2_told 40 = .ok (.aload_n 0, 1) := by decide +kernel
theorem dX2_told_41 : decode cX2_told 41 = .ok (.getfield 9, 3) := by decide +kernel
theorem dX2_told_44 : decode cX2_told 44 = .ok (.iload_n 2, 1) := by decide +kernel
theorem dX2_told_45 : decode cX2_told 45 = .ok (.laload, 1) := by decide +kernel
theorem dX2_told_46 : decode cX2_told 46 = .ok (.lreturn, 1) := by decide +kernel
theorem dX2_told_47 : decode cX2_told 47 = .ok (.aload_n 0, 1) := by decide +kernel
theorem dX2_told_48 : decode cX2_told 48 = .ok (.getfield 13, 3) := by decide +kernel
theorem dX2_told_51 : decode cX2_told 51 = .ok (.iload_n 2, 1) := by decide +kernel
theorem dX2_told_52 : decode cX2_told 52 = .ok (.laload, 1) := by decide +kernel
theorem dX2_told_53 : decode cX2_told 53 = .ok (.lreturn, 1) := by decide +kernel
theorem dX2_told_54 : decode cX2_told 54 = .ok (.aload_n 0, 1) := by decide +kernel
theorem dX2_told_55 : decode cX2_told 55 = .ok (.iload_n 2, 1) := by decide +kernel
theorem dX2_told_56 : decode cX2_told 56 = .ok (.invokevirtual 83, 3) := by decide +kernel
theorem dX2_told_59 : decode cX2_told 59 = .ok (.lreturn, 1) := by decide +kernel
theorem dX2_told_60 : decode cX2_told 60 = .ok (.aload_n 0, 1) := by decide +kernel
theorem dX2_told_61 : decode cX2_told 61 = .ok (.aload_n 0, 1) := by decide +kernel
theorem dX2_told_62 : decode cX2_told 62 = .ok (.getfield 19, 3) := by decide +kernel
theorem dX2_told_65 : decode cX2_told 65 = .ok (.invokevirtual 43, 3) := by decide +kernel
theorem dX2_told_68 : decode cX2_told 68 = .ok (.aload_n 0, 1) := by decide +kernel
theorem dX2_told_69 : decode cX2_told 69 = .ok (.getfield 19, 3) := by decide +kernel
theorem dX2_told_72 : decode cX2_told 72 = .ok (.iload_n 2, 1) := by decide +kernel
theorem dX2_told_73 : decode cX2_told 73 = .ok (.laload, 1) := by decide +kernel
theorem dX2_told_74 : decode cX2_told 74 = .ok (.lreturn, 1) := by decide +kernel
theorem dX2_told_75 : decode cX2_told 75 = .ok (.lconst 0, 1) := by decide +kernel
theorem dX2_told_76 : decode cX2_told 76 = .ok (.lreturn, 1) := by decide +kernel
theorem dX2_count_0 : decode cX2_count 0 = .ok (.iload_n 1, 1) := by decide +kernel
theorem dX2_count_1 : decode cX2_count 1 = .ok (.lookupswitch 48 #[(0, 27), (1, 43)], 27) := by decide +kernel
theorem dX2_count_28 : decode cX2_count 28 = .ok (.aload_n 0, 1) := by decide +kernel
theorem dX2_count_29 : decode cX2_count 29 = .ok (.getfield 29, 3) := by decide +kernel
theorem dX2_count_32 : decode cX2_count 32 = .ok (.ifCond .ne 7, 3) := by decide +kernel
theorem dX2_count_35 : decode cX2_count 35 = .ok (.iconst 0, 1) := by decide +kernel
theorem dX2_count_36 : decode cX2_count 36 = .ok (.goto 7, 3) := by decide +kernel
theorem dX2_count_39 : decode cX2_count 39 = .ok (.aload_n 0, 1) := by decide +kernel
theorem dX2_count_40 : decode cX2_count 40 = .ok (.getfield 33, 3) := by decide +kernel
theorem dX2_count_43 : decode cX2_count 43 = .ok (.ireturn, 1) := by decide +kernel
theorem dX2_count_44 : decode cX2_count 44 = .ok (.aload_n 0, 1) := by decide +kernel
theorem dX2_count_45 : decode cX2_count 45 = .ok (.getfield 36, 3) := by decide +kernel
theorem dX2_count_48 : decode cX2_count 48 = .ok (.ireturn, 1) := by decide +kernel
theorem dX2_count_49 : decode cX2_count 49 = .ok (.iconst (-1), 1) := by decide +kernel
theorem dX2_count_50 : decode cX2_count 50 = .ok (.ireturn, 1) := by decide +kernel
set_option maxRecDepth 20000 in
theorem ggX2_check_X1_agreesWith : GoodIn wsX2_check wsX1_agreesWith := goodIn_r _ [8, 9, 10, 11, 12, 13, 14, 15, 16, 17, 18, 19, 20, 21, 22, 23, 24, 25, 26, 27, 28, 29, 30, 31, 32, 33, 34, 35, 36, 37, 38, 39, 40, 41, 42, 43, 44, 45, 7, 46, 47, 48, 49, 50, 51, 52, 53, 54, 55, 56, 57, 58, 59, 60, 61, 62, 63, 64, 65, 66, 67, 68, 69, 78, 79, 80, 81, 82, 83, 84, 85, 86, 87, 88, 89, 90, 91, 92, 93, 94, 95, 96, 97] (by decide +kernel) (by decide +kernel)
set_option maxRecDepth 20000 in
theorem gX2_check_X1_agreesWith : GoodIn wsX2_check (wsV RX2 87 RX1 yX1_agreesWith wsX1_agreesWith) := goodIn_app (goodIn_of _ (by decide +kernel)) ggX2_check_X1_agreesWith
theorem dX2_check_0 : decode cX2_check 0 = .ok (.aload_n 0, 1) := by decide +kernel
theorem dX2_check_1 : decode cX2_check 1 = .ok (.getfield 29, 3) := by decide +kernel
theorem dX2_check_4 : decode cX2_check 4 = .ok (.iconst 2, 1) := by decide +kernel
theorem dX2_check_5 : decode cX2_check 5 = .ok (.if_icmp .eq 5, 3) := by decide +kernel
theorem dX2_check_8 : decode cX2_check 8 = .ok (.iconst 1, 1) := by decide +kernel
theorem dX2_check_9 : decode cX2_check 9 = .ok (.ireturn, 1) := by decide +kernel
theorem dX2_check_10 : decode cX2_check 10 = .ok (.aload_n 0, 1) := by decide +kernel
theorem dX2_check_11 : decode cX2_check 11 = .ok (.getfield 25, 3) := by decide +kernel
theorem dX2_check_14 : decode cX2_check 14 = .ok (.aload_n 0, 1) := by decide +kernel
theorem dX2_check_15 : decode cX2_check 15 = .ok (.getfield 16, 3) := by decide +kernel
theorem dX2_check_18 : decode cX2_check 18 = .ok (.invokevirtual 87, 3) := by decide +kernel
theorem dX2_check_21 : decode cX2_check 21 = .ok (.ifCond .eq 7, 3) := by decide +kernel
theorem dX2_check_24 : decode cX2_check 24 = .ok (.iconst 1, 1) := by decide +kernel
theorem dX2_check_25 : decode cX2_check 25 = .ok (.goto 4, 3) := by decide +kernel
theorem dX2_check_28 : decode cX2_check 28 = .ok (.iconst 0, 1) := by decide +kernel
theorem dX2_check_29 : decode cX2_check 29 = .ok (.ireturn, 1) := by decide +kernel
set_option maxRecDepth 20000 in
theorem ggX2_tell_X2_isLong : GoodIn wsX2_tell wsX2_isLong := goodIn_r _ [5] (by decide +kernel) (by decide +kernel)
set_option maxRecDepth 20000 in
theorem gX2_tell_X2_isLong : GoodIn wsX2_tell (va_wsS RX2 73 yX2_isLong wsX2_isLong) := goodIn_app (goodIn_of _ (by decide +kernel)) ggX2_tell_X2_isLong
theorem dX2_tell_0 : decode cX2_tell 0 = .ok (.aload_n 0, 1) := by decide +kernel
theorem dX2_tell_1 : decode cX2_tell 1 = .ok (.getfield 29, 3) := by decide +kernel
theorem dX2_tell_4 : decode cX2_tell 4 = .ok (.ifCond .ne 10, 3) := by decide +kernel
theorem dX2_tell_7 : decode cX2_tell 7 = .ok (.iload_n 2, 1) := by decide +kernel
theorem dX2_tell_8 : decode cX2_tell 8 = .ok (.invokestatic 73, 3) := by decide +kernel
theorem dX2_tell_11 : decode cX2_tell 11 = .ok (.ifCond .ne 5, 3) := by decide +kernel
theorem dX2_tell_14 : decode cX2_tell 14 = .ok (.iconst 0, 1) := by decide +kernel
theorem dX2_tell_15 : decode cX2_tell 15 = .ok (.ireturn, 1) := by decide +kernel
theorem dX2_tell_16 : decode cX2_tell 16 = .ok (.aload_n 1, 1) := by decide +kernel
theorem dX2_tell_17 : decode cX2_tell 17 = .ok (.iload_n 2, 1) := by decide +kernel
theorem dX2_tell_18 : decode cX2_tell 18 = .ok (.lload_n 3, 1) := by decide +kernel
theorem dX2_tell_19 : decode cX2_tell 19 = .ok (.lastore, 1) := by decide +kernel
theorem dX2_tell_20 : decode cX2_tell 20 = .ok (.iconst 1, 1) := by decide +kernel
theorem dX2_tell_21 : decode cX2_tell 21 = .ok (.ireturn, 1) := by decide +kernel
theorem dX2_isLong_0 : decode cX2_isLong 0 = .ok (.iload_n 0, 1) := by decide +kernel
theorem dX2_isLong_1 : decode cX2_isLong 1 = .ok (.ifCond .lt 12, 3) := by decide +kernel
theorem dX2_isLong_4 : decode cX2_isLong 4 = .ok (.iload_n 0, 1) := by decide +kernel
theorem dX2_isLong_5 : decode cX2_isLong 5 = .ok (.iconst 4, 1) := by decide +kernel
theorem dX2_isLong_6 : decode cX2_isLong 6 = .ok (.if_icmp .ge 7, 3) := by decide +kernel
theorem dX2_isLong_9 : decode cX2_isLong 9 = .ok (.iconst 1, 1) := by decide +kernel
theorem dX2_isLong_10 : decode cX2_isLong 10 = .ok (.goto 4, 3) := by decide +kernel
theorem dX2_isLong_13 : decode cX2_isLong 13 = .ok (.iconst 0, 1) := by decide +kernel
theorem dX2_isLong_14 : decode cX2_isLong 14 = .ok (.ireturn, 1) := by decide +kernel
theorem dX2_clampedLong_0 : decode cX2_clampedLong 0 = .ok (.aload_n 0, 1) := by decide +kernel
theorem dX2_clampedLong_1 : decode cX2_clampedLong 1 = .ok (.getfield 9, 3) := by decide +kernel
theorem dX2_clampedLong_4 : decode cX2_clampedLong 4 = .ok (.iload_n 1, 1) := by decide +kernel
theorem dX2_clampedLong_5 : decode cX2_clampedLong 5 = .ok (.laload, 1) := by decide +kernel
theorem dX2_clampedLong_6 : decode cX2_clampedLong 6 = .ok (.lstore_n 2, 1) := by decide +kernel
theorem dX2_clampedLong_7 : decode cX2_clampedLong 7 = .ok (.iload_n 1, 1) := by decide +kernel
theorem dX2_clampedLong_8 : decode cX2_clampedLong 8 = .ok (.ifCond .ne 9, 3) := by decide +kernel
theorem dX2_clampedLong_11 : decode cX2_clampedLong 11 = .ok (.lload_n 2, 1) := by decide +kernel
theorem dX2_clampedLong_12 : decode cX2_clampedLong 12 = .ok (.ldc2_w 91, 3) := by decide +kernel
theorem dX2_clampedLong_15 : decode cX2_clampedLong 15 = .ok (.land, 1) := by decide +kernel
theorem dX2_clampedLong_16 : decode cX2_clampedLong 16 = .ok (.lreturn, 1) := by decide +kernel
theorem dX2_clampedLong_17 : decode cX2_clampedLong 17 = .ok (.iload_n 1, 1) := by decide +kernel
theorem dX2_clampedLong_18 : decode cX2_clampedLong 18 = .ok (.iconst 3, 1) := by decide +kernel
theorem dX2_clampedLong_19 : decode cX2_clampedLong 19 = .ok (.if_icmp .ne 13, 3) := by decide +kernel
theorem dX2_clampedLong_22 : decode cX2_clampedLong 22 = .ok (.lload_n 2, 1) := by decide +kernel
theorem dX2_clampedLong_23 : decode cX2_clampedLong 23 = .ok (.ldc2_w 93, 3) := by decide +kernel
theorem dX2_clampedLong_26 : decode cX2_clampedLong 26 = .ok (.land, 1) := by decide +kernel
theorem dX2_clampedLong_27 : decode cX2_clampedLong 27 = .ok (.ldc2_w 95, 3) := by decide +kernel
theorem dX2_clampedLong_30 : decode cX2_clampedLong 30 = .ok (.lor, 1) := by decide +kernel
theorem dX2_clampedLong_31 : decode cX2_clampedLong 31 = .ok (.lreturn, 1) := by decide +kernel
theorem dX2_clampedLong_32 : decode cX2_clampedLong 32 = .ok (.lload_n 2, 1) := by decide +kernel
theorem dX2_clampedLong_33 : decode cX2_clampedLong 33 = .ok (.lreturn, 1) := by decide +kernel
set_option maxRecDepth 20000 in
theorem ggX2_clampedBit_X2_clampedLong : GoodIn wsX2_clampedBit wsX2_clampedLong := goodIn_r _ [5, 6, 7, 8, 9, 10, 11, 12, 13, 14, 15, 16, 17] (by decide +kernel) (by decide +kernel)
set_option maxRecDepth 20000 in
theorem gX2_clampedBit_X2_clampedLong : GoodIn wsX2_clampedBit (wsV RX2 83 RX2 yX2_clampedLong wsX2_clampedLong) := goodIn_app (goodIn_of _ (by decide +kernel)) ggX2_clampedBit_X2_clampedLong
theorem dX2_clampedBit_0 : decode cX2_clampedBit 0 = .ok (.aload_n 0, 1) := by decide +kernel
theorem dX2_clampedBit_1 : decode cX2_clampedBit 1 = .ok (.iload_n 1, 1) := by decide +kernel
theorem dX2_clampedBit_2 : decode cX2_clampedBit 2 = .ok (.bipush 6, 2) := by decide +kernel
theorem dX2_clampedBit_4 : decode cX2_clampedBit 4 = .ok (.ishr, 1) := by decide +kernel
theorem dX2_clampedBit_5 : decode cX2_clampedBit 5 = .ok (.invokevirtual 83, 3) := by decide +kernel
theorem dX2_clampedBit_8 : decode cX2_clampedBit 8 = .ok (.iload_n 1, 1) := by decide +kernel
theorem dX2_clampedBit_9 : decode cX2_clampedBit 9 = .ok (.bipush 63, 2) := by decide +kernel
theorem dX2_clampedBit_11 : decode cX2_clampedBit 11 = .ok (.iand, 1) := by decide +kernel
theorem dX2_clampedBit_12 : decode cX2_clampedBit 12 = .ok (.lushr, 1) := by decide +kernel
theorem dX2_clampedBit_13 : decode cX2_clampedBit 13 = .ok (.lconst 1, 1) := by decide +kernel
theorem dX2_clampedBit_14 : decode cX2_clampedBit 14 = .ok (.land, 1) := by decide +kernel
theorem dX2_clampedBit_15 : decode cX2_clampedBit 15 = .ok (.lconst 0, 1) := by decide +kernel
theorem dX2_clampedBit_16 : decode cX2_clampedBit 16 = .ok (.lcmp, 1) := by decide +kernel
theorem dX2_clampedBit_17 : decode cX2_clampedBit 17 = .ok (.ifCond .eq 7, 3) := by decide +kernel
theorem dX2_clampedBit_20 : decode cX2_clampedBit 20 = .ok (.iconst 1, 1) := by decide +kernel
theorem dX2_clampedBit_21 : decode cX2_clampedBit 21 = .ok (.goto 4, 3) := by decide +kernel
theorem dX2_clampedBit_24 : decode cX2_clampedBit 24 = .ok (.iconst 0, 1) := by decide +kernel
theorem dX2_clampedBit_25 : decode cX2_clampedBit 25 = .ok (.ireturn, 1) := by decide +kernel
set_option maxRecDepth 20000 in
theorem ggX2_writeU_X0_takeRest : GoodIn wsX2_writeU wsX0_takeRest := goodIn_r _ [10, 11, 12, 13, 14] (by decide +kernel) (by decide +kernel)
set_option maxRecDepth 20000 in
theorem gX2_writeU_X0_takeRest : GoodIn wsX2_writeU (va_wsS RX2 97 yX0_takeRest wsX0_takeRest) := goodIn_app (goodIn_of _ (by decide +kernel)) ggX2_writeU_X0_takeRest
theorem dX2_writeU_0 : decode cX2_writeU 0 = .ok (.aload_n 0, 1) := by decide +kernel
theorem dX2_writeU_1 : decode cX2_writeU 1 = .ok (.getfield 13, 3) := by decide +kernel
theorem dX2_writeU_4 : decode cX2_writeU 4 = .ok (.iconst 0, 1) := by decide +kernel
theorem dX2_writeU_5 : decode cX2_writeU 5 = .ok (.aload_n 1, 1) := by decide +kernel
theorem dX2_writeU_6 : decode cX2_writeU 6 = .ok (.iconst 0, 1) := by decide +kernel
theorem dX2_writeU_7 : decode cX2_writeU 7 = .ok (.iconst 4, 1) := by decide +kernel
theorem dX2_writeU_8 : decode cX2_writeU 8 = .ok (.invokestatic 67, 3) := by decide +kernel
theorem dX2_writeU_11 : decode cX2_writeU 11 = .ok (.aload_n 1, 1) := by decide +kernel
theorem dX2_writeU_12 : decode cX2_writeU 12 = .ok (.iconst 3, 1) := by decide +kernel
theorem dX2_writeU_13 : decode cX2_writeU 13 = .ok (.dup2, 1) := by decide +kernel
theorem dX2_writeU_14 : decode cX2_writeU 14 = .ok (.laload, 1) := by decide +kernel
theorem dX2_writeU_15 : decode cX2_writeU 15 = .ok (.ldc2_w 93, 3) := by decide +kernel
theorem dX2_writeU_18 : decode cX2_writeU 18 = .ok (.land, 1) := by decide +kernel
theorem dX2_writeU_19 : decode cX2_writeU 19 = .ok (.lastore, 1) := by decide +kernel
theorem dX2_writeU_20 : decode cX2_writeU 20 = .ok (.aload_n 1, 1) := by decide +kernel
theorem dX2_writeU_21 : decode cX2_writeU 21 = .ok (.invokestatic 97, 3) := by decide +kernel
theorem dX2_writeU_24 : decode cX2_writeU 24 = .ok (.return_, 1) := by decide +kernel
theorem dX3_init_0 : decode cX3_init 0 = .ok (.aload_n 0, 1) := by decide +kernel
theorem dX3_init_1 : decode cX3_init 1 = .ok (.invokespecial 1, 3) := by decide +kernel
theorem dX3_init_4 : decode cX3_init 4 = .ok (.aload_n 0, 1) := by decide +kernel
theorem dX3_init_5 : decode cX3_init 5 = .ok (.iconst 4, 1) := by decide +kernel
theorem dX3_init_6 : decode cX3_init 6 = .ok (.newarray .long, 2) := by decide +kernel
theorem dX3_init_8 : decode cX3_init 8 = .ok (.putfield 7, 3) := by decide +kernel
theorem dX3_init_11 : decode cX3_init 11 = .ok (.aload_n 0, 1) := by decide +kernel
theorem dX3_init_12 : decode cX3_init 12 = .ok (.iconst 4, 1) := by decide +kernel
theorem dX3_init_13 : decode cX3_init 13 = .ok (.newarray .long, 2) := by decide +kernel
theorem dX3_init_15 : decode cX3_init 15 = .ok (.putfield 13, 3) := by decide +kernel
theorem dX3_init_18 : decode cX3_init 18 = .ok (.aload_n 0, 1) := by decide +kernel
theorem dX3_init_19 : decode cX3_init 19 = .ok (.sipush 208, 3) := by decide +kernel
theorem dX3_init_22 : decode cX3_init 22 = .ok (.newarray .int, 2) := by decide +kernel
theorem dX3_init_24 : decode cX3_init 24 = .ok (.putfield 16, 3) := by decide +kernel
theorem dX3_init_27 : decode cX3_init 27 = .ok (.aload_n 0, 1) := by decide +kernel
theorem dX3_init_28 : decode cX3_init 28 = .ok (.bipush 32, 2) := by decide +kernel
theorem dX3_init_30 : decode cX3_init 30 = .ok (.newarray .long, 2) := by decide +kernel
theorem dX3_init_32 : decode cX3_init 32 = .ok (.putfield 20, 3) := by decide +kernel
theorem dX3_init_35 : decode cX3_init 35 = .ok (.return_, 1) := by decide +kernel
theorem dX3_setSmall_0 : decode cX3_setSmall 0 = .ok (.iconst 0, 1) := by decide +kernel
theorem dX3_setSmall_1 : decode cX3_setSmall 1 = .ok (.istore_n 3, 1) := by decide +kernel
theorem dX3_setSmall_2 : decode cX3_setSmall 2 = .ok (.iload_n 3, 1) := by decide +kernel
theorem dX3_setSmall_3 : decode cX3_setSmall 3 = .ok (.bipush 16, 2) := by decide +kernel
theorem dX3_setSmall_5 : decode cX3_setSmall 5 = .ok (.if_icmp .ge 29, 3) := by decide +kernel
theorem dX3_setSmall_8 : decode cX3_setSmall 8 = .ok (.aload_n 0, 1) := by decide +kernel
theorem dX3_setSmall_9 : decode cX3_setSmall 9 = .ok (.getfield 16, 3) := by decide +kernel
theorem dX3_setSmall_12 : decode cX3_setSmall 12 = .ok (.bipush 16, 2) := by decide +kernel
theorem dX3_setSmall_14 : decode cX3_setSmall 14 = .ok (.iload_n 1, 1) := by decide +kernel
theorem dX3_setSmall_15 : decode cX3_setSmall 15 = .ok (.imul, 1) := by decide +kernel
theorem dX3_setSmall_16 : decode cX3_setSmall 16 = .ok (.iload_n 3, 1) := by decide +kernel
theorem dX3_setSmall_17 : decode cX3_setSmall 17 = .ok (.iadd, 1) := by decide +kernel
theorem dX3_setSmall_18 : decode cX3_setSmall 18 = .ok (.iload_n 3, 1) := by decide +kernel
theorem dX3_setSmall_19 : decode cX3_setSmall 19 = .ok (.ifCond .ne 7, 3) := by decide +kernel
theorem dX3_setSmall_22 : decode cX3_setSmall 22 = .ok (.iload_n 2, 1) := by decide +kernel
theorem dX3_setSmall_23 : decode cX3_setSmall 23 = .ok (.goto 4, 3) := by decide +kernel
theorem dX3_setSmall_26 : decode cX3_setSmall 26 = .ok (.iconst 0, 1) := by decide +kernel
theorem dX3_setSmall_27 : decode cX3_setSmall 27 = .ok (.iastore, 1) := by decide +kernel
theorem dX3_setSmall_28 : decode cX3_setSmall 28 = .ok (.iinc 3 1, 3) := by decide +kernel
theorem dX3_setSmall_31 : decode cX3_setSmall 31 = .ok (.goto (-29), 3) := by decide +kernel
theorem dX3_setSmall_34 : decode cX3_setSmall 34 = .ok (.return_, 1) := by decide +kernel
theorem dX3_copy_0 : decode cX3_copy 0 = .ok (.iconst 0, 1) := by decide +kernel
theorem dX3_copy_1 : decode cX3_copy 1 = .ok (.istore_n 3, 1) := by decide +kernel
theorem dX3_copy_2 : decode cX3_copy 2 = .ok (.iload_n 3, 1) := by decide +kernel
theorem dX3_copy_3 : decode cX3_copy 3 = .ok (.bipush 16, 2) := by decide +kernel
theorem dX3_copy_5 : decode cX3_copy 5 = .ok (.if_icmp .ge 31, 3) := by decide +kernel
theorem dX3_copy_8 : decode cX3_copy 8 = .ok (.aload_n 0, 1) := by decide +kernel
theorem dX3_copy_9 : decode cX3_copy 9 = .ok (.getfield 16, 3) := by decide +kernel
theorem dX3_copy_12 : decode cX3_copy 12 = .ok (.bipush 16, 2) := by decide +kernel
theorem dX3_copy_14 : decode cX3_copy 14 = .ok (.iload_n 1, 1) := by decide +kernel
theorem dX3_copy_15 : decode cX3_copy 15 = .ok (.imul, 1) := by decide +kernel
theorem dX3_copy_16 : decode cX3_copy 16 = .ok (.iload_n 3, 1) := by decide +kernel
theorem dX3_copy_17 : decode cX3_copy 17 = .ok (.iadd, 1) := by decide +kernel
theorem dX3_copy_18 : decode cX3_copy 18 = .ok (.aload_n 0, 1) := by decide +kernel
theorem dX3_copy_19 : decode cX3_copy 19 = .ok (.getfield 16, 3) := by decide +kernel
theorem dX3_copy_22 : decode cX3_copy 22 = .ok (.bipush 16, 2) := by decide +kernel
theorem dX3_copy_24 : decode cX3_copy 24 = .ok (.iload_n 2, 1) := by decide +kernel
theorem dX3_copy_25 : decode cX3_copy 25 = .ok (.imul, 1) := by decide +kernel
theorem dX3_copy_26 : decode cX3_copy 26 = .ok (.iload_n 3, 1) := by decide +kernel
theorem dX3_copy_27 : decode cX3_copy 27 = .ok (.iadd, 1) := by decide +kernel
theorem dX3_copy_28 : decode cX3_copy 28 = .ok (.iaload, 1) := by decide +kernel
theorem dX3_copy_29 : decode cX3_copy 29 = .ok (.iastore, 1) := by decide +kernel
theorem dX3_copy_30 : decode cX3_copy 30 = .ok (.iinc 3 1, 3) := by decide +kernel
theorem dX3_copy_33 : decode cX3_copy 33 = .ok (.goto (-31), 3) := by decide +kernel
theorem dX3_copy_36 : decode cX3_copy 36 = .ok (.return_, 1) := by decide +kernel
set_option maxRecDepth 20000 in
theorem ggX3_swap_X3_copy : GoodIn wsX3_swap wsX3_copy := goodIn_r _ [5, 6, 7, 8, 9, 10, 11, 12, 13] (by decide +kernel) (by decide +kernel)
set_option maxRecDepth 20000 in
theorem gX3_swap_X3_copy : GoodIn wsX3_swap (wsV RX3 23 RX3 yX3_copy wsX3_copy) := goodIn_app (goodIn_of _ (by decide +kernel)) ggX3_swap_X3_copy
theorem dX3_swap_0 : decode cX3_swap 0 = .ok (.aload_n 0, 1) := by decide +kernel
theorem dX3_swap_1 : decode cX3_swap 1 = .ok (.bipush 12, 2) := by decide +kernel
theorem dX3_swap_3 : decode cX3_swap 3 = .ok (.iload_n 1, 1) := by decide +kernel
theorem dX3_swap_4 : decode cX3_swap 4 = .ok (.invokevirtual 23, 3) := by decide +kernel
theorem dX3_swap_7 : decode cX3_swap 7 = .ok (.aload_n 0, 1) := by decide +kernel
theorem dX3_swap_8 : decode cX3_swap 8 = .ok (.iload_n 1, 1) := by decide +kernel
theorem dX3_swap_9 : decode cX3_swap 9 = .ok (.iload_n 2, 1) := by decide +kernel
theorem dX3_swap_10 : decode cX3_swap 10 = .ok (.invokevirtual 23, 3) := by decide +kernel
theorem dX3_swap_13 : decode cX3_swap 13 = .ok (.aload_n 0, 1) := by decide +kernel
theorem dX3_swap_14 : decode cX3_swap 14 = .ok (.iload_n 2, 1) := by decide +kernel
theorem dX3_swap_15 : decode cX3_swap 15 = .ok (.bipush 12, 2) := by decide +kernel
theorem dX3_swap_17 : decode cX3_swap 17 = .ok (.invokevirtual 23, 3) := by decide +kernel
theorem dX3_swap_20 : decode cX3_swap 20 = .ok (.return_, 1) := by decide +kernel
theorem dX3_ofP_0 : decode cX3_ofP 0 = .ok (.iload_n 0, 1) := by decide +kernel
theorem dX3_ofP_1 : decode cX3_ofP 1 = .ok (.ifCond .ne 8, 3) := by decide +kernel
theorem dX3_ofP_4 : decode cX3_ofP 4 = .ok (.ldc 27, 2) := by decide +kernel
theorem dX3_ofP_6 : decode cX3_ofP 6 = .ok (.goto 17, 3) := by decide +kernel
theorem dX3_ofP_9 : decode cX3_ofP 9 = .ok (.iload_n 0, 1) := by decide +kernel
theorem dX3_ofP_10 : decode cX3_ofP 10 = .ok (.bipush 15, 2) := by decide +kernel
theorem dX3_ofP_12 : decode cX3_ofP 12 = .ok (.if_icmp .ne 9, 3) := by decide +kernel
theorem dX3_ofP_15 : decode cX3_ofP 15 = .ok (.sipush 32767, 3) := by decide +kernel
theorem dX3_ofP_18 : decode cX3_ofP 18 = .ok (.goto 5, 3) := by decide +kernel
theorem dX3_ofP_21 : decode cX3_ofP 21 = .ok (.ldc 28, 2) := by decide +kernel
theorem dX3_ofP_23 : decode cX3_ofP 23 = .ok (.ireturn, 1) := by decide +kernel
set_option maxRecDepth 20000 in
theorem ggX3_isGreat_X3_ofP : GoodIn wsX3_isGreat wsX3_ofP := goodIn_r _ [5, 6, 7] (by decide +kernel) (by decide +kernel)
set_option maxRecDepth 20000 in
theorem gX3_isGreat_X3_ofP : GoodIn wsX3_isGreat (va_wsS RX3 29 yX3_ofP wsX3_ofP) := goodIn_app (goodIn_of _ (by decide +kernel)) ggX3_isGreat_X3_ofP
theorem dX3_isGreat_0 : decode cX3_isGreat 0 = .ok (.bipush 15, 2) := by decide +kernel
theorem dX3_isGreat_2 : decode cX3_isGreat 2 = .ok (.istore_n 1, 1) := by decide +kernel
theorem dX3_isGreat_3 : decode cX3_isGreat 3 = .ok (.iload_n 1, 1) := by decide +kernel
theorem dX3_isGreat_4 : decode cX3_isGreat 4 = .ok (.ifCond .lt 45, 3) := by decide +kernel
theorem dX3_isGreat_7 : decode cX3_isGreat 7 = .ok (.aload_n 0, 1) := by decide +kernel
theorem dX3_isGreat_8 : decode cX3_isGreat 8 = .ok (.getfield 20, 3) := by decide +kernel
theorem dX3_isGreat_11 : decode cX3_isGreat 11 = .ok (.iload_n 1, 1) := by decide +kernel
theorem dX3_isGreat_12 : decode cX3_isGreat 12 = .ok (.laload, 1) := by decide +kernel
theorem dX3_isGreat_13 : decode cX3_isGreat 13 = .ok (.iload_n 1, 1) := by decide +kernel
theorem dX3_isGreat_14 : decode cX3_isGreat 14 = .ok (.invokestatic 29, 3) := by decide +kernel
theorem dX3_isGreat_17 : decode cX3_isGreat 17 = .ok (.i2l, 1) := by decide +kernel
theorem dX3_isGreat_18 : decode cX3_isGreat 18 = .ok (.lcmp, 1) := by decide +kernel
theorem dX3_isGreat_19 : decode cX3_isGreat 19 = .ok (.ifCond .eq 24, 3) := by decide +kernel
theorem dX3_isGreat_22 : decode cX3_isGreat 22 = .ok (.aload_n 0, 1) := by decide +kernel
theorem dX3_isGreat_23 : decode cX3_isGreat 23 = .ok (.getfield 20, 3) := by decide +kernel
theorem dX3_isGreat_26 : decode cX3_isGreat 26 = .ok (.iload_n 1, 1) := by decide +kernel
theorem dX3_isGreat_27 : decode cX3_isGreat 27 = .ok (.laload, 1) := by decide +kernel
theorem dX3_isGreat_28 : decode cX3_isGreat 28 = .ok (.iload_n 1, 1) := by decide +kernel
theorem dX3_isGreat_29 : decode cX3_isGreat 29 = .ok (.invokestatic 29, 3) := by decide +kernel
theorem dX3_isGreat_32 : decode cX3_isGreat 32 = .ok (.i2l, 1) := by decide +kernel
theorem dX3_isGreat_33 : decode cX3_isGreat 33 = .ok (.lcmp, 1) := by decide +kernel
theorem dX3_isGreat_34 : decode cX3_isGreat 34 = .ok (.ifCond .le 7, 3) := by decide +kernel
theorem dX3_isGreat_37 : decode cX3_isGreat 37 = .ok (.iconst 1, 1) := by decide +kernel
theorem dX3_isGreat_38 : decode cX3_isGreat 38 = .ok (.goto 4, 3) := by decide +kernel
theorem dX3_isGreat_41 : decode cX3_isGreat 41 = .ok (.iconst 0, 1) := by decide +kernel
theorem dX3_isGreat_42 : decode cX3_isGreat 42 = .ok (.ireturn, 1) := by decide +kernel
theorem dX3_isGreat_43 : decode cX3_isGreat 43 = .ok (.iinc 1 (-1), 3) := by decide +kernel
theorem dX3_isGreat_46 : decode cX3_isGreat 46 = .ok (.goto (-43), 3) := by decide +kernel
theorem dX3_isGreat_49 : decode cX3_isGreat 49 = .ok (.iconst 1, 1) := by decide +kernel
theorem dX3_isGreat_50 : decode cX3_isGreat 50 = .ok (.ireturn, 1) := by decide +kernel
set_option maxRecDepth 20000 in
theorem ggX3_store_X3_isGreat : GoodIn wsX3_store wsX3_isGreat := goodIn_r _ [11, 1, 12, 13, 10, 14, 15, 16, 17, 18, 19, 20, 21, 22, 23] (by decide +kernel) (by decide +kernel)
set_option maxRecDepth 20000 in
theorem gX3_store_X3_isGreat : GoodIn wsX3_store (wsV RX3 41 RX3 yX3_isGreat wsX3_isGreat) := goodIn_app (goodIn_of _ (by decide +kernel)) ggX3_store_X3_isGreat
set_option maxRecDepth 20000 in
theorem ggX3_store_X3_ofP : GoodIn wsX3_store wsX3_ofP := goodIn_r _ [14, 15, 16] (by decide +kernel) (by decide +kernel)
set_option maxRecDepth 20000 in
theorem gX3_store_X3_ofP : GoodIn wsX3_store (va_wsS RX3 29 yX3_ofP wsX3_ofP) := goodIn_app (goodIn_of _ (by decide +kernel)) ggX3_store_X3_ofP
theorem dX3_store_0 : decode cX3_store 0 = .ok (.iconst 0, 1) := by decide +kernel
theorem dX3_store_1 : decode cX3_store 1 = .ok (.istore_n 2, 1) := by decide +kernel
theorem dX3_store_2 : decode cX3_store 2 = .ok (.iload_n 2, 1) := by decide +kernel
theorem dX3_store_3 : decode cX3_store 3 = .ok (.iconst 3, 1) := by decide +kernel
theorem dX3_store_4 : decode cX3_store 4 = .ok (.if_icmp .ge 112, 3) := by decide +kernel
theorem dX3_store_7 : decode cX3_store 7 = .ok (.lconst 0, 1) := by decide +kernel
theorem dX3_store_8 : decode cX3_store 8 = .ok (.lstore_n 3, 1) := by decide +kernel
theorem dX3_store_9 : decode cX3_store 9 = .ok (.iconst 0, 1) := by decide +kernel
theorem dX3_store_10 : decode cX3_store 10 = .ok (.istore 5, 2) := by decide +kernel
theorem dX3_store_12 : decode cX3_store 12 = .ok (.iload 5, 2) := by decide +kernel
theorem dX3_store_14 : decode cX3_store 14 = .ok (.bipush 16, 2) := by decide +kernel
theorem dX3_store_16 : decode cX3_store 16 = .ok (.if_icmp .ge 39, 3) := by decide +kernel
theorem dX3_store_19 : decode cX3_store 19 = .ok (.aload_n 0, 1) := by decide +kernel
theorem dX3_store_20 : decode cX3_store 20 = .ok (.getfield 20, 3) := by decide +kernel
theorem dX3_store_23 : decode cX3_store 23 = .ok (.iload 5, 2) := by decide +kernel
theorem dX3_store_25 : decode cX3_store 25 = .ok (.laload, 1) := by decide +kernel
theorem dX3_store_26 : decode cX3_store 26 = .ok (.lload_n 3, 1) := by decide +kernel
theorem dX3_store_27 : decode cX3_store 27 = .ok (.ladd, 1) := by decide +kernel
theorem dX3_store_28 : decode cX3_store 28 = .ok (.lstore 6, 2) := by decide +kernel
theorem dX3_store_30 : decode cX3_store 30 = .ok (.aload_n 0, 1) := by decide +kernel
theorem dX3_store_31 : decode cX3_store 31 = .ok (.getfield 20, 3) := by decide +kernel
theorem dX3_store_34 : decode cX3_store 34 = .ok (.iload 5, 2) := by decide +kernel
theorem dX3_store_36 : decode cX3_store 36 = .ok (.lload 6, 2) := by decide +kernel
theorem dX3_store_38 : decode cX3_store 38 = .ok (.ldc2_w 33, 3) := by decide +kernel
theorem dX3_store_41 : decode cX3_store 41 = .ok (.land, 1) := by decide +kernel
theorem dX3_store_42 : decode cX3_store 42 = .ok (.lastore, 1) := by decide +kernel
theorem dX3_store_43 : decode cX3_store 43 = .ok (.lload 6, 2) := by decide +kernel
theorem dX3_store_45 : decode cX3_store 45 = .ok (.bipush 16, 2) := by decide +kernel
theorem dX3_store_47 : decode cX3_store 47 = .ok (.lshr, 1) := by decide +kernel
theorem dX3_store_48 : decode cX3_store 48 = .ok (.lstore_n 3, 1) := by decide +kernel
theorem dX3_store_49 : decode cX3_store 49 = .ok (.iinc 5 1, 3) := by decide +kernel
theorem dX3_store_52 : decode cX3_store 52 = .ok (.goto (-40), 3) := by decide +kernel
theorem dX3_store_55 : decode cX3_store 55 = .ok (.lload_n 3, 1) := by decide +kernel
theorem dX3_store_56 : decode cX3_store 56 = .ok (.ldc2_w 35, 3) := by decide +kernel
theorem dX3_store_59 : decode cX3_store 59 = .ok (.lmul, 1) := by decide +kernel
theorem dX3_store_60 : decode cX3_store 60 = .ok (.aload_n 0, 1) := by decide +kernel
theorem dX3_store_61 : decode cX3_store 61 = .ok (.getfield 20, 3) := by decide +kernel
theorem dX3_store_64 : decode cX3_store 64 = .ok (.bipush 15, 2) := by decide +kernel
theorem dX3_store_66 : decode cX3_store 66 = .ok (.laload, 1) := by decide +kernel
theorem dX3_store_67 : decode cX3_store 67 = .ok (.bipush 15, 2) := by decide +kernel
theorem dX3_store_69 : decode cX3_store 69 = .ok (.lshr, 1) := by decide +kernel
theorem dX3_store_70 : decode cX3_store 70 = .ok (.ladd, 1) := by decide +kernel
theorem dX3_store_71 : decode cX3_store 71 = .ok (.lstore 5, 2) := by decide +kernel
theorem dX3_store_73 : decode cX3_store 73 = .ok (.aload_n 0, 1) := by decide +kernel
theorem dX3_store_74 : decode cX3_store 74 = .ok (.getfield 20, 3) := by decide +kernel
theorem dX3_store_77 : decode cX3_store 77 = .ok (.bipush 15, 2) := by decide +kernel
theorem dX3_store_79 : decode cX3_store 79 = .ok (.aload_n 0, 1) := by decide +kernel
theorem dX3_store_80 : decode cX3_store 80 = .ok (.getfield 20, 3) := by decide +kernel
theorem dX3_store_83 : decode cX3_store 83 = .ok (.bipush 15, 2) := by decide +kernel
theorem dX3_store_85 : decode cX3_store 85 = .ok (.laload, 1) := by decide +kernel
theorem dX3_store_86 : decode cX3_store 86 = .ok (.ldc2_w 37, 3) := by decide +kernel
theorem dX3_store_89 : decode cX3_store 89 = .ok (.land, 1) := by decide +kernel
theorem dX3_store_90 : decode cX3_store 90 = .ok (.lastore, 1) := by decide +kernel
theorem dX3_store_91 : decode cX3_store 91 = .ok (.aload_n 0, 1) := by decide +kernel
theorem dX3_store_92 : decode cX3_store 92 = .ok (.getfield 20, 3) := by decide +kernel
theorem dX3_store_95 : decode cX3_store 95 = .ok (.iconst 0, 1) := by decide +kernel
theorem dX3_store_96 : decode cX3_store 96 = .ok (.aload_n 0, 1) := by decide +kernel
theorem dX3_store_97 : decode cX3_store 97 = .ok (.getfield 20, 3) := by decide +kernel
theorem dX3_store_100 : decode cX3_store 100 = .ok (.iconst 0, 1) := by decide +kernel
theorem dX3_store_101 : decode cX3_store 101 = .ok (.laload, 1) := by decide +kernel
theorem dX3_store_102 : decode cX3_store 102 = .ok (.ldc2_w 39, 3) := by decide +kernel
theorem dX3_store_105 : decode cX3_store 105 = .ok (.lload 5, 2) := by decide +kernel
theorem dX3_store_107 : decode cX3_store 107 = .ok (.lmul, 1) := by decide +kernel
theorem dX3_store_108 : decode cX3_store 108 = .ok (.ladd, 1) := by decide +kernel
theorem dX3_store_109 : decode cX3_store 109 = .ok (.lastore, 1) := by decide +kernel
theorem dX3_store_110 : decode cX3_store 110 = .ok (.iinc 2 1, 3) := by decide +kernel
theorem dX3_store_113 : decode cX3_store 113 = .ok (.goto (-111), 3) := by decide +kernel
theorem dX3_store_116 : decode cX3_store 116 = .ok (.lconst 0, 1) := by decide +kernel
theorem dX3_store_117 : decode cX3_store 117 = .ok (.lstore_n 2, 1) := by decide +kernel
theorem dX3_store_118 : decode cX3_store 118 = .ok (.iconst 0, 1) := by decide +kernel
theorem dX3_store_119 : decode cX3_store 119 = .ok (.istore 4, 2) := by decide +kernel
theorem dX3_store_121 : decode cX3_store 121 = .ok (.iload 4, 2) := by decide +kernel
theorem dX3_store_123 : decode cX3_store 123 = .ok (.bipush 16, 2) := by decide +kernel
theorem dX3_store_125 : decode cX3_store 125 = .ok (.if_icmp .ge 39, 3) := by decide +kernel
theorem dX3_store_128 : decode cX3_store 128 = .ok (.aload_n 0, 1) := by decide +kernel
theorem dX3_store_129 : decode cX3_store 129 = .ok (.getfield 20, 3) := by decide +kernel
theorem dX3_store_132 : decode cX3_store 132 = .ok (.iload 4, 2) := by decide +kernel
theorem dX3_store_134 : decode cX3_store 134 = .ok (.laload, 1) := by decide +kernel
theorem dX3_store_135 : decode cX3_store 135 = .ok (.lload_n 2, 1) := by decide +kernel
theorem dX3_store_136 : decode cX3_store 136 = .ok (.ladd, 1) := by decide +kernel
theorem dX3_store_137 : decode cX3_store 137 = .ok (.lstore 5, 2) := by decide +kernel
theorem dX3_store_139 : decode cX3_store 139 = .ok (.aload_n 0, 1) := by decide +kernel
theorem dX3_store_140 : decode cX3_store 140 = .ok (.getfield 20, 3) := by decide +kernel
theorem dX3_store_143 : decode cX3_store 143 = .ok (.iload 4, 2) := by decide +kernel
theorem dX3_store_145 : decode cX3_store 145 = .ok (.lload 5, 2) := by decide +kernel
theorem dX3_store_147 : decode cX3_store 147 = .ok (.ldc2_w 33, 3) := by decide +kernel
theorem dX3_store_150 : decode cX3_store 150 = .ok (.land, 1) := by decide +kernel
theorem dX3_store_151 : decode cX3_store 151 = .ok (.lastore, 1) := by decide +kernel
theorem dX3_store_152 : decode cX3_store 152 = .ok (.lload 5, 2) := by decide +kernel
theorem dX3_store_154 : decode cX3_store 154 = .ok (.bipush 16, 2) := by decide +kernel
theorem dX3_store_156 : decode cX3_store 156 = .ok (.lshr, 1) := by decide +kernel
theorem dX3_store_157 : decode cX3_store 157 = .ok (.lstore_n 2, 1) := by decide +kernel
theorem dX3_store_158 : decode cX3_store 158 = .ok (.iinc 4 1, 3) := by decide +kernel
theorem dX3_store_161 : decode cX3_store 161 = .ok (.goto (-40), 3) := by decide +kernel
theorem dX3_store_164 : decode cX3_store 164 = .ok (.aload_n 0, 1) := by decide +kernel
theorem dX3_store_165 : decode cX3_store 165 = .ok (.invokevirtual 41, 3) := by decide +kernel
theorem dX3_store_168 : decode cX3_store 168 = .ok (.istore 4, 2) := by decide +kernel
theorem dX3_store_170 : decode cX3_store 170 = .ok (.lconst 0, 1) := by decide +kernel
theorem dX3_store_171 : decode cX3_store 171 = .ok (.lstore 5, 2) := by decide +kernel
theorem dX3_store_173 : decode cX3_store 173 = .ok (.iconst 0, 1) := by decide +kernel
theorem dX3_store_174 : decode cX3_store 174 = .ok (.istore 7, 2) := by decide +kernel
theorem dX3_store_176 : decode cX3_store 176 = .ok (.iload 7, 2) := by decide +kernel
theorem dX3_store_178 : decode cX3_store 178 = .ok (.bipush 16, 2) := by decide +kernel
theorem dX3_store_180 : decode cX3_store 180 = .ok (.if_icmp .ge 63, 3) := by decide +kernel
theorem dX3_store_183 : decode cX3_store 183 = .ok (.aload_n 0, 1) := by decide +kernel
theorem dX3_store_184 : decode cX3_store 184 = .ok (.getfield 20, 3) := by decide +kernel
theorem dX3_store_187 : decode cX3_store 187 = .ok (.iload 7, 2) := by decide +kernel
theorem dX3_store_189 : decode cX3_store 189 = .ok (.laload, 1) := by decide +kernel
theorem dX3_store_190 : decode cX3_store 190 = .ok (.iload 4, 2) := by decide +kernel
theorem dX3_store_192 : decode cX3_store 192 = .ok (.ifCond .eq 11, 3) := by decide +kernel
theorem dX3_store_195 : decode cX3_store 195 = .ok (.iload 7, 2) := by decide +kernel
theorem dX3_store_197 : decode cX3_store 197 = .ok (.invokestatic 29, 3) := by decide +kernel
theorem dX3_store_200 : decode cX3_store 200 = .ok (.goto 4, 3) := by decide +kernel
theorem dX3_store_203 : decode cX3_store 203 = .ok (.iconst 0, 1) := by decide +kernel
theorem dX3_store_204 : decode cX3_store 204 = .ok (.i2l, 1) := by decide +kernel
theorem dX3_store_205 : decode cX3_store 205 = .ok (.lsub, 1) := by decide +kernel
theorem dX3_store_206 : decode cX3_store 206 = .ok (.lload 5, 2) := by decide +kernel
theorem dX3_store_208 : decode cX3_store 208 = .ok (.ladd, 1) := by decide +kernel
theorem dX3_store_209 : decode cX3_store 209 = .ok (.lstore 8, 2) := by decide +kernel
theorem dX3_store_211 : decode cX3_store 211 = .ok (.aload_n 0, 1) := by decide +kernel
theorem dX3_store_212 : decode cX3_store 212 = .ok (.getfield 16, 3) := by decide +kernel
theorem dX3_store_215 : decode cX3_store 215 = .ok (.bipush 16, 2) := by decide +kernel
theorem dX3_store_217 : decode cX3_store 217 = .ok (.iload_n 1, 1) := by decide +kernel
theorem dX3_store_218 : decode cX3_store 218 = .ok (.imul, 1) := by decide +kernel
theorem dX3_store_219 : decode cX3_store 219 = .ok (.iload 7, 2) := by decide +kernel
theorem dX3_store_221 : decode cX3_store 221 = .ok (.iadd, 1) := by decide +kernel
theorem dX3_store_222 : decode cX3_store 222 = .ok (.lload 8, 2) := by decide +kernel
theorem dX3_store_224 : decode cX3_store 224 = .ok (.ldc2_w 33, 3) := by decide +kernel
theorem dX3_store_227 : decode cX3_store 227 = .ok (.land, 1) := by decide +kernel
theorem dX3_store_228 : decode cX3_store 228 = .ok (.l2i, 1) := by decide +kernel
theorem dX3_store_229 : decode cX3_store 229 = .ok (.iastore, 1) := by decide +kernel
theorem dX3_store_230 : decode cX3_store 230 = .ok (.lload 8, 2) := by decide +kernel
theorem dX3_store_232 : decode cX3_store 232 = .ok (.bipush 16, 2) := by decide +kernel
theorem dX3_store_234 : decode cX3_store 234 = .ok (.lshr, 1) := by decide +kernel
theorem dX3_store_235 : decode cX3_store 235 = .ok (.lstore 5, 2) := by decide +kernel
theorem dX3_store_237 : decode cX3_store 237 = .ok (.iinc 7 1, 3) := by decide +kernel
theorem dX3_store_240 : decode cX3_store 240 = .ok (.goto (-64), 3) := by decide +kernel
theorem dX3_store_243 : decode cX3_store 243 = .ok (.return_, 1) := by decide +kernel
set_option maxRecDepth 20000 in
theorem ggX3_add_X3_store : GoodIn wsX3_add wsX3_store := goodIn_r _ [7, 1, 8, 9, 10, 11, 2, 12, 13, 14, 6, 15, 16, 17, 18, 19, 20, 21, 22, 23, 24, 25, 26, 27] (by decide +kernel) (by decide +kernel)
set_option maxRecDepth 20000 in
theorem gX3_add_X3_store : GoodIn wsX3_add (wsV RX3 45 RX3 yX3_store wsX3_store) := goodIn_app (goodIn_of _ (by decide +kernel)) ggX3_add_X3_store
theorem dX3_add_0 : decode cX3_add 0 = .ok (.iconst 0, 1) := by decide +kernel
theorem dX3_add_1 : decode cX3_add 1 = .ok (.istore 4, 2) := by decide +kernel
theorem dX3_add_3 : decode cX3_add 3 = .ok (.iload 4, 2) := by decide +kernel
theorem dX3_add_5 : decode cX3_add 5 = .ok (.bipush 16, 2) := by decide +kernel
theorem dX3_add_7 : decode cX3_add 7 = .ok (.if_icmp .ge 43, 3) := by decide +kernel
theorem dX3_add_10 : decode cX3_add 10 = .ok (.aload_n 0, 1) := by decide +kernel
theorem dX3_add_11 : decode cX3_add 11 = .ok (.getfield 20, 3) := by decide +kernel
theorem dX3_add_14 : decode cX3_add 14 = .ok (.iload 4, 2) := by decide +kernel
theorem dX3_add_16 : decode cX3_add 16 = .ok (.aload_n 0, 1) := by decide +kernel
theorem dX3_add_17 : decode cX3_add 17 = .ok (.getfield 16, 3) := by decide +kernel
theorem dX3_add_20 : decode cX3_add 20 = .ok (.bipush 16, 2) := by decide +kernel
theorem dX3_add_22 : decode cX3_add 22 = .ok (.iload_n 2, 1) := by decide +kernel
theorem dX3_add_23 : decode cX3_add 23 = .ok (.imul, 1) := by decide +kernel
theorem dX3_add_24 : decode cX3_add 24 = .ok (.iload 4, 2) := by decide +kernel
theorem dX3_add_26 : decode cX3_add 26 = .ok (.iadd, 1) := by decide +kernel
theorem dX3_add_27 : decode cX3_add 27 = .ok (.iaload, 1) := by decide +kernel
theorem dX3_add_28 : decode cX3_add 28 = .ok (.i2l, 1) := by decide +kernel
theorem dX3_add_29 : decode cX3_add 29 = .ok (.aload_n 0, 1) := by decide +kernel
theorem dX3_add_30 : decode cX3_add 30 = .ok (.getfield 16, 3) := by decide +kernel
theorem dX3_add_33 : decode cX3_add 33 = .ok (.bipush 16, 2) := by decide +kernel
theorem dX3_add_35 : decode cX3_add 35 = .ok (.iload_n 3, 1) := by decide +kernel
theorem dX3_add_36 : decode cX3_add 36 = .ok (.imul, 1) := by decide +kernel
theorem dX3_add_37 : decode cX3_add 37 = .ok (.iload 4, 2) := by decide +kernel
theorem dX3_add_39 : decode cX3_add 39 = .ok (.iadd, 1) := by decide +kernel
theorem dX3_add_40 : decode cX3_add 40 = .ok (.iaload, 1) := by decide +kernel
theorem dX3_add_41 : decode cX3_add 41 = .ok (.i2l, 1) := by decide +kernel
theorem dX3_add_42 : decode cX3_add 42 = .ok (.ladd, 1) := by decide +kernel
theorem dX3_add_43 : decode cX3_add 43 = .ok (.lastore, 1) := by decide +kernel
theorem dX3_add_44 : decode cX3_add 44 = .ok (.iinc 4 1, 3) := by decide +kernel
theorem dX3_add_47 : decode cX3_add 47 = .ok (.goto (-44), 3) := by decide +kernel
theorem dX3_add_50 : decode cX3_add 50 = .ok (.aload_n 0, 1) := by decide +kernel
theorem dX3_add_51 : decode cX3_add 51 = .ok (.iload_n 1, 1) := by decide +kernel
theorem dX3_add_52 : decode cX3_add 52 = .ok (.invokevirtual 45, 3) := by decide +kernel
theorem dX3_add_55 : decode cX3_add 55 = .ok (.return_, 1) := by decide +kernel
set_option maxRecDepth 20000 in
theorem ggX3_subtract_X3_ofP : GoodIn wsX3_subtract wsX3_ofP := goodIn_r _ [8, 9, 10] (by decide +kernel) (by decide +kernel)
set_option maxRecDepth 20000 in
theorem gX3_subtract_X3_ofP : GoodIn wsX3_subtract (va_wsS RX3 29 yX3_ofP wsX3_ofP) := goodIn_app (goodIn_of _ (by decide +kernel)) ggX3_subtract_X3_ofP
set_option maxRecDepth 20000 in
theorem ggX3_subtract_X3_store : GoodIn wsX3_subtract wsX3_store := goodIn_r _ [14, 2, 3, 15, 16, 17, 1, 18, 19, 20, 7, 21, 5, 6, 8, 9, 10, 22, 23, 24, 25, 26, 27, 28] (by decide +kernel) (by decide +kernel)
set_option maxRecDepth 20000 in
theorem gX3_subtract_X3_store : GoodIn wsX3_subtract (wsV RX3 45 RX3 yX3_store wsX3_store) := goodIn_app (goodIn_of _ (by decide +kernel)) ggX3_subtract_X3_store
theorem dX3_subtract_0 : decode cX3_subtract 0 = .ok (.lconst 0, 1) := by decide +kernel
theorem dX3_subtract_1 : decode cX3_subtract 1 = .ok (.lstore 4, 2) := by decide +kernel
theorem dX3_subtract_3 : decode cX3_subtract 3 = .ok (.iconst 0, 1) := by decide +kernel
theorem dX3_subtract_4 : decode cX3_subtract 4 = .ok (.istore 6, 2) := by decide +kernel
theorem dX3_subtract_6 : decode cX3_subtract 6 = .ok (.iload 6, 2) := by decide +kernel
theorem dX3_subtract_8 : decode cX3_subtract 8 = .ok (.bipush 16, 2) := by decide +kernel
theorem dX3_subtract_10 : decode cX3_subtract 10 = .ok (.if_icmp .ge 68, 3) := by decide +kernel
theorem dX3_subtract_13 : decode cX3_subtract 13 = .ok (.aload_n 0, 1) := by decide +kernel
theorem dX3_subtract_14 : decode cX3_subtract 14 = .ok (.getfield 16, 3) := by decide +kernel
theorem dX3_subtract_17 : decode cX3_subtract 17 = .ok (.bipush 16, 2) := by decide +kernel
theorem dX3_subtract_19 : decode cX3_subtract 19 = .ok (.iload_n 2, 1) := by decide +kernel
theorem dX3_subtract_20 : decode cX3_subtract 20 = .ok (.imul, 1) := by decide +kernel
theorem dX3_subtract_21 : decode cX3_subtract 21 = .ok (.iload 6, 2) := by decide +kernel
theorem dX3_subtract_23 : decode cX3_subtract 23 = .ok (.iadd, 1) := by decide +kernel
theorem dX3_subtract_24 : decode cX3_subtract 24 = .ok (.iaload, 1) := by decide +kernel
theorem dX3_subtract_25 : decode cX3_subtract 25 = .ok (.i2l, 1) := by decide +kernel
theorem dX3_subtract_26 : decode cX3_subtract 26 = .ok (.iload 6, 2) := by decide +kernel
theorem dX3_subtract_28 : decode cX3_subtract 28 = .ok (.invokestatic 29, 3) := by decide +kernel
theorem dX3_subtract_31 : decode cX3_subtract 31 = .ok (.i2l, 1) := by decide +kernel
theorem dX3_subtract_32 : decode cX3_subtract 32 = .ok (.ladd, 1) := by decide +kernel
theorem dX3_subtract_33 : decode cX3_subtract 33 = .ok (.aload_n 0, 1) := by decide +kernel
theorem dX3_subtract_34 : decode cX3_subtract 34 = .ok (.getfield 16, 3) := by decide +kernel
theorem dX3_subtract_37 : decode cX3_subtract 37 = .ok (.bipush 16, 2) := by decide +kernel
theorem dX3_subtract_39 : decode cX3_subtract 39 = .ok (.iload_n 3, 1) := by decide +kernel
theorem dX3_subtract_40 : decode cX3_subtract 40 = .ok (.imul, 1) := by decide +kernel
theorem dX3_subtract_41 : decode cX3_subtract 41 = .ok (.iload 6, 2) := by decide +kernel
theorem dX3_subtract_43 : decode cX3_subtract 43 = .ok (.iadd, 1) := by decide +kernel
theorem dX3_subtract_44 : decode cX3_subtract 44 = .ok (.iaload, 1) := by decide +kernel
theorem dX3_subtract_45 : decode cX3_subtract 45 = .ok (.i2l, 1) := by decide +kernel
theorem dX3_subtract_46 : decode cX3_subtract 46 = .ok (.lsub, 1) := by decide +kernel
theorem dX3_subtract_47 : decode cX3_subtract 47 = .ok (.lload 4, 2) := by decide +kernel
theorem dX3_subtract_49 : decode cX3_subtract 49 = .ok (.ladd, 1) := by decide +kernel
theorem dX3_subtract_50 : decode cX3_subtract 50 = .ok (.lstore 7, 2) := by decide +kernel
theorem dX3_subtract_52 : decode cX3_subtract 52 = .ok (.aload_n 0, 1) := by decide +kernel
theorem dX3_subtract_53 : decode cX3_subtract 53 = .ok (.getfield 20, 3) := by decide +kernel
theorem dX3_subtract_56 : decode cX3_subtract 56 = .ok (.iload 6, 2) := by decide +kernel
theorem dX3_subtract_58 : decode cX3_subtract 58 = .ok (.lload 7, 2) := by decide +kernel
theorem dX3_subtract_60 : decode cX3_subtract 60 = .ok (.ldc2_w 33, 3) := by decide +kernel
theorem dX3_subtract_63 : decode cX3_subtract 63 = .ok (.land, 1) := by decide +kernel
theorem dX3_subtract_64 : decode cX3_subtract 64 = .ok (.lastore, 1) := by decide +kernel
theorem dX3_subtract_65 : decode cX3_subtract 65 = .ok (.lload 7, 2) := by decide +kernel
theorem dX3_subtract_67 : decode cX3_subtract 67 = .ok (.bipush 16, 2) := by decide +kernel
theorem dX3_subtract_69 : decode cX3_subtract 69 = .ok (.lshr, 1) := by decide +kernel
theorem dX3_subtract_70 : decode cX3_subtract 70 = .ok (.lstore 4, 2) := by decide +kernel
theorem dX3_subtract_72 : decode cX3_subtract 72 = .ok (.iinc 6 1, 3) := by decide +kernel
theorem dX3_subtract_75 : decode cX3_subtract 75 = .ok (.goto (-69), 3) := by decide +kernel
theorem dX3_subtract_78 : decode cX3_subtract 78 = .ok (.aload_n 0, 1) := by decide +kernel
theorem dX3_subtract_79 : decode cX3_subtract 79 = .ok (.getfield 20, 3) := by decide +kernel
theorem dX3_subtract_82 : decode cX3_subtract 82 = .ok (.bipush 15, 2) := by decide +kernel
theorem dX3_subtract_84 : decode cX3_subtract 84 = .ok (.aload_n 0, 1) := by decide +kernel
theorem dX3_subtract_85 : decode cX3_subtract 85 = .ok (.getfield 20, 3) := by decide +kernel
theorem dX3_subtract_88 : decode cX3_subtract 88 = .ok (.bipush 15, 2) := by decide +kernel
theorem dX3_subtract_90 : decode cX3_subtract 90 = .ok (.laload, 1) := by decide +kernel
theorem dX3_subtract_91 : decode cX3_subtract 91 = .ok (.lload 4, 2) := by decide +kernel
theorem dX3_subtract_93 : decode cX3_subtract 93 = .ok (.ldc2_w 49, 3) := by decide +kernel
theorem dX3_subtract_96 : decode cX3_subtract 96 = .ok (.lmul, 1) := by decide +kernel
theorem dX3_subtract_97 : decode cX3_subtract 97 = .ok (.ladd, 1) := by decide +kernel
theorem dX3_subtract_98 : decode cX3_subtract 98 = .ok (.lastore, 1) := by decide +kernel
theorem dX3_subtract_99 : decode cX3_subtract 99 = .ok (.aload_n 0, 1) := by decide +kernel
theorem dX3_subtract_100 : decode cX3_subtract 100 = .ok (.iload_n 1, 1) := by decide +kernel
theorem dX3_subtract_101 : decode cX3_subtract 101 = .ok (.invokevirtual 45, 3) := by decide +kernel
theorem dX3_subtract_104 : decode cX3_subtract 104 = .ok (.return_, 1) := by decide +kernel
set_option maxRecDepth 20000 in
theorem ggX3_multiply_X3_store : GoodIn wsX3_multiply wsX3_store := goodIn_r _ [8, 1, 9, 10, 11, 12, 2, 13, 14, 15, 7, 16, 17, 18, 19, 20, 21, 22, 23, 24, 25, 26, 27, 28] (by decide +kernel) (by decide +kernel)
set_option maxRecDepth 20000 in
theorem gX3_multiply_X3_store : GoodIn wsX3_multiply (wsV RX3 45 RX3 yX3_store wsX3_store) := goodIn_app (goodIn_of _ (by decide +kernel)) ggX3_multiply_X3_store
theorem dX3_multiply_0 : decode cX3_multiply 0 = .ok (.iconst 0, 1) := by decide +kernel
theorem dX3_multiply_1 : decode cX3_multiply 1 = .ok (.istore 4, 2) := by decide +kernel
theorem dX3_multiply_3 : decode cX3_multiply 3 = .ok (.iload 4, 2) := by decide +kernel
theorem dX3_multiply_5 : decode cX3_multiply 5 = .ok (.bipush 32, 2) := by decide +kernel
theorem dX3_multiply_7 : decode cX3_multiply 7 = .ok (.if_icmp .ge 17, 3) := by decide +kernel
theorem dX3_multiply_10 : decode cX3_multiply 10 = .ok (.aload_n 0, 1) := by decide +kernel
theorem dX3_multiply_11 : decode cX3_multiply 11 = .ok (.getfield 20, 3) := by decide +kernel
theorem dX3_multiply_14 : decode cX3_multiply 14 = .ok (.iload 4, 2) := by decide +kernel
theorem dX3_multiply_16 : decode cX3_multiply 16 = .ok (.lconst 0, 1) := by decide +kernel
theorem dX3_multiply_17 : decode cX3_multiply 17 = .ok (.lastore, 1) := by decide +kernel
theorem dX3_multiply_18 : decode cX3_multiply 18 = .ok (.iinc 4 1, 3) := by decide +kernel
theorem dX3_multiply_21 : decode cX3_multiply 21 = .ok (.goto (-18), 3) := by decide +kernel
theorem dX3_multiply_24 : decode cX3_multiply 24 = .ok (.iconst 0, 1) := by decide +kernel
theorem dX3_multiply_25 : decode cX3_multiply 25 = .ok (.istore 4, 2) := by decide +kernel
theorem dX3_multiply_27 : decode cX3_multiply 27 = .ok (.iload 4, 2) := by decide +kernel
theorem dX3_multiply_29 : decode cX3_multiply 29 = .ok (.bipush 16, 2) := by decide +kernel
theorem dX3_multiply_31 : decode cX3_multiply 31 = .ok (.if_icmp .ge 73, 3) := by decide +kernel
theorem dX3_multiply_34 : decode cX3_multiply 34 = .ok (.iconst 0, 1) := by decide +kernel
theorem dX3_multiply_35 : decode cX3_multiply 35 = .ok (.istore 5, 2) := by decide +kernel
theorem dX3_multiply_37 : decode cX3_multiply 37 = .ok (.iload 5, 2) := by decide +kernel
theorem dX3_multiply_39 : decode cX3_multiply 39 = .ok (.bipush 16, 2) := by decide +kernel
theorem dX3_multiply_41 : decode cX3_multiply 41 = .ok (.if_icmp .ge 57, 3) := by decide +kernel
theorem dX3_multiply_44 : decode cX3_multiply 44 = .ok (.aload_n 0, 1) := by decide +kernel
theorem dX3_multiply_45 : decode cX3_multiply 45 = .ok (.getfield 20, 3) := by decide +kernel
theorem dX3_multiply_48 : decode cX3_multiply 48 = .ok (.iload 4, 2) := by decide +kernel
theorem dX3_multiply_50 : decode cX3_multiply 50 = .ok (.iload 5, 2) := by decide +kernel
theorem dX3_multiply_52 : decode cX3_multiply 52 = .ok (.iadd, 1) := by decide +kernel
theorem dX3_multiply_53 : decode cX3_multiply 53 = .ok (.aload_n 0, 1) := by decide +kernel
theorem dX3_multiply_54 : decode cX3_multiply 54 = .ok (.getfield 20, 3) := by decide +kernel
theorem dX3_multiply_57 : decode cX3_multiply 57 = .ok (.iload 4, 2) := by decide +kernel
theorem dX3_multiply_59 : decode cX3_multiply 59 = .ok (.iload 5, 2) := by decide +kernel
theorem dX3_multiply_61 : decode cX3_multiply 61 = .ok (.iadd, 1) := by decide +kernel
theorem dX3_multiply_62 : decode cX3_multiply 62 = .ok (.laload, 1) := by decide +kernel
theorem dX3_multiply_63 : decode cX3_multiply 63 = .ok (.aload_n 0, 1) := by decide +kernel
theorem dX3_multiply_64 : decode cX3_multiply 64 = .ok (.getfield 16, 3) := by decide +kernel
theorem dX3_multiply_67 : decode cX3_multiply 67 = .ok (.bipush 16, 2) := by decide +kernel
theorem dX3_multiply_69 : decode cX3_multiply 69 = .ok (.iload_n 2, 1) := by decide +kernel
theorem dX3_multiply_70 : decode cX3_multiply 70 = .ok (.imul, 1) := by decide +kernel
theorem dX3_multiply_71 : decode cX3_multiply 71 = .ok (.iload 4, 2) := by decide +kernel
theorem dX3_multiply_73 : decode cX3_multiply 73 = .ok (.iadd, 1) := by decide +kernel
theorem dX3_multiply_74 : decode cX3_multiply 74 = .ok (.iaload, 1) := by decide +kernel
theorem dX3_multiply_75 : decode cX3_multiply 75 = .ok (.i2l, 1) := by decide +kernel
theorem dX3_multiply_76 : decode cX3_multiply 76 = .ok (.aload_n 0, 1) := by decide +kernel
theorem dX3_multiply_77 : decode cX3_multiply 77 = .ok (.getfield 16, 3) := by decide +kernel
theorem dX3_multiply_80 : decode cX3_multiply 80 = .ok (.bipush 16, 2) := by decide +kernel
theorem dX3_multiply_82 : decode cX3_multiply 82 = .ok (.iload_n 3, 1) := by decide +kernel
theorem dX3_multiply_83 : decode cX3_multiply 83 = .ok (.imul, 1) := by decide +kernel
theorem dX3_multiply_84 : decode cX3_multiply 84 = .ok (.iload 5, 2) := by decide +kernel
theorem dX3_multiply_86 : decode cX3_multiply 86 = .ok (.iadd, 1) := by decide +kernel
theorem dX3_multiply_87 : decode cX3_multiply 87 = .ok (.iaload, 1) := by decide +kernel
theorem dX3_multiply_88 : decode cX3_multiply 88 = .ok (.i2l, 1) := by decide +kernel
theorem dX3_multiply_89 : decode cX3_multiply 89 = .ok (.lmul, 1) := by decide +kernel
theorem dX3_multiply_90 : decode cX3_multiply 90 = .ok (.ladd, 1) := by decide +kernel
theorem dX3_multiply_91 : decode cX3_multiply 91 = .ok (.lastore, 1) := by decide +kernel
theorem dX3_multiply_92 : decode cX3_multiply 92 = .ok (.iinc 5 1, 3) := by decide +kernel
theorem dX3_multiply_95 : decode cX3_multiply 95 = .ok (.goto (-58), 3) := by decide +kernel
theorem dX3_multiply_98 : decode cX3_multiply 98 = .ok (.iinc 4 1, 3) := by decide +kernel
theorem dX3_multiply_101 : decode cX3_multiply 101 = .ok (.goto (-74), 3) := by decide +kernel
theorem dX3_multiply_104 : decode cX3_multiply 104 = .ok (.iconst 0, 1) := by decide +kernel
theorem dX3_multiply_105 : decode cX3_multiply 105 = .ok (.istore 4, 2) := by decide +kernel
theorem dX3_multiply_107 : decode cX3_multiply 107 = .ok (.iload 4, 2) := by decide +kernel
theorem dX3_multiply_109 : decode cX3_multiply 109 = .ok (.bipush 16, 2) := by decide +kernel
theorem dX3_multiply_111 : decode cX3_multiply 111 = .ok (.if_icmp .ge 38, 3) := by decide +kernel
theorem dX3_multiply_114 : decode cX3_multiply 114 = .ok (.aload_n 0, 1) := by decide +kernel
theorem dX3_multiply_115 : decode cX3_multiply 115 = .ok (.getfield 20, 3) := by decide +kernel
theorem dX3_multiply_118 : decode cX3_multiply 118 = .ok (.iload 4, 2) := by decide +kernel
theorem dX3_multiply_120 : decode cX3_multiply 120 = .ok (.aload_n 0, 1) := by decide +kernel
theorem dX3_multiply_121 : decode cX3_multiply 121 = .ok (.getfield 20, 3) := by decide +kernel
theorem dX3_multiply_124 : decode cX3_multiply 124 = .ok (.iload 4, 2) := by decide +kernel
theorem dX3_multiply_126 : decode cX3_multiply 126 = .ok (.laload, 1) := by decide +kernel
theorem dX3_multiply_127 : decode cX3_multiply 127 = .ok (.ldc2_w 51, 3) := by decide +kernel
theorem dX3_multiply_130 : decode cX3_multiply 130 = .ok (.aload_n 0, 1) := by decide +kernel
theorem dX3_multiply_131 : decode cX3_multiply 131 = .ok (.getfield 20, 3) := by decide +kernel
theorem dX3_multiply_134 : decode cX3_multiply 134 = .ok (.bipush 16, 2) := by decide +kernel
theorem dX3_multiply_136 : decode cX3_multiply 136 = .ok (.iload 4, 2) := by decide +kernel
theorem dX3_multiply_138 : decode cX3_multiply 138 = .ok (.iadd, 1) := by decide +kernel
theorem dX3_multiply_139 : decode cX3_multiply 139 = .ok (.laload, 1) := by decide +kernel
theorem dX3_multiply_140 : decode cX3_multiply 140 = .ok (.lmul, 1) := by decide +kernel
theorem dX3_multiply_141 : decode cX3_multiply 141 = .ok (.ladd, 1) := by decide +kernel
theorem dX3_multiply_142 : decode cX3_multiply 142 = .ok (.lastore, 1) := by decide +kernel
theorem dX3_multiply_143 : decode cX3_multiply 143 = .ok (.iinc 4 1, 3) := by decide +kernel
theorem dX3_multiply_146 : decode cX3_multiply 146 = .ok (.goto (-39), 3) := by decide +kernel
theorem dX3_multiply_149 : decode cX3_multiply 149 = .ok (.aload_n 0, 1) := by decide +kernel
theorem dX3_multiply_150 : decode cX3_multiply 150 = .ok (.iload_n 1, 1) := by decide +kernel
theorem dX3_multiply_151 : decode cX3_multiply 151 = .ok (.invokevirtual 45, 3) := by decide +kernel
theorem dX3_multiply_154 : decode cX3_multiply 154 = .ok (.return_, 1) := by decide +kernel
set_option maxRecDepth 20000 in
theorem ggX3_multiplySmall_X3_store : GoodIn wsX3_multiplySmall wsX3_store := goodIn_r _ [7, 1, 8, 9, 10, 11, 2, 12, 13, 14, 6, 15, 16, 17, 18, 19, 20, 21, 22, 23, 24, 25, 26, 27] (by decide +kernel) (by decide +kernel)
set_option maxRecDepth 20000 in
theorem gX3_multiplySmall_X3_store : GoodIn wsX3_multiplySmall (wsV RX3 45 RX3 yX3_store wsX3_store) := goodIn_app (goodIn_of _ (by decide +kernel)) ggX3_multiplySmall_X3_store
theorem dX3_multiplySmall_0 : decode cX3_multiplySmall 0 = .ok (.iconst 0, 1) := by decide +kernel
theorem dX3_multiplySmall_1 : decode cX3_multiplySmall 1 = .ok (.istore 4, 2) := by decide +kernel
theorem dX3_multiplySmall_3 : decode cX3_multiplySmall 3 = .ok (.iload 4, 2) := by decide +kernel
theorem dX3_multiplySmall_5 : decode cX3_multiplySmall 5 = .ok (.bipush 16, 2) := by decide +kernel
theorem dX3_multiplySmall_7 : decode cX3_multiplySmall 7 = .ok (.if_icmp .ge 32, 3) := by decide +kernel
theorem dX3_multiplySmall_10 : decode cX3_multiplySmall 10 = .ok (.aload_n 0, 1) := by decide +kernel
theorem dX3_multiplySmall_11 : decode cX3_multiplySmall 11 = .ok (.getfield 20, 3) := by decide +kernel
theorem dX3_multiplySmall_14 : decode cX3_multiplySmall 14 = .ok (.iload 4, 2) := by decide +kernel
theorem dX3_multiplySmall_16 : decode cX3_multiplySmall 16 = .ok (.aload_n 0, 1) := by decide +kernel
theorem dX3_multiplySmall_17 : decode cX3_multiplySmall 17 = .ok (.getfield 16, 3) := by decide +kernel
theorem dX3_multiplySmall_20 : decode cX3_multiplySmall 20 = .ok (.bipush 16, 2) := by decide +kernel
theorem dX3_multiplySmall_22 : decode cX3_multiplySmall 22 = .ok (.iload_n 2, 1) := by decide +kernel
theorem dX3_multiplySmall_23 : decode cX3_multiplySmall 23 = .ok (.imul, 1) := by decide +kernel
theorem dX3_multiplySmall_24 : decode cX3_multiplySmall 24 = .ok (.iload 4, 2) := by decide +kernel
theorem dX3_multiplySmall_26 : decode cX3_multiplySmall 26 = .ok (.iadd, 1) := by decide +kernel
theorem dX3_multiplySmall_27 : decode cX3_multiplySmall 27 = .ok (.iaload, 1) := by decide +kernel
theorem dX3_multiplySmall_28 : decode cX3_multiplySmall 28 = .ok (.i2l, 1) := by decide +kernel
theorem dX3_multiplySmall_29 : decode cX3_multiplySmall 29 = .ok (.iload_n 3, 1) := by decide +kernel
theorem dX3_multiplySmall_30 : decode cX3_multiplySmall 30 = .ok (.i2l, 1) := by decide +kernel
theorem dX3_multiplySmall_31 : decode cX3_multiplySmall 31 = .ok (.lmul, 1) := by decide +kernel
theorem dX3_multiplySmall_32 : decode cX3_multiplySmall 32 = .ok (.lastore, 1) := by decide +kernel
theorem dX3_multiplySmall_33 : decode cX3_multiplySmall 33 = .ok (.iinc 4 1, 3) := by decide +kernel
theorem dX3_multiplySmall_36 : decode cX3_multiplySmall 36 = .ok (.goto (-33), 3) := by decide +kernel
theorem dX3_multiplySmall_39 : decode cX3_multiplySmall 39 = .ok (.aload_n 0, 1) := by decide +kernel
theorem dX3_multiplySmall_40 : decode cX3_multiplySmall 40 = .ok (.iload_n 1, 1) := by decide +kernel
theorem dX3_multiplySmall_41 : decode cX3_multiplySmall 41 = .ok (.invokevirtual 45, 3) := by decide +kernel
theorem dX3_multiplySmall_44 : decode cX3_multiplySmall 44 = .ok (.return_, 1) := by decide +kernel
theorem dX3_isZero_0 : decode cX3_isZero 0 = .ok (.iconst 1, 1) := by decide +kernel
theorem dX3_isZero_1 : decode cX3_isZero 1 = .ok (.istore_n 2, 1) := by decide +kernel
theorem dX3_isZero_2 : decode cX3_isZero 2 = .ok (.iconst 0, 1) := by decide +kernel
theorem dX3_isZero_3 : decode cX3_isZero 3 = .ok (.istore_n 3, 1) := by decide +kernel
theorem dX3_isZero_4 : decode cX3_isZero 4 = .ok (.iload_n 3, 1) := by decide +kernel
theorem dX3_isZero_5 : decode cX3_isZero 5 = .ok (.bipush 16, 2) := by decide +kernel
theorem dX3_isZero_7 : decode cX3_isZero 7 = .ok (.if_icmp .ge 33, 3) := by decide +kernel
theorem dX3_isZero_10 : decode cX3_isZero 10 = .ok (.iload_n 2, 1) := by decide +kernel
theorem dX3_isZero_11 : decode cX3_isZero 11 = .ok (.ifCond .eq 21, 3) := by decide +kernel
theorem dX3_isZero_14 : decode cX3_isZero 14 = .ok (.aload_n 0, 1) := by decide +kernel
theorem dX3_isZero_15 : decode cX3_isZero 15 = .ok (.getfield 16, 3) := by decide +kernel
theorem dX3_isZero_18 : decode cX3_isZero 18 = .ok (.bipush 16, 2) := by decide +kernel
theorem dX3_isZero_20 : decode cX3_isZero 20 = .ok (.iload_n 1, 1) := by decide +kernel
theorem dX3_isZero_21 : decode cX3_isZero 21 = .ok (.imul, 1) := by decide +kernel
theorem dX3_isZero_22 : decode cX3_isZero 22 = .ok (.iload_n 3, 1) := by decide +kernel
theorem dX3_isZero_23 : decode cX3_isZero 23 = .ok (.iadd, 1) := by decide +kernel
theorem dX3_isZero_24 : decode cX3_isZero 24 = .ok (.iaload, 1) := by decide +kernel
theorem dX3_isZero_25 : decode cX3_isZero 25 = .ok (.ifCond .ne 7, 3) := by decide +kernel
theorem dX3_isZero_28 : decode cX3_isZero 28 = .ok (.iconst 1, 1) := by decide +kernel
theorem dX3_isZero_29 : decode cX3_isZero 29 = .ok (.goto 4, 3) := by decide +kernel
theorem dX3_isZero_32 : decode cX3_isZero 32 = .ok (.iconst 0, 1) := by decide +kernel
theorem dX3_isZero_33 : decode cX3_isZero 33 = .ok (.istore_n 2, 1) := by decide +kernel
theorem dX3_isZero_34 : decode cX3_isZero 34 = .ok (.iinc 3 1, 3) := by decide +kernel
theorem dX3_isZero_37 : decode cX3_isZero 37 = .ok (.goto (-33), 3) := by decide +kernel
theorem dX3_isZero_40 : decode cX3_isZero 40 = .ok (.iload_n 2, 1) := by decide +kernel
theorem dX3_isZero_41 : decode cX3_isZero 41 = .ok (.ireturn, 1) := by decide +kernel
theorem dX3_isSame_0 : decode cX3_isSame 0 = .ok (.iconst 1, 1) := by decide +kernel
theorem dX3_isSame_1 : decode cX3_isSame 1 = .ok (.istore_n 3, 1) := by decide +kernel
theorem dX3_isSame_2 : decode cX3_isSame 2 = .ok (.iconst 0, 1) := by decide +kernel
theorem dX3_isSame_3 : decode cX3_isSame 3 = .ok (.istore 4, 2) := by decide +kernel
theorem dX3_isSame_5 : decode cX3_isSame 5 = .ok (.iload 4, 2) := by decide +kernel
theorem dX3_isSame_7 : decode cX3_isSame 7 = .ok (.bipush 16, 2) := by decide +kernel
theorem dX3_isSame_9 : decode cX3_isSame 9 = .ok (.if_icmp .ge 46, 3) := by decide +kernel
theorem dX3_isSame_12 : decode cX3_isSame 12 = .ok (.iload_n 3, 1) := by decide +kernel
theorem dX3_isSame_13 : decode cX3_isSame 13 = .ok (.ifCond .eq 34, 3) := by decide +kernel
theorem dX3_isSame_16 : decode cX3_isSame 16 = .ok (.aload_n 0, 1) := by decide +kernel
theorem dX3_isSame_17 : decode cX3_isSame 17 = .ok (.getfield 16, 3) := by decide +kernel
theorem dX3_isSame_20 : decode cX3_isSame 20 = .ok (.bipush 16, 2) := by decide +kernel
theorem dX3_isSame_22 : decode cX3_isSame 22 = .ok (.iload_n 1, 1) := by decide +kernel
theorem dX3_isSame_23 : decode cX3_isSame 23 = .ok (.imul, 1) := by decide +kernel
theorem dX3_isSame_24 : decode cX3_isSame 24 = .ok (.iload 4, 2) := by decide +kernel
theorem dX3_isSame_26 : decode cX3_isSame 26 = .ok (.iadd, 1) := by decide +kernel
theorem dX3_isSame_27 : decode cX3_isSame 27 = .ok (.iaload, 1) := by decide +kernel
theorem dX3_isSame_28 : decode cX3_isSame 28 = .ok (.aload_n 0, 1) := by decide +kernel
theorem dX3_isSame_29 : decode cX3_isSame 29 = .ok (.getfield 16, 3) := by decide +kernel
theorem dX3_isSame_32 : decode cX3_isSame 32 = .ok (.bipush 16, 2) := by decide +kernel
theorem dX3_isSame_34 : decode cX3_isSame 34 = .ok (.iload_n 2, 1) := by decide +kernel
theorem dX3_isSame_35 : decode cX3_isSame 35 = .ok (.imul, 1) := by decide +kernel
theorem dX3_isSame_36 : decode cX3_isSame 36 = .ok (.iload 4, 2) := by decide +kernel
theorem dX3_isSame_38 : decode cX3_isSame 38 = .ok (.iadd, 1) := by decide +kernel
theorem dX3_isSame_39 : decode cX3_isSame 39 = .ok (.iaload, 1) := by decide +kernel
theorem dX3_isSame_40 : decode cX3_isSame 40 = .ok (.if_icmp .ne 7, 3) := by decide +kernel
theorem dX3_isSame_43 : decode cX3_isSame 43 = .ok (.iconst 1, 1) := by decide +kernel
theorem dX3_isSame_44 : decode cX3_isSame 44 = .ok (.goto 4, 3) := by decide +kernel
theorem dX3_isSame_47 : decode cX3_isSame 47 = .ok (.iconst 0, 1) := by decide +kernel
theorem dX3_isSame_48 : decode cX3_isSame 48 = .ok (.istore_n 3, 1) := by decide +kernel
theorem dX3_isSame_49 : decode cX3_isSame 49 = .ok (.iinc 4 1, 3) := by decide +kernel
theorem dX3_isSame_52 : decode cX3_isSame 52 = .ok (.goto (-47), 3) := by decide +kernel
theorem dX3_isSame_55 : decode cX3_isSame 55 = .ok (.iload_n 3, 1) := by decide +kernel
theorem dX3_isSame_56 : decode cX3_isSame 56 = .ok (.ireturn, 1) := by decide +kernel
theorem dX3_longOf_0 : decode cX3_longOf 0 = .ok (.lconst 0, 1) := by decide +kernel
theorem dX3_longOf_1 : decode cX3_longOf 1 = .ok (.lstore_n 3, 1) := by decide +kernel
theorem dX3_longOf_2 : decode cX3_longOf 2 = .ok (.iconst 3, 1) := by decide +kernel
theorem dX3_longOf_3 : decode cX3_longOf 3 = .ok (.istore 5, 2) := by decide +kernel
theorem dX3_longOf_5 : decode cX3_longOf 5 = .ok (.iload 5, 2) := by decide +kernel
theorem dX3_longOf_7 : decode cX3_longOf 7 = .ok (.ifCond .lt 33, 3) := by decide +kernel
theorem dX3_longOf_10 : decode cX3_longOf 10 = .ok (.lload_n 3, 1) := by decide +kernel
theorem dX3_longOf_11 : decode cX3_longOf 11 = .ok (.ldc2_w 49, 3) := by decide +kernel
theorem dX3_longOf_14 : decode cX3_longOf 14 = .ok (.lmul, 1) := by decide +kernel
theorem dX3_longOf_15 : decode cX3_longOf 15 = .ok (.aload_n 0, 1) := by decide +kernel
theorem dX3_longOf_16 : decode cX3_longOf 16 = .ok (.getfield 16, 3) := by decide +kernel
theorem dX3_longOf_19 : decode cX3_longOf 19 = .ok (.bipush 16, 2) := by decide +kernel
theorem dX3_longOf_21 : decode cX3_longOf 21 = .ok (.iload_n 1, 1) := by decide +kernel
theorem dX3_longOf_22 : decode cX3_longOf 22 = .ok (.imul, 1) := by decide +kernel
theorem dX3_longOf_23 : decode cX3_longOf 23 = .ok (.iconst 4, 1) := by decide +kernel
theorem dX3_longOf_24 : decode cX3_longOf 24 = .ok (.iload_n 2, 1) := by decide +kernel
theorem dX3_longOf_25 : decode cX3_longOf 25 = .ok (.imul, 1) := by decide +kernel
theorem dX3_longOf_26 : decode cX3_longOf 26 = .ok (.iadd, 1) := by decide +kernel
theorem dX3_longOf_27 : decode cX3_longOf 27 = .ok (.iload 5, 2) := by decide +kernel
theorem dX3_longOf_29 : decode cX3_longOf 29 = .ok (.iadd, 1) := by decide +kernel
theorem dX3_longOf_30 : decode cX3_longOf 30 = .ok (.iaload, 1) := by decide +kernel
theorem dX3_longOf_31 : decode cX3_longOf 31 = .ok (.i2l, 1) := by decide +kernel
theorem dX3_longOf_32 : decode cX3_longOf 32 = .ok (.ladd, 1) := by decide +kernel
theorem dX3_longOf_33 : decode cX3_longOf 33 = .ok (.lstore_n 3, 1) := by decide +kernel
theorem dX3_longOf_34 : decode cX3_longOf 34 = .ok (.iinc 5 (-1), 3) := by decide +kernel
theorem dX3_longOf_37 : decode cX3_longOf 37 = .ok (.goto (-32), 3) := by decide +kernel
theorem dX3_longOf_40 : decode cX3_longOf 40 = .ok (.lload_n 3, 1) := by decide +kernel
theorem dX3_longOf_41 : decode cX3_longOf 41 = .ok (.lreturn, 1) := by decide +kernel
theorem dX3_isLong_0 : decode cX3_isLong 0 = .ok (.iload_n 0, 1) := by decide +kernel
theorem dX3_isLong_1 : decode cX3_isLong 1 = .ok (.ifCond .lt 12, 3) := by decide +kernel
theorem dX3_isLong_4 : decode cX3_isLong 4 = .ok (.iload_n 0, 1) := by decide +kernel
theorem dX3_isLong_5 : decode cX3_isLong 5 = .ok (.iconst 4, 1) := by decide +kernel
theorem dX3_isLong_6 : decode cX3_isLong 6 = .ok (.if_icmp .ge 7, 3) := by decide +kernel
theorem dX3_isLong_9 : decode cX3_isLong 9 = .ok (.iconst 1, 1) := by decide +kernel
theorem dX3_isLong_10 : decode cX3_isLong 10 = .ok (.goto 4, 3) := by decide +kernel
theorem dX3_isLong_13 : decode cX3_isLong 13 = .ok (.iconst 0, 1) := by decide +kernel
theorem dX3_isLong_14 : decode cX3_isLong 14 = .ok (.ireturn, 1) := by decide +kernel
set_option maxRecDepth 20000 in
theorem ggX3_scalar_X3_isLong : GoodIn wsX3_scalar wsX3_isLong := goodIn_r _ [6] (by decide +kernel) (by decide +kernel)
set_option maxRecDepth 20000 in
theorem gX3_scalar_X3_isLong : GoodIn wsX3_scalar (va_wsS RX3 57 yX3_isLong wsX3_isLong) := goodIn_app (goodIn_of _ (by decide +kernel)) ggX3_scalar_X3_isLong
theorem dX3_scalar_0 : decode cX3_scalar 0 = .ok (.aload_n 0, 1) := by decide +kernel
theorem dX3_scalar_1 : decode cX3_scalar 1 = .ok (.getfield 53, 3) := by decide +kernel
theorem dX3_scalar_4 : decode cX3_scalar 4 = .ok (.ifCond .ne 10, 3) := by decide +kernel
theorem dX3_scalar_7 : decode cX3_scalar 7 = .ok (.iload_n 1, 1) := by decide +kernel
theorem dX3_scalar_8 : decode cX3_scalar 8 = .ok (.invokestatic 57, 3) := by decide +kernel
theorem dX3_scalar_11 : decode cX3_scalar 11 = .ok (.ifCond .ne 5, 3) := by decide +kernel
theorem dX3_scalar_14 : decode cX3_scalar 14 = .ok (.iconst 0, 1) := by decide +kernel
theorem dX3_scalar_15 : decode cX3_scalar 15 = .ok (.ireturn, 1) := by decide +kernel
theorem dX3_scalar_16 : decode cX3_scalar 16 = .ok (.aload_n 0, 1) := by decide +kernel
theorem dX3_scalar_17 : decode cX3_scalar 17 = .ok (.getfield 7, 3) := by decide +kernel
theorem dX3_scalar_20 : decode cX3_scalar 20 = .ok (.iload_n 1, 1) := by decide +kernel
theorem dX3_scalar_21 : decode cX3_scalar 21 = .ok (.lload_n 2, 1) := by decide +kernel
theorem dX3_scalar_22 : decode cX3_scalar 22 = .ok (.lastore, 1) := by decide +kernel
theorem dX3_scalar_23 : decode cX3_scalar 23 = .ok (.iconst 1, 1) := by decide +kernel
theorem dX3_scalar_24 : decode cX3_scalar 24 = .ok (.ireturn, 1) := by decide +kernel
set_option maxRecDepth 20000 in
theorem ggX3_point_X3_isLong : GoodIn wsX3_point wsX3_isLong := goodIn_r _ [6] (by decide +kernel) (by decide +kernel)
set_option maxRecDepth 20000 in
theorem gX3_point_X3_isLong : GoodIn wsX3_point (va_wsS RX3 57 yX3_isLong wsX3_isLong) := goodIn_app (goodIn_of _ (by decide +kernel)) ggX3_point_X3_isLong
theorem dX3_point_0 : decode cX3_point 0 = .ok (.aload_n 0, 1) := by decide +kernel
theorem dX3_point_1 : decode cX3_point 1 = .ok (.getfield 53, 3) := by decide +kernel
theorem dX3_point_4 : decode cX3_point 4 = .ok (.ifCond .ne 10, 3) := by decide +kernel
theorem dX3_point_7 : decode cX3_point 7 = .ok (.iload_n 1, 1) := by decide +kernel
theorem dX3_point_8 : decode cX3_point 8 = .ok (.invokestatic 57, 3) := by decide +kernel
theorem dX3_point_11 : decode cX3_point 11 = .ok (.ifCond .ne 5, 3) := by decide +kernel
theorem dX3_point_14 : decode cX3_point 14 = .ok (.iconst 0, 1) := by decide +kernel
theorem dX3_point_15 : decode cX3_point 15 = .ok (.ireturn, 1) := by decide +kernel
theorem dX3_point_16 : decode cX3_point 16 = .ok (.aload_n 0, 1) := by decide +kernel
theorem dX3_point_17 : decode cX3_point 17 = .ok (.getfield 13, 3) := by decide +kernel
theorem dX3_point_20 : decode cX3_point 20 = .ok (.iload_n 1, 1) := by decide +kernel
theorem dX3_point_21 : decode cX3_point 21 = .ok (.lload_n 2, 1) := by decide +kernel
theorem dX3_point_22 : decode cX3_point 22 = .ok (.lastore, 1) := by decide +kernel
theorem dX3_point_23 : decode cX3_point 23 = .ok (.iconst 1, 1) := by decide +kernel
theorem dX3_point_24 : decode cX3_point 24 = .ok (.ireturn, 1) := by decide +kernel
theorem dX3_bit_0 : decode cX3_bit 0 = .ok (.iload_n 1, 1) := by decide +kernel
theorem dX3_bit_1 : decode cX3_bit 1 = .ok (.iconst 3, 1) := by decide +kernel
theorem dX3_bit_2 : decode cX3_bit 2 = .ok (.if_icmp .lt 10, 3) := by decide +kernel
theorem dX3_bit_5 : decode cX3_bit 5 = .ok (.iload_n 1, 1) := by decide +kernel
theorem dX3_bit_6 : decode cX3_bit 6 = .ok (.sipush 255, 3) := by decide +kernel
theorem dX3_bit_9 : decode cX3_bit 9 = .ok (.if_icmp .ne 5, 3) := by decide +kernel
theorem dX3_bit_12 : decode cX3_bit 12 = .ok (.iconst 0, 1) := by decide +kernel
theorem dX3_bit_13 : decode cX3_bit 13 = .ok (.ireturn, 1) := by decide +kernel
theorem dX3_bit_14 : decode cX3_bit 14 = .ok (.iload_n 1, 1) := by decide +kernel
theorem dX3_bit_15 : decode cX3_bit 15 = .ok (.sipush 254, 3) := by decide +kernel
theorem dX3_bit_18 : decode cX3_bit 18 = .ok (.if_icmp .eq 24, 3) := by decide +kernel
theorem dX3_bit_21 : decode cX3_bit 21 = .ok (.aload_n 0, 1) := by decide +kernel
theorem dX3_bit_22 : decode cX3_bit 22 = .ok (.getfield 7, 3) := by decide +kernel
theorem dX3_bit_25 : decode cX3_bit 25 = .ok (.iload_n 1, 1) := by decide +kernel
theorem dX3_bit_26 : decode cX3_bit 26 = .ok (.bipush 64, 2) := by decide +kernel
theorem dX3_bit_28 : decode cX3_bit 28 = .ok (.idiv, 1) := by decide +kernel
theorem dX3_bit_29 : decode cX3_bit 29 = .ok (.laload, 1) := by decide +kernel
theorem dX3_bit_30 : decode cX3_bit 30 = .ok (.iload_n 1, 1) := by decide +kernel
theorem dX3_bit_31 : decode cX3_bit 31 = .ok (.bipush 64, 2) := by decide +kernel
theorem dX3_bit_33 : decode cX3_bit 33 = .ok (.irem, 1) := by decide +kernel
theorem dX3_bit_34 : decode cX3_bit 34 = .ok (.lshr, 1) := by decide +kernel
theorem dX3_bit_35 : decode cX3_bit 35 = .ok (.lconst 1, 1) := by decide +kernel
theorem dX3_bit_36 : decode cX3_bit 36 = .ok (.land, 1) := by decide +kernel
theorem dX3_bit_37 : decode cX3_bit 37 = .ok (.lconst 1, 1) := by decide +kernel
theorem dX3_bit_38 : decode cX3_bit 38 = .ok (.lcmp, 1) := by decide +kernel
theorem dX3_bit_39 : decode cX3_bit 39 = .ok (.ifCond .ne 7, 3) := by decide +kernel
theorem dX3_bit_42 : decode cX3_bit 42 = .ok (.iconst 1, 1) := by decide +kernel
theorem dX3_bit_43 : decode cX3_bit 43 = .ok (.goto 4, 3) := by decide +kernel
theorem dX3_bit_46 : decode cX3_bit 46 = .ok (.iconst 0, 1) := by decide +kernel
theorem dX3_bit_47 : decode cX3_bit 47 = .ok (.ireturn, 1) := by decide +kernel
set_option maxRecDepth 20000 in
theorem ggX3_makeU_X3_store : GoodIn wsX3_makeU wsX3_store := goodIn_r _ [9, 1, 3, 10, 4, 11, 12, 13, 14, 15, 8, 16, 17, 18, 19, 20, 21, 22, 23, 24, 25, 26, 27, 28] (by decide +kernel) (by decide +kernel)
set_option maxRecDepth 20000 in
theorem gX3_makeU_X3_store : GoodIn wsX3_makeU (wsV RX3 45 RX3 yX3_store wsX3_store) := goodIn_app (goodIn_of _ (by decide +kernel)) ggX3_makeU_X3_store
theorem dX3_makeU_0 : decode cX3_makeU 0 = .ok (.iconst 0, 1) := by decide +kernel
theorem dX3_makeU_1 : decode cX3_makeU 1 = .ok (.istore_n 1, 1) := by decide +kernel
theorem dX3_makeU_2 : decode cX3_makeU 2 = .ok (.iload_n 1, 1) := by decide +kernel
theorem dX3_makeU_3 : decode cX3_makeU 3 = .ok (.bipush 16, 2) := by decide +kernel
theorem dX3_makeU_5 : decode cX3_makeU 5 = .ok (.if_icmp .ge 34, 3) := by decide +kernel
theorem dX3_makeU_8 : decode cX3_makeU 8 = .ok (.aload_n 0, 1) := by decide +kernel
theorem dX3_makeU_9 : decode cX3_makeU 9 = .ok (.getfield 20, 3) := by decide +kernel
theorem dX3_makeU_12 : decode cX3_makeU 12 = .ok (.iload_n 1, 1) := by decide +kernel
theorem dX3_makeU_13 : decode cX3_makeU 13 = .ok (.aload_n 0, 1) := by decide +kernel
theorem dX3_makeU_14 : decode cX3_makeU 14 = .ok (.getfield 13, 3) := by decide +kernel
theorem dX3_makeU_17 : decode cX3_makeU 17 = .ok (.iload_n 1, 1) := by decide +kernel
theorem dX3_makeU_18 : decode cX3_makeU 18 = .ok (.iconst 4, 1) := by decide +kernel
theorem dX3_makeU_19 : decode cX3_makeU 19 = .ok (.idiv, 1) := by decide +kernel
theorem dX3_makeU_20 : decode cX3_makeU 20 = .ok (.laload, 1) := by decide +kernel
theorem dX3_makeU_21 : decode cX3_makeU 21 = .ok (.bipush 16, 2) := by decide +kernel
theorem dX3_makeU_23 : decode cX3_makeU 23 = .ok (.iload_n 1, 1) := by decide +kernel
theorem dX3_makeU_24 : decode cX3_makeU 24 = .ok (.iconst 4, 1) := by decide +kernel
theorem dX3_makeU_25 : decode cX3_makeU 25 = .ok (.irem, 1) := by decide +kernel
theorem dX3_makeU_26 : decode cX3_makeU 26 = .ok (.imul, 1) := by decide +kernel
theorem dX3_makeU_27 : decode cX3_makeU 27 = .ok (.lushr, 1) := by decide +kernel
theorem dX3_makeU_28 : decode cX3_makeU 28 = .ok (.ldc2_w 33, 3) := by decide +kernel
theorem dX3_makeU_31 : decode cX3_makeU 31 = .ok (.land, 1) := by decide +kernel
theorem dX3_makeU_32 : decode cX3_makeU 32 = .ok (.lastore, 1) := by decide +kernel
theorem dX3_makeU_33 : decode cX3_makeU 33 = .ok (.iinc 1 1, 3) := by decide +kernel
theorem dX3_makeU_36 : decode cX3_makeU 36 = .ok (.goto (-34), 3) := by decide +kernel
theorem dX3_makeU_39 : decode cX3_makeU 39 = .ok (.aload_n 0, 1) := by decide +kernel
theorem dX3_makeU_40 : decode cX3_makeU 40 = .ok (.getfield 20, 3) := by decide +kernel
theorem dX3_makeU_43 : decode cX3_makeU 43 = .ok (.bipush 15, 2) := by decide +kernel
theorem dX3_makeU_45 : decode cX3_makeU 45 = .ok (.aload_n 0, 1) := by decide +kernel
theorem dX3_makeU_46 : decode cX3_makeU 46 = .ok (.getfield 20, 3) := by decide +kernel
theorem dX3_makeU_49 : decode cX3_makeU 49 = .ok (.bipush 15, 2) := by decide +kernel
theorem dX3_makeU_51 : decode cX3_makeU 51 = .ok (.laload, 1) := by decide +kernel
theorem dX3_makeU_52 : decode cX3_makeU 52 = .ok (.ldc2_w 37, 3) := by decide +kernel
theorem dX3_makeU_55 : decode cX3_makeU 55 = .ok (.land, 1) := by decide +kernel
theorem dX3_makeU_56 : decode cX3_makeU 56 = .ok (.lastore, 1) := by decide +kernel
theorem dX3_makeU_57 : decode cX3_makeU 57 = .ok (.aload_n 0, 1) := by decide +kernel
theorem dX3_makeU_58 : decode cX3_makeU 58 = .ok (.iconst 4, 1) := by decide +kernel
theorem dX3_makeU_59 : decode cX3_makeU 59 = .ok (.invokevirtual 45, 3) := by decide +kernel
theorem dX3_makeU_62 : decode cX3_makeU 62 = .ok (.return_, 1) := by decide +kernel
set_option maxRecDepth 20000 in
theorem ggX3_start_X3_makeU : GoodIn wsX3_start wsX3_makeU := goodIn_r _ [7, 8, 9, 10, 11, 12, 13, 14, 6, 15, 16, 17, 18, 19, 20, 21, 22, 23, 24, 25, 26, 27, 36, 37, 38, 39, 40, 41, 42] (by decide +kernel) (by decide +kernel)
set_option maxRecDepth 20000 in
theorem gX3_start_X3_makeU : GoodIn wsX3_start (wsV RX3 64 RX3 yX3_makeU wsX3_makeU) := goodIn_app (goodIn_of _ (by decide +kernel)) ggX3_start_X3_makeU
set_option maxRecDepth 20000 in
theorem ggX3_start_X3_setSmall : GoodIn wsX3_start wsX3_setSmall := goodIn_r _ [31, 18, 36, 37, 38, 39, 40, 41, 42] (by decide +kernel) (by decide +kernel)
set_option maxRecDepth 20000 in
theorem gX3_start_X3_setSmall : GoodIn wsX3_start (wsV RX3 67 RX3 yX3_setSmall wsX3_setSmall) := goodIn_app (goodIn_of _ (by decide +kernel)) ggX3_start_X3_setSmall
set_option maxRecDepth 20000 in
theorem ggX3_start_X3_copy : GoodIn wsX3_start wsX3_copy := goodIn_r _ [35, 18, 36, 37, 38, 39, 40, 41, 42] (by decide +kernel) (by decide +kernel)
set_option maxRecDepth 20000 in
theorem gX3_start_X3_copy : GoodIn wsX3_start (wsV RX3 23 RX3 yX3_copy wsX3_copy) := goodIn_app (goodIn_of _ (by decide +kernel)) ggX3_start_X3_copy
theorem dX3_start_0 : decode cX3_start 0 = .ok (.aload_n 0, 1) := by decide +kernel
theorem dX3_start_1 : decode cX3_start 1 = .ok (.getfield 53, 3) := by decide +kernel
theorem dX3_start_4 : decode cX3_start 4 = .ok (.ifCond .eq 5, 3) := by decide +kernel
theorem dX3_start_7 : decode cX3_start 7 = .ok (.iconst 0, 1) := by decide +kernel
theorem dX3_start_8 : decode cX3_start 8 = .ok (.ireturn, 1) := by decide +kernel
theorem dX3_start_9 : decode cX3_start 9 = .ok (.aload_n 0, 1) := by decide +kernel
theorem dX3_start_10 : decode cX3_start 10 = .ok (.iconst 1, 1) := by decide +kernel
theorem dX3_start_11 : decode cX3_start 11 = .ok (.putfield 53, 3) := by decide +kernel
theorem dX3_start_14 : decode cX3_start 14 = .ok (.aload_n 0, 1) := by decide +kernel
theorem dX3_start_15 : decode cX3_start 15 = .ok (.iconst 0, 1) := by decide +kernel
theorem dX3_start_16 : decode cX3_start 16 = .ok (.putfield 61, 3) := by decide +kernel
theorem dX3_start_19 : decode cX3_start 19 = .ok (.aload_n 0, 1) := by decide +kernel
theorem dX3_start_20 : decode cX3_start 20 = .ok (.invokevirtual 64, 3) := by decide +kernel
theorem dX3_start_23 : decode cX3_start 23 = .ok (.aload_n 0, 1) := by decide +kernel
theorem dX3_start_24 : decode cX3_start 24 = .ok (.iconst 0, 1) := by decide +kernel
theorem dX3_start_25 : decode cX3_start 25 = .ok (.iconst 1, 1) := by decide +kernel
theorem dX3_start_26 : decode cX3_start 26 = .ok (.invokevirtual 67, 3) := by decide +kernel
theorem dX3_start_29 : decode cX3_start 29 = .ok (.aload_n 0, 1) := by decide +kernel
theorem dX3_start_30 : decode cX3_start 30 = .ok (.iconst 1, 1) := by decide +kernel
theorem dX3_start_31 : decode cX3_start 31 = .ok (.iconst 0, 1) := by decide +kernel
theorem dX3_start_32 : decode cX3_start 32 = .ok (.invokevirtual 67, 3) := by decide +kernel
theorem dX3_start_35 : decode cX3_start 35 = .ok (.aload_n 0, 1) := by decide +kernel
theorem dX3_start_36 : decode cX3_start 36 = .ok (.iconst 2, 1) := by decide +kernel
theorem dX3_start_37 : decode cX3_start 37 = .ok (.iconst 4, 1) := by decide +kernel
theorem dX3_start_38 : decode cX3_start 38 = .ok (.invokevirtual 23, 3) := by decide +kernel
theorem dX3_start_41 : decode cX3_start 41 = .ok (.aload_n 0, 1) := by decide +kernel
theorem dX3_start_42 : decode cX3_start 42 = .ok (.iconst 3, 1) := by decide +kernel
theorem dX3_start_43 : decode cX3_start 43 = .ok (.iconst 1, 1) := by decide +kernel
theorem dX3_start_44 : decode cX3_start 44 = .ok (.invokevirtual 67, 3) := by decide +kernel
theorem dX3_start_47 : decode cX3_start 47 = .ok (.iconst 1, 1) := by decide +kernel
theorem dX3_start_48 : decode cX3_start 48 = .ok (.ireturn, 1) := by decide +kernel
set_option maxRecDepth 20000 in
theorem ggX3_change_X3_swap : GoodIn wsX3_change wsX3_swap := goodIn_r _ [5, 6, 7, 8, 4, 9, 10, 11, 12, 13, 14, 15, 16, 17] (by decide +kernel) (by decide +kernel)
set_option maxRecDepth 20000 in
theorem gX3_change_X3_swap : GoodIn wsX3_change (wsV RX3 70 RX3 yX3_swap wsX3_swap) := goodIn_app (goodIn_of _ (by decide +kernel)) ggX3_change_X3_swap
theorem dX3_change_0 : decode cX3_change 0 = .ok (.iload_n 1, 1) := by decide +kernel
theorem dX3_change_1 : decode cX3_change 1 = .ok (.ifCond .eq 15, 3) := by decide +kernel
theorem dX3_change_4 : decode cX3_change 4 = .ok (.aload_n 0, 1) := by decide +kernel
theorem dX3_change_5 : decode cX3_change 5 = .ok (.iconst 0, 1) := by decide +kernel
theorem dX3_change_6 : decode cX3_change 6 = .ok (.iconst 2, 1) := by decide +kernel
theorem dX3_change_7 : decode cX3_change 7 = .ok (.invokevirtual 70, 3) := by decide +kernel
theorem dX3_change_10 : decode cX3_change 10 = .ok (.aload_n 0, 1) := by decide +kernel
theorem dX3_change_11 : decode cX3_change 11 = .ok (.iconst 1, 1) := by decide +kernel
theorem dX3_change_12 : decode cX3_change 12 = .ok (.iconst 3, 1) := by decide +kernel
theorem dX3_change_13 : decode cX3_change 13 = .ok (.invokevirtual 70, 3) := by decide +kernel
theorem dX3_change_16 : decode cX3_change 16 = .ok (.return_, 1) := by decide +kernel
set_option maxRecDepth 20000 in
theorem ggX3_stepOnce_X3_bit : GoodIn wsX3_stepOnce wsX3_bit := goodIn_r _ [7, 8, 58, 59, 60, 61, 62, 63, 64] (by decide +kernel) (by decide +kernel)
set_option maxRecDepth 20000 in
theorem gX3_stepOnce_X3_bit : GoodIn wsX3_stepOnce (wsV RX3 73 RX3 yX3_bit wsX3_bit) := goodIn_app (goodIn_of _ (by decide +kernel)) ggX3_stepOnce_X3_bit
set_option maxRecDepth 20000 in
theorem ggX3_stepOnce_X3_change : GoodIn wsX3_stepOnce wsX3_change := goodIn_r _ [12, 13, 14, 15, 6, 16, 17, 18, 19, 20, 21, 58, 59, 60, 61, 62, 63, 64] (by decide +kernel) (by decide +kernel)
set_option maxRecDepth 20000 in
theorem gX3_stepOnce_X3_change : GoodIn wsX3_stepOnce (wsV RX3 76 RX3 yX3_change wsX3_change) := goodIn_app (goodIn_of _ (by decide +kernel)) ggX3_stepOnce_X3_change
set_option maxRecDepth 20000 in
theorem ggX3_stepOnce_X3_add : GoodIn wsX3_stepOnce wsX3_add := goodIn_r _ [25, 26, 21, 27, 28, 29, 6, 30, 31, 32, 33, 34, 35, 36, 37, 38, 39, 40, 41, 42, 43, 58, 59, 60, 61, 62, 63, 64] (by decide +kernel) (by decide +kernel)
set_option maxRecDepth 20000 in
theorem gX3_stepOnce_X3_add : GoodIn wsX3_stepOnce (wsV RX3 80 RX3 yX3_add wsX3_add) := goodIn_app (goodIn_of _ (by decide +kernel)) ggX3_stepOnce_X3_add
set_option maxRecDepth 20000 in
theorem ggX3_stepOnce_X3_subtract : GoodIn wsX3_stepOnce wsX3_subtract := goodIn_r _ [47, 21, 26, 31, 48, 39, 40, 6, 41, 42, 43, 27, 28, 29, 30, 32, 33, 34, 35, 36, 37, 38, 58, 59, 60, 61, 62, 63, 64] (by decide +kernel) (by decide +kernel)
set_option maxRecDepth 20000 in
theorem gX3_stepOnce_X3_subtract : GoodIn wsX3_stepOnce (wsV RX3 84 RX3 yX3_subtract wsX3_subtract) := goodIn_app (goodIn_of _ (by decide +kernel)) ggX3_stepOnce_X3_subtract
set_option maxRecDepth 20000 in
theorem ggX3_stepOnce_X3_multiply : GoodIn wsX3_stepOnce wsX3_multiply := goodIn_r _ [52, 26, 21, 53, 27, 28, 29, 6, 30, 31, 32, 33, 34, 35, 36, 37, 38, 39, 40, 41, 42, 43, 58, 59, 60, 61, 62, 63, 64] (by decide +kernel) (by decide +kernel)
set_option maxRecDepth 20000 in
theorem gX3_stepOnce_X3_multiply : GoodIn wsX3_stepOnce (wsV RX3 87 RX3 yX3_multiply wsX3_multiply) := goodIn_app (goodIn_of _ (by decide +kernel)) ggX3_stepOnce_X3_multiply
set_option maxRecDepth 20000 in
theorem ggX3_stepOnce_X3_multiplySmall : GoodIn wsX3_stepOnce wsX3_multiplySmall := goodIn_r _ [57, 26, 21, 27, 28, 29, 6, 30, 31, 32, 33, 34, 35, 36, 37, 38, 39, 40, 41, 42, 43, 58, 59, 60, 61, 62, 63, 64] (by decide +kernel) (by decide +kernel)
set_option maxRecDepth 20000 in
theorem gX3_stepOnce_X3_multiplySmall : GoodIn wsX3_stepOnce (wsV RX3 91 RX3 yX3_multiplySmall wsX3_multiplySmall) := goodIn_app (goodIn_of _ (by decide +kernel)) ggX3_stepOnce_X3_multiplySmall
theorem dX3_stepOnce_0 : decode cX3_stepOnce 0 = .ok (.aload_n 0, 1) := by decide +kernel
theorem dX3_stepOnce_1 : decode cX3_stepOnce 1 = .ok (.sipush 254, 3) := by decide +kernel
theorem dX3_stepOnce_4 : decode cX3_stepOnce 4 = .ok (.aload_n 0, 1) := by decide +kernel
theorem dX3_stepOnce_5 : decode cX3_stepOnce 5 = .ok (.getfield 61, 3) := by decide +kernel
theorem dX3_stepOnce_8 : decode cX3_stepOnce 8 = .ok (.isub, 1) := by decide +kernel
theorem dX3_stepOnce_9 : decode cX3_stepOnce 9 = .ok (.invokevirtual 73, 3) := by decide +kernel
theorem dX3_stepOnce_12 : decode cX3_stepOnce 12 = .ok (.istore_n 1, 1) := by decide +kernel
theorem dX3_stepOnce_13 : decode cX3_stepOnce 13 = .ok (.aload_n 0, 1) := by decide +kernel
theorem dX3_stepOnce_14 : decode cX3_stepOnce 14 = .ok (.iload_n 1, 1) := by decide +kernel
theorem dX3_stepOnce_15 : decode cX3_stepOnce 15 = .ok (.invokevirtual 76, 3) := by decide +kernel
theorem dX3_stepOnce_18 : decode cX3_stepOnce 18 = .ok (.aload_n 0, 1) := by decide +kernel
theorem dX3_stepOnce_19 : decode cX3_stepOnce 19 = .ok (.bipush 6, 2) := by decide +kernel
theorem dX3_stepOnce_21 : decode cX3_stepOnce 21 = .ok (.iconst 0, 1) := by decide +kernel
theorem dX3_stepOnce_22 : decode cX3_stepOnce 22 = .ok (.iconst 1, 1) := by decide +kernel
theorem dX3_stepOnce_23 : decode cX3_stepOnce 23 = .ok (.invokevirtual 80, 3) := by decide +kernel
theorem dX3_stepOnce_26 : decode cX3_stepOnce 26 = .ok (.aload_n 0, 1) := by decide +kernel
theorem dX3_stepOnce_27 : decode cX3_stepOnce 27 = .ok (.bipush 7, 2) := by decide +kernel
theorem dX3_stepOnce_29 : decode cX3_stepOnce 29 = .ok (.iconst 0, 1) := by decide +kernel
theorem dX3_stepOnce_30 : decode cX3_stepOnce 30 = .ok (.iconst 1, 1) := by decide +kernel
theorem dX3_stepOnce_31 : decode cX3_stepOnce 31 = .ok (.invokevirtual 84, 3) := by decide +kernel
theorem dX3_stepOnce_34 : decode cX3_stepOnce 34 = .ok (.aload_n 0, 1) := by decide +kernel
theorem dX3_stepOnce_35 : decode cX3_stepOnce 35 = .ok (.bipush 8, 2) := by decide +kernel
theorem dX3_stepOnce_37 : decode cX3_stepOnce 37 = .ok (.iconst 2, 1) := by decide +kernel
theorem dX3_stepOnce_38 : decode cX3_stepOnce 38 = .ok (.iconst 3, 1) := by decide +kernel
theorem dX3_stepOnce_39 : decode cX3_stepOnce 39 = .ok (.invokevirtual 80, 3) := by decide +kernel
theorem dX3_stepOnce_42 : decode cX3_stepOnce 42 = .ok (.aload_n 0, 1) := by decide +kernel
theorem dX3_stepOnce_43 : decode cX3_stepOnce 43 = .ok (.bipush 9, 2) := by decide +kernel
theorem dX3_stepOnce_45 : decode cX3_stepOnce 45 = .ok (.iconst 2, 1) := by decide +kernel
theorem dX3_stepOnce_46 : decode cX3_stepOnce 46 = .ok (.iconst 3, 1) := by decide +kernel
theorem dX3_stepOnce_47 : decode cX3_stepOnce 47 = .ok (.invokevirtual 84, 3) := by decide +kernel
theorem dX3_stepOnce_50 : decode cX3_stepOnce 50 = .ok (.aload_n 0, 1) := by decide +kernel
theorem dX3_stepOnce_51 : decode cX3_stepOnce 51 = .ok (.bipush 9, 2) := by decide +kernel
theorem dX3_stepOnce_53 : decode cX3_stepOnce 53 = .ok (.bipush 9, 2) := by decide +kernel
theorem dX3_stepOnce_55 : decode cX3_stepOnce 55 = .ok (.bipush 6, 2) := by decide +kernel
theorem dX3_stepOnce_57 : decode cX3_stepOnce 57 = .ok (.invokevirtual 87, 3) := by decide +kernel
theorem dX3_stepOnce_60 : decode cX3_stepOnce 60 = .ok (.aload_n 0, 1) := by decide +kernel
theorem dX3_stepOnce_61 : decode cX3_stepOnce 61 = .ok (.bipush 8, 2) := by decide +kernel
theorem dX3_stepOnce_63 : decode cX3_stepOnce 63 = .ok (.bipush 8, 2) := by decide +kernel
theorem dX3_stepOnce_65 : decode cX3_stepOnce 65 = .ok (.bipush 7, 2) := by decide +kernel
theorem dX3_stepOnce_67 : decode cX3_stepOnce 67 = .ok (.invokevirtual 87, 3) := by decide +kernel
theorem dX3_stepOnce_70 : decode cX3_stepOnce 70 = .ok (.aload_n 0, 1) := by decide +kernel
theorem dX3_stepOnce_71 : decode cX3_stepOnce 71 = .ok (.bipush 6, 2) := by decide +kernel
theorem dX3_stepOnce_73 : decode cX3_stepOnce 73 = .ok (.bipush 6, 2) := by decide +kernel
theorem dX3_stepOnce_75 : decode cX3_stepOnce 75 = .ok (.bipush 6, 2) := by decide +kernel
theorem dX3_stepOnce_77 : decode cX3_stepOnce 77 = .ok (.invokevirtual 87, 3) := by decide +kernel
theorem dX3_stepOnce_80 : decode cX3_stepOnce 80 = .ok (.aload_n 0, 1) := by decide +kernel
theorem dX3_stepOnce_81 : decode cX3_stepOnce 81 = .ok (.bipush 7, 2) := by decide +kernel
theorem dX3_stepOnce_83 : decode cX3_stepOnce 83 = .ok (.bipush 7, 2) := by decide +kernel
theorem dX3_stepOnce_85 : decode cX3_stepOnce 85 = .ok (.bipush 7, 2) := by decide +kernel
theorem dX3_stepOnce_87 : decode cX3_stepOnce 87 = .ok (.invokevirtual 87, 3) := by decide +kernel
theorem dX3_stepOnce_90 : decode cX3_stepOnce 90 = .ok (.aload_n 0, 1) := by decide +kernel
theorem dX3_stepOnce_91 : decode cX3_stepOnce 91 = .ok (.bipush 10, 2) := by decide +kernel
theorem dX3_stepOnce_93 : decode cX3_stepOnce 93 = .ok (.bipush 6, 2) := by decide +kernel
theorem dX3_stepOnce_95 : decode cX3_stepOnce 95 = .ok (.bipush 7, 2) := by decide +kernel
theorem dX3_stepOnce_97 : decode cX3_stepOnce 97 = .ok (.invokevirtual 84, 3) := by decide +kernel
theorem dX3_stepOnce_100 : decode cX3_stepOnce 100 = .ok (.aload_n 0, 1) := by decide +kernel
theorem dX3_stepOnce_101 : decode cX3_stepOnce 101 = .ok (.iconst 0, 1) := by decide +kernel
theorem dX3_stepOnce_102 : decode cX3_stepOnce 102 = .ok (.bipush 6, 2) := by decide +kernel
theorem dX3_stepOnce_104 : decode cX3_stepOnce 104 = .ok (.bipush 7, 2) := by decide +kernel
theorem dX3_stepOnce_106 : decode cX3_stepOnce 106 = .ok (.invokevirtual 87, 3) := by decide +kernel
theorem dX3_stepOnce_109 : decode cX3_stepOnce 109 = .ok (.aload_n 0, 1) := by decide +kernel
theorem dX3_stepOnce_110 : decode cX3_stepOnce 110 = .ok (.bipush 11, 2) := by decide +kernel
theorem dX3_stepOnce_112 : decode cX3_stepOnce 112 = .ok (.bipush 10, 2) := by decide +kernel
theorem dX3_stepOnce_114 : decode cX3_stepOnce 114 = .ok (.ldc 90, 2) := by decide +kernel
theorem dX3_stepOnce_116 : decode cX3_stepOnce 116 = .ok (.invokevirtual 91, 3) := by decide +kernel
theorem dX3_stepOnce_119 : decode cX3_stepOnce 119 = .ok (.aload_n 0, 1) := by decide +kernel
theorem dX3_stepOnce_120 : decode cX3_stepOnce 120 = .ok (.bipush 11, 2) := by decide +kernel
theorem dX3_stepOnce_122 : decode cX3_stepOnce 122 = .ok (.bipush 11, 2) := by decide +kernel
theorem dX3_stepOnce_124 : decode cX3_stepOnce 124 = .ok (.bipush 6, 2) := by decide +kernel
theorem dX3_stepOnce_126 : decode cX3_stepOnce 126 = .ok (.invokevirtual 80, 3) := by decide +kernel
theorem dX3_stepOnce_129 : decode cX3_stepOnce 129 = .ok (.aload_n 0, 1) := by decide +kernel
theorem dX3_stepOnce_130 : decode cX3_stepOnce 130 = .ok (.iconst 1, 1) := by decide +kernel
theorem dX3_stepOnce_131 : decode cX3_stepOnce 131 = .ok (.bipush 10, 2) := by decide +kernel
theorem dX3_stepOnce_133 : decode cX3_stepOnce 133 = .ok (.bipush 11, 2) := by decide +kernel
theorem dX3_stepOnce_135 : decode cX3_stepOnce 135 = .ok (.invokevirtual 87, 3) := by decide +kernel
theorem dX3_stepOnce_138 : decode cX3_stepOnce 138 = .ok (.aload_n 0, 1) := by decide +kernel
theorem dX3_stepOnce_139 : decode cX3_stepOnce 139 = .ok (.bipush 11, 2) := by decide +kernel
theorem dX3_stepOnce_141 : decode cX3_stepOnce 141 = .ok (.bipush 9, 2) := by decide +kernel
theorem dX3_stepOnce_143 : decode cX3_stepOnce 143 = .ok (.bipush 8, 2) := by decide +kernel
theorem dX3_stepOnce_145 : decode cX3_stepOnce 145 = .ok (.invokevirtual 80, 3) := by decide +kernel
theorem dX3_stepOnce_148 : decode cX3_stepOnce 148 = .ok (.aload_n 0, 1) := by decide +kernel
theorem dX3_stepOnce_149 : decode cX3_stepOnce 149 = .ok (.iconst 2, 1) := by decide +kernel
theorem dX3_stepOnce_150 : decode cX3_stepOnce 150 = .ok (.bipush 11, 2) := by decide +kernel
theorem dX3_stepOnce_152 : decode cX3_stepOnce 152 = .ok (.bipush 11, 2) := by decide +kernel
theorem dX3_stepOnce_154 : decode cX3_stepOnce 154 = .ok (.invokevirtual 87, 3) := by decide +kernel
theorem dX3_stepOnce_157 : decode cX3_stepOnce 157 = .ok (.aload_n 0, 1) := by decide +kernel
theorem dX3_stepOnce_158 : decode cX3_stepOnce 158 = .ok (.bipush 11, 2) := by decide +kernel
theorem dX3_stepOnce_160 : decode cX3_stepOnce 160 = .ok (.bipush 9, 2) := by decide +kernel
theorem dX3_stepOnce_162 : decode cX3_stepOnce 162 = .ok (.bipush 8, 2) := by decide +kernel
theorem dX3_stepOnce_164 : decode cX3_stepOnce 164 = .ok (.invokevirtual 84, 3) := by decide +kernel
theorem dX3_stepOnce_167 : decode cX3_stepOnce 167 = .ok (.aload_n 0, 1) := by decide +kernel
theorem dX3_stepOnce_168 : decode cX3_stepOnce 168 = .ok (.bipush 11, 2) := by decide +kernel
theorem dX3_stepOnce_170 : decode cX3_stepOnce 170 = .ok (.bipush 11, 2) := by decide +kernel
theorem dX3_stepOnce_172 : decode cX3_stepOnce 172 = .ok (.bipush 11, 2) := by decide +kernel
theorem dX3_stepOnce_174 : decode cX3_stepOnce 174 = .ok (.invokevirtual 87, 3) := by decide +kernel
theorem dX3_stepOnce_177 : decode cX3_stepOnce 177 = .ok (.aload_n 0, 1) := by decide +kernel
theorem dX3_stepOnce_178 : decode cX3_stepOnce 178 = .ok (.iconst 3, 1) := by decide +kernel
theorem dX3_stepOnce_179 : decode cX3_stepOnce 179 = .ok (.iconst 4, 1) := by decide +kernel
theorem dX3_stepOnce_180 : decode cX3_stepOnce 180 = .ok (.bipush 11, 2) := by decide +kernel
theorem dX3_stepOnce_182 : decode cX3_stepOnce 182 = .ok (.invokevirtual 87, 3) := by decide +kernel
theorem dX3_stepOnce_185 : decode cX3_stepOnce 185 = .ok (.aload_n 0, 1) := by decide +kernel
theorem dX3_stepOnce_186 : decode cX3_stepOnce 186 = .ok (.iload_n 1, 1) := by decide +kernel
theorem dX3_stepOnce_187 : decode cX3_stepOnce 187 = .ok (.invokevirtual 76, 3) := by decide +kernel
theorem dX3_stepOnce_190 : decode cX3_stepOnce 190 = .ok (.aload_n 0, 1) := by decide +kernel
theorem dX3_stepOnce_191 : decode cX3_stepOnce 191 = .ok (.dup, 1) := by decide +kernel
theorem dX3_stepOnce_192 : decode cX3_stepOnce 192 = .ok (.getfield 61, 3) := by decide +kernel
theorem dX3_stepOnce_195 : decode cX3_stepOnce 195 = .ok (.iconst 1, 1) := by decide +kernel
theorem dX3_stepOnce_196 : decode cX3_stepOnce 196 = .ok (.iadd, 1) := by decide +kernel
theorem dX3_stepOnce_197 : decode cX3_stepOnce 197 = .ok (.putfield 61, 3) := by decide +kernel
theorem dX3_stepOnce_200 : decode cX3_stepOnce 200 = .ok (.return_, 1) := by decide +kernel
set_option maxRecDepth 20000 in
theorem ggX3_step_X3_stepOnce : GoodIn wsX3_step wsX3_stepOnce := goodIn_r _ [7, 2, 8, 9, 10, 11, 6, 12, 13, 14, 15, 16, 17, 18, 19, 20, 21, 22, 23, 24, 25, 26, 27, 28, 29, 30, 31, 32, 33, 34, 35, 36, 37, 38, 39, 40, 41, 42, 43, 44, 45, 46, 47, 48, 49, 50, 51, 52, 53, 54, 55, 56, 57, 58, 59, 60, 61, 62, 63, 64, 65, 66, 67, 68, 69] (by decide +kernel) (by decide +kernel)
set_option maxRecDepth 20000 in
theorem gX3_step_X3_stepOnce : GoodIn wsX3_step (wsV RX3 94 RX3 yX3_stepOnce wsX3_stepOnce) := goodIn_app (goodIn_of _ (by decide +kernel)) ggX3_step_X3_stepOnce
theorem dX3_step_0 : decode cX3_step 0 = .ok (.aload_n 0, 1) := by decide +kernel
theorem dX3_step_1 : decode cX3_step 1 = .ok (.getfield 53, 3) := by decide +kernel
theorem dX3_step_4 : decode cX3_step 4 = .ok (.iconst 1, 1) := by decide +kernel
theorem dX3_step_5 : decode cX3_step 5 = .ok (.if_icmp .ne 8, 3) := by decide +kernel
theorem dX3_step_8 : decode cX3_step 8 = .ok (.iload_n 1, 1) := by decide +kernel
theorem dX3_step_9 : decode cX3_step 9 = .ok (.iconst 1, 1) := by decide +kernel
theorem dX3_step_10 : decode cX3_step 10 = .ok (.if_icmp .ge 5, 3) := by decide +kernel
theorem dX3_step_13 : decode cX3_step 13 = .ok (.iconst (-1), 1) := by decide +kernel
theorem dX3_step_14 : decode cX3_step 14 = .ok (.ireturn, 1) := by decide +kernel
theorem dX3_step_15 : decode cX3_step 15 = .ok (.iconst 0, 1) := by decide +kernel
theorem dX3_step_16 : decode cX3_step 16 = .ok (.istore_n 2, 1) := by decide +kernel
theorem dX3_step_17 : decode cX3_step 17 = .ok (.iload_n 2, 1) := by decide +kernel
theorem dX3_step_18 : decode cX3_step 18 = .ok (.iload_n 1, 1) := by decide +kernel
theorem dX3_step_19 : decode cX3_step 19 = .ok (.if_icmp .ge 23, 3) := by decide +kernel
theorem dX3_step_22 : decode cX3_step 22 = .ok (.aload_n 0, 1) := by decide +kernel
theorem dX3_step_23 : decode cX3_step 23 = .ok (.getfield 61, 3) := by decide +kernel
theorem dX3_step_26 : decode cX3_step 26 = .ok (.sipush 255, 3) := by decide +kernel
theorem dX3_step_29 : decode cX3_step 29 = .ok (.if_icmp .ge 13, 3) := by decide +kernel
theorem dX3_step_32 : decode cX3_step 32 = .ok (.aload_n 0, 1) := by decide +kernel
theorem dX3_step_33 : decode cX3_step 33 = .ok (.invokevirtual 94, 3) := by decide +kernel
theorem dX3_step_36 : decode cX3_step 36 = .ok (.iinc 2 1, 3) := by decide +kernel
theorem dX3_step_39 : decode cX3_step 39 = .ok (.goto (-22), 3) := by decide +kernel
theorem dX3_step_42 : decode cX3_step 42 = .ok (.sipush 255, 3) := by decide +kernel
theorem dX3_step_45 : decode cX3_step 45 = .ok (.aload_n 0, 1) := by decide +kernel
theorem dX3_step_46 : decode cX3_step 46 = .ok (.getfield 61, 3) := by decide +kernel
theorem dX3_step_49 : decode cX3_step 49 = .ok (.isub, 1) := by decide +kernel
theorem dX3_step_50 : decode cX3_step 50 = .ok (.ireturn, 1) := by decide +kernel
set_option maxRecDepth 20000 in
theorem ggX3_finish_X3_setSmall : GoodIn wsX3_finish wsX3_setSmall := goodIn_r _ [8, 9, 33, 34, 35, 36, 37, 38, 39] (by decide +kernel) (by decide +kernel)
set_option maxRecDepth 20000 in
theorem gX3_finish_X3_setSmall : GoodIn wsX3_finish (wsV RX3 67 RX3 yX3_setSmall wsX3_setSmall) := goodIn_app (goodIn_of _ (by decide +kernel)) ggX3_finish_X3_setSmall
set_option maxRecDepth 20000 in
theorem ggX3_finish_X3_multiply : GoodIn wsX3_finish wsX3_multiply := goodIn_r _ [13, 14, 9, 15, 16, 17, 18, 7, 19, 20, 21, 22, 23, 24, 25, 26, 27, 28, 29, 30, 31, 32, 33, 34, 35, 36, 37, 38, 39] (by decide +kernel) (by decide +kernel)
set_option maxRecDepth 20000 in
theorem gX3_finish_X3_multiply : GoodIn wsX3_finish (wsV RX3 87 RX3 yX3_multiply wsX3_multiply) := goodIn_app (goodIn_of _ (by decide +kernel)) ggX3_finish_X3_multiply
theorem dX3_finish_0 : decode cX3_finish 0 = .ok (.aload_n 0, 1) := by decide +kernel
theorem dX3_finish_1 : decode cX3_finish 1 = .ok (.getfield 53, 3) := by decide +kernel
theorem dX3_finish_4 : decode cX3_finish 4 = .ok (.iconst 1, 1) := by decide +kernel
theorem dX3_finish_5 : decode cX3_finish 5 = .ok (.if_icmp .ne 13, 3) := by decide +kernel
theorem dX3_finish_8 : decode cX3_finish 8 = .ok (.aload_n 0, 1) := by decide +kernel
theorem dX3_finish_9 : decode cX3_finish 9 = .ok (.getfield 61, 3) := by decide +kernel
theorem dX3_finish_12 : decode cX3_finish 12 = .ok (.sipush 255, 3) := by decide +kernel
theorem dX3_finish_15 : decode cX3_finish 15 = .ok (.if_icmp .ge 5, 3) := by decide +kernel
theorem dX3_finish_18 : decode cX3_finish 18 = .ok (.iconst 0, 1) := by decide +kernel
theorem dX3_finish_19 : decode cX3_finish 19 = .ok (.ireturn, 1) := by decide +kernel
theorem dX3_finish_20 : decode cX3_finish 20 = .ok (.aload_n 0, 1) := by decide +kernel
theorem dX3_finish_21 : decode cX3_finish 21 = .ok (.bipush 6, 2) := by decide +kernel
theorem dX3_finish_23 : decode cX3_finish 23 = .ok (.iconst 1, 1) := by decide +kernel
theorem dX3_finish_24 : decode cX3_finish 24 = .ok (.invokevirtual 67, 3) := by decide +kernel
theorem dX3_finish_27 : decode cX3_finish 27 = .ok (.sipush 254, 3) := by decide +kernel
theorem dX3_finish_30 : decode cX3_finish 30 = .ok (.istore_n 1, 1) := by decide +kernel
theorem dX3_finish_31 : decode cX3_finish 31 = .ok (.iload_n 1, 1) := by decide +kernel
theorem dX3_finish_32 : decode cX3_finish 32 = .ok (.ifCond .lt 43, 3) := by decide +kernel
theorem dX3_finish_35 : decode cX3_finish 35 = .ok (.aload_n 0, 1) := by decide +kernel
theorem dX3_finish_36 : decode cX3_finish 36 = .ok (.bipush 6, 2) := by decide +kernel
theorem dX3_finish_38 : decode cX3_finish 38 = .ok (.bipush 6, 2) := by decide +kernel
theorem dX3_finish_40 : decode cX3_finish 40 = .ok (.bipush 6, 2) := by decide +kernel
theorem dX3_finish_42 : decode cX3_finish 42 = .ok (.invokevirtual 87, 3) := by decide +kernel
theorem dX3_finish_45 : decode cX3_finish 45 = .ok (.iload_n 1, 1) := by decide +kernel
theorem dX3_finish_46 : decode cX3_finish 46 = .ok (.iconst 5, 1) := by decide +kernel
theorem dX3_finish_47 : decode cX3_finish 47 = .ok (.if_icmp .ge 13, 3) := by decide +kernel
theorem dX3_finish_50 : decode cX3_finish 50 = .ok (.iload_n 1, 1) := by decide +kernel
theorem dX3_finish_51 : decode cX3_finish 51 = .ok (.iconst 3, 1) := by decide +kernel
theorem dX3_finish_52 : decode cX3_finish 52 = .ok (.if_icmp .eq 8, 3) := by decide +kernel
theorem dX3_finish_55 : decode cX3_finish 55 = .ok (.iload_n 1, 1) := by decide +kernel
theorem dX3_finish_56 : decode cX3_finish 56 = .ok (.iconst 2, 1) := by decide +kernel
theorem dX3_finish_57 : decode cX3_finish 57 = .ok (.if_icmp .ge 12, 3) := by decide +kernel
theorem dX3_finish_60 : decode cX3_finish 60 = .ok (.aload_n 0, 1) := by decide +kernel
theorem dX3_finish_61 : decode cX3_finish 61 = .ok (.bipush 6, 2) := by decide +kernel
theorem dX3_finish_63 : decode cX3_finish 63 = .ok (.bipush 6, 2) := by decide +kernel
theorem dX3_finish_65 : decode cX3_finish 65 = .ok (.iconst 1, 1) := by decide +kernel
theorem dX3_finish_66 : decode cX3_finish 66 = .ok (.invokevirtual 87, 3) := by decide +kernel
theorem dX3_finish_69 : decode cX3_finish 69 = .ok (.iinc 1 (-1), 3) := by decide +kernel
theorem dX3_finish_72 : decode cX3_finish 72 = .ok (.goto (-41), 3) := by decide +kernel
theorem dX3_finish_75 : decode cX3_finish 75 = .ok (.aload_n 0, 1) := by decide +kernel
theorem dX3_finish_76 : decode cX3_finish 76 = .ok (.iconst 5, 1) := by decide +kernel
theorem dX3_finish_77 : decode cX3_finish 77 = .ok (.iconst 0, 1) := by decide +kernel
theorem dX3_finish_78 : decode cX3_finish 78 = .ok (.bipush 6, 2) := by decide +kernel
theorem dX3_finish_80 : decode cX3_finish 80 = .ok (.invokevirtual 87, 3) := by decide +kernel
theorem dX3_finish_83 : decode cX3_finish 83 = .ok (.aload_n 0, 1) := by decide +kernel
theorem dX3_finish_84 : decode cX3_finish 84 = .ok (.iconst 2, 1) := by decide +kernel
theorem dX3_finish_85 : decode cX3_finish 85 = .ok (.putfield 53, 3) := by decide +kernel
theorem dX3_finish_88 : decode cX3_finish 88 = .ok (.aload_n 0, 1) := by decide +kernel
theorem dX3_finish_89 : decode cX3_finish 89 = .ok (.dup, 1) := by decide +kernel
theorem dX3_finish_90 : decode cX3_finish 90 = .ok (.getfield 97, 3) := by decide +kernel
theorem dX3_finish_93 : decode cX3_finish 93 = .ok (.iconst 1, 1) := by decide +kernel
theorem dX3_finish_94 : decode cX3_finish 94 = .ok (.iadd, 1) := by decide +kernel
theorem dX3_finish_95 : decode cX3_finish 95 = .ok (.putfield 97, 3) := by decide +kernel
theorem dX3_finish_98 : decode cX3_finish 98 = .ok (.iconst 1, 1) := by decide +kernel
theorem dX3_finish_99 : decode cX3_finish 99 = .ok (.ireturn, 1) := by decide +kernel
set_option maxRecDepth 20000 in
theorem ggX3_again_X3_longOf : GoodIn wsX3_again wsX3_longOf := goodIn_r _ [7, 8, 9, 10, 11, 12, 13, 14, 15, 16] (by decide +kernel) (by decide +kernel)
set_option maxRecDepth 20000 in
theorem gX3_again_X3_longOf : GoodIn wsX3_again (wsV RX3 100 RX3 yX3_longOf wsX3_longOf) := goodIn_app (goodIn_of _ (by decide +kernel)) ggX3_again_X3_longOf
theorem dX3_again_0 : decode cX3_again 0 = .ok (.aload_n 0, 1) := by decide +kernel
theorem dX3_again_1 : decode cX3_again 1 = .ok (.getfield 53, 3) := by decide +kernel
theorem dX3_again_4 : decode cX3_again 4 = .ok (.iconst 2, 1) := by decide +kernel
theorem dX3_again_5 : decode cX3_again 5 = .ok (.if_icmp .eq 5, 3) := by decide +kernel
theorem dX3_again_8 : decode cX3_again 8 = .ok (.iconst 0, 1) := by decide +kernel
theorem dX3_again_9 : decode cX3_again 9 = .ok (.ireturn, 1) := by decide +kernel
theorem dX3_again_10 : decode cX3_again 10 = .ok (.iconst 0, 1) := by decide +kernel
theorem dX3_again_11 : decode cX3_again 11 = .ok (.istore_n 1, 1) := by decide +kernel
theorem dX3_again_12 : decode cX3_again 12 = .ok (.iload_n 1, 1) := by decide +kernel
theorem dX3_again_13 : decode cX3_again 13 = .ok (.iconst 4, 1) := by decide +kernel
theorem dX3_again_14 : decode cX3_again 14 = .ok (.if_icmp .ge 21, 3) := by decide +kernel
theorem dX3_again_17 : decode cX3_again 17 = .ok (.aload_n 0, 1) := by decide +kernel
theorem dX3_again_18 : decode cX3_again 18 = .ok (.getfield 13, 3) := by decide +kernel
theorem dX3_again_21 : decode cX3_again 21 = .ok (.iload_n 1, 1) := by decide +kernel
theorem dX3_again_22 : decode cX3_again 22 = .ok (.aload_n 0, 1) := by decide +kernel
theorem dX3_again_23 : decode cX3_again 23 = .ok (.iconst 5, 1) := by decide +kernel
theorem dX3_again_24 : decode cX3_again 24 = .ok (.iload_n 1, 1) := by decide +kernel
theorem dX3_again_25 : decode cX3_again 25 = .ok (.invokevirtual 100, 3) := by decide +kernel
theorem dX3_again_28 : decode cX3_again 28 = .ok (.lastore, 1) := by decide +kernel
theorem dX3_again_29 : decode cX3_again 29 = .ok (.iinc 1 1, 3) := by decide +kernel
theorem dX3_again_32 : decode cX3_again 32 = .ok (.goto (-20), 3) := by decide +kernel
theorem dX3_again_35 : decode cX3_again 35 = .ok (.aload_n 0, 1) := by decide +kernel
theorem dX3_again_36 : decode cX3_again 36 = .ok (.iconst 0, 1) := by decide +kernel
theorem dX3_again_37 : decode cX3_again 37 = .ok (.putfield 53, 3) := by decide +kernel
theorem dX3_again_40 : decode cX3_again 40 = .ok (.iconst 1, 1) := by decide +kernel
theorem dX3_again_41 : decode cX3_again 41 = .ok (.ireturn, 1) := by decide +kernel
theorem dX3_reset_0 : decode cX3_reset 0 = .ok (.aload_n 0, 1) := by decide +kernel
theorem dX3_reset_1 : decode cX3_reset 1 = .ok (.getfield 53, 3) := by decide +kernel
theorem dX3_reset_4 : decode cX3_reset 4 = .ok (.istore_n 1, 1) := by decide +kernel
theorem dX3_reset_5 : decode cX3_reset 5 = .ok (.aload_n 0, 1) := by decide +kernel
theorem dX3_reset_6 : decode cX3_reset 6 = .ok (.iconst 0, 1) := by decide +kernel
theorem dX3_reset_7 : decode cX3_reset 7 = .ok (.putfield 53, 3) := by decide +kernel
theorem dX3_reset_10 : decode cX3_reset 10 = .ok (.iload_n 1, 1) := by decide +kernel
theorem dX3_reset_11 : decode cX3_reset 11 = .ok (.ireturn, 1) := by decide +kernel
theorem dX3_phase_0 : decode cX3_phase 0 = .ok (.aload_n 0, 1) := by decide +kernel
theorem dX3_phase_1 : decode cX3_phase 1 = .ok (.getfield 53, 3) := by decide +kernel
theorem dX3_phase_4 : decode cX3_phase 4 = .ok (.ireturn, 1) := by decide +kernel
set_option maxRecDepth 20000 in
theorem ggX3_out_X3_isLong : GoodIn wsX3_out wsX3_isLong := goodIn_r _ [5] (by decide +kernel) (by decide +kernel)
set_option maxRecDepth 20000 in
theorem gX3_out_X3_isLong : GoodIn wsX3_out (va_wsS RX3 57 yX3_isLong wsX3_isLong) := goodIn_app (goodIn_of _ (by decide +kernel)) ggX3_out_X3_isLong
set_option maxRecDepth 20000 in
theorem ggX3_out_X3_longOf : GoodIn wsX3_out wsX3_longOf := goodIn_r _ [9, 10, 11, 12, 13, 14, 15, 16, 17, 18] (by decide +kernel) (by decide +kernel)
set_option maxRecDepth 20000 in
theorem gX3_out_X3_longOf : GoodIn wsX3_out (wsV RX3 100 RX3 yX3_longOf wsX3_longOf) := goodIn_app (goodIn_of _ (by decide +kernel)) ggX3_out_X3_longOf
theorem dX3_out_0 : decode cX3_out 0 = .ok (.aload_n 0, 1) := by decide +kernel
theorem dX3_out_1 : decode cX3_out 1 = .ok (.getfield 53, 3) := by decide +kernel
theorem dX3_out_4 : decode cX3_out 4 = .ok (.iconst 2, 1) := by decide +kernel
theorem dX3_out_5 : decode cX3_out 5 = .ok (.if_icmp .ne 19, 3) := by decide +kernel
theorem dX3_out_8 : decode cX3_out 8 = .ok (.iload_n 1, 1) := by decide +kernel
theorem dX3_out_9 : decode cX3_out 9 = .ok (.invokestatic 57, 3) := by decide +kernel
theorem dX3_out_12 : decode cX3_out 12 = .ok (.ifCond .eq 12, 3) := by decide +kernel
theorem dX3_out_15 : decode cX3_out 15 = .ok (.aload_n 0, 1) := by decide +kernel
theorem dX3_out_16 : decode cX3_out 16 = .ok (.iconst 5, 1) := by decide +kernel
theorem dX3_out_17 : decode cX3_out 17 = .ok (.iload_n 1, 1) := by decide +kernel
theorem dX3_out_18 : decode cX3_out 18 = .ok (.invokevirtual 100, 3) := by decide +kernel
theorem dX3_out_21 : decode cX3_out 21 = .ok (.goto 4, 3) := by decide +kernel
theorem dX3_out_24 : decode cX3_out 24 = .ok (.lconst 0, 1) := by decide +kernel
theorem dX3_out_25 : decode cX3_out 25 = .ok (.lreturn, 1) := by decide +kernel
set_option maxRecDepth 20000 in
theorem ggX3_part_X3_isLong : GoodIn wsX3_part wsX3_isLong := goodIn_r _ [5] (by decide +kernel) (by decide +kernel)
set_option maxRecDepth 20000 in
theorem gX3_part_X3_isLong : GoodIn wsX3_part (va_wsS RX3 57 yX3_isLong wsX3_isLong) := goodIn_app (goodIn_of _ (by decide +kernel)) ggX3_part_X3_isLong
set_option maxRecDepth 20000 in
theorem ggX3_part_X3_longOf : GoodIn wsX3_part wsX3_longOf := goodIn_r _ [9, 10, 11, 12, 13, 14, 15, 16, 17, 18] (by decide +kernel) (by decide +kernel)
set_option maxRecDepth 20000 in
theorem gX3_part_X3_longOf : GoodIn wsX3_part (wsV RX3 100 RX3 yX3_longOf wsX3_longOf) := goodIn_app (goodIn_of _ (by decide +kernel)) ggX3_part_X3_longOf
theorem dX3_part_0 : decode cX3_part 0 = .ok (.aload_n 0, 1) := by decide +kernel
theorem dX3_part_1 : decode cX3_part 1 = .ok (.getfield 53, 3) := by decide +kernel
theorem dX3_part_4 : decode cX3_part 4 = .ok (.ifCond .le 28, 3) := by decide +kernel
theorem dX3_part_7 : decode cX3_part 7 = .ok (.iload_n 1, 1) := by decide +kernel
theorem dX3_part_8 : decode cX3_part 8 = .ok (.ifCond .lt 24, 3) := by decide +kernel
theorem dX3_part_11 : decode cX3_part 11 = .ok (.iload_n 1, 1) := by decide +kernel
theorem dX3_part_12 : decode cX3_part 12 = .ok (.iconst 4, 1) := by decide +kernel
theorem dX3_part_13 : decode cX3_part 13 = .ok (.if_icmp .gt 19, 3) := by decide +kernel
theorem dX3_part_16 : decode cX3_part 16 = .ok (.iload_n 2, 1) := by decide +kernel
theorem dX3_part_17 : decode cX3_part 17 = .ok (.invokestatic 57, 3) := by decide +kernel
theorem dX3_part_20 : decode cX3_part 20 = .ok (.ifCond .eq 12, 3) := by decide +kernel
theorem dX3_part_23 : decode cX3_part 23 = .ok (.aload_n 0, 1) := by decide +kernel
theorem dX3_part_24 : decode cX3_part 24 = .ok (.iload_n 1, 1) := by decide +kernel
theorem dX3_part_25 : decode cX3_part 25 = .ok (.iload_n 2, 1) := by decide +kernel
theorem dX3_part_26 : decode cX3_part 26 = .ok (.invokevirtual 100, 3) := by decide +kernel
theorem dX3_part_29 : decode cX3_part 29 = .ok (.goto 4, 3) := by decide +kernel
theorem dX3_part_32 : decode cX3_part 32 = .ok (.lconst 0, 1) := by decide +kernel
theorem dX3_part_33 : decode cX3_part 33 = .ok (.lreturn, 1) := by decide +kernel
set_option maxRecDepth 20000 in
theorem ggX3_told_X3_isLong : GoodIn wsX3_told wsX3_isLong := goodIn_r _ [10] (by decide +kernel) (by decide +kernel)
set_option maxRecDepth 20000 in
theorem gX3_told_X3_isLong : GoodIn wsX3_told (va_wsS RX3 57 yX3_isLong wsX3_isLong) := goodIn_app (goodIn_of _ (by decide +kernel)) ggX3_told_X3_isLong
set_option maxRecDepth 20000 in
theorem ggX3_told_X3_makeU : GoodIn wsX3_told wsX3_makeU := goodIn_r _ [14, 15, 2, 16, 17, 18, 19, 20, 9, 21, 22, 23, 24, 25, 26, 27, 28, 29, 30, 31, 32, 33, 39, 40, 41, 42, 43, 44, 45] (by decide +kernel) (by decide +kernel)
set_option maxRecDepth 20000 in
theorem gX3_told_X3_makeU : GoodIn wsX3_told (wsV RX3 64 RX3 yX3_makeU wsX3_makeU) := goodIn_app (goodIn_of _ (by decide +kernel)) ggX3_told_X3_makeU
set_option maxRecDepth 20000 in
theorem ggX3_told_X3_longOf : GoodIn wsX3_told wsX3_longOf := goodIn_r _ [37, 38, 24, 39, 40, 41, 42, 43, 44, 45] (by decide +kernel) (by decide +kernel)
set_option maxRecDepth 20000 in
theorem gX3_told_X3_longOf : GoodIn wsX3_told (wsV RX3 100 RX3 yX3_longOf wsX3_longOf) := goodIn_app (goodIn_of _ (by decide +kernel)) ggX3_told_X3_longOf
theorem dX3_told_0 : decode cX3_told 0 = .ok (.iload_n 2, 1) := by decide +kernel
theorem dX3_told_1 : decode cX3_told 1 = .ok (.invokestatic 57, 3) := by decide +kernel
theorem dX3_told_4 : decode cX3_told 4 = .ok (.ifCond .ne 5, 3) := by decide +kernel
theorem dX3_told_7 : decode cX3_told 7 = .ok (.lconst 0, 1) := by decide +kernel
theorem dX3_told_8 : decode cX3_told 8 = .ok (.lreturn, 1) := by decide +kernel
theorem dX3_told_9 : decode cX3_told 9 = .ok (.iload_n 1, 1) := by decide +kernel
theorem dX3_told_10 : decode cX3_told 10 = .ok (.ifCond .ne 10, 3) := by decide +kernel
theorem dX3_told_13 : decode cX3_told 13 = .ok (.aload_n 0, 1) := by decide +kernel
theorem dX3_told_14 : decode cX3_told 14 = .ok (.getfield 7, 3) := by decide +kernel
theorem dX3_told_17 : decode cX3_told 17 = .ok (.iload_n 2, 1) := by decide +kernel
theorem dX3_told_18 : decode cX3_told 18 = .ok (.laload, 1) := by decide +kernel
theorem dX3_told_19 : decode cX3_told 19 = .ok (.lreturn, 1) := by decide +kernel
theorem dX3_told_20 : decode cX3_told 20 = .ok (.iload_n 1, 1) := by decide +kernel
theorem dX3_told_21 : decode cX3_told 21 = .ok (.iconst 1, 1) := by decide +kernel
theorem dX3_told_22 : decode cX3_told 22 = .ok (.if_icmp .ne 10, 3) := by decide +kernel
theorem dX3_told_25 : decode cX3_told 25 = .ok (.aload_n 0, 1) := by decide +kernel
theorem dX3_told_26 : decode cX3_told 26 = .ok (.getfield 13, 3) := by decide +kernel
theorem dX3_told_29 : decode cX3_told 29 = .ok (.iload_n 2, 1) := by decide +kernel
theorem dX3_told_30 : decode cX3_told 30 = .ok (.laload, 1) := by decide +kernel
theorem dX3_told_31 : decode cX3_told 31 = .ok (.lreturn, 1) := by decide +kernel
theorem dX3_told_32 : decode cX3_told 32 = .ok (.iload_n 1, 1) := by decide +kernel
theorem dX3_told_33 : decode cX3_told 33 = .ok (.iconst 2, 1) := by decide +kernel
theorem dX3_told_34 : decode cX3_told 34 = .ok (.if_icmp .ne 46, 3) := by decide +kernel
theorem dX3_told_37 : decode cX3_told 37 = .ok (.iload_n 2, 1) := by decide +kernel
theorem dX3_told_38 : decode cX3_told 38 = .ok (.ifCond .ne 16, 3) := by decide +kernel
theorem dX3_told_41 : decode cX3_told 41 = .ok (.aload_n 0, 1) := by decide +kernel
theorem dX3_told_42 : decode cX3_told 42 = .ok (.getfield 7, 3) := by decide +kernel
theorem dX3_told_45 : decode cX3_told 45 = .ok (.iconst 0, 1) := by decide +kernel
theorem dX3_told_46 : decode cX3_told 46 = .ok (.laload, 1) := by decide +kernel
theorem dX3_told_47 : decode cX3_told 47 = .ok (.ldc2_w 104, 3) := by decide +kernel
theorem dX3_told_50 : decode cX3_told 50 = .ok (.land, 1) := by decide +kernel
theorem dX3_told_51 : decode cX3_told 51 = .ok (.goto 9, 3) := by decide +kernel
theorem dX3_told_54 : decode cX3_told 54 = .ok (.aload_n 0, 1) := by decide +kernel
theorem dX3_told_55 : decode cX3_told 55 = .ok (.getfield 7, 3) := by decide +kernel
theorem dX3_told_58 : decode cX3_told 58 = .ok (.iload_n 2, 1) := by decide +kernel
theorem dX3_told_59 : decode cX3_told 59 = .ok (.laload, 1) := by decide +kernel
theorem dX3_told_60 : decode cX3_told 60 = .ok (.lstore_n 3, 1) := by decide +kernel
theorem dX3_told_61 : decode cX3_told 61 = .ok (.iload_n 2, 1) := by decide +kernel
theorem dX3_told_62 : decode cX3_told 62 = .ok (.iconst 3, 1) := by decide +kernel
theorem dX3_told_63 : decode cX3_told 63 = .ok (.if_icmp .ne 15, 3) := by decide +kernel
theorem dX3_told_66 : decode cX3_told 66 = .ok (.lload_n 3, 1) := by decide +kernel
theorem dX3_told_67 : decode cX3_told 67 = .ok (.ldc2_w 106, 3) := by decide +kernel
theorem dX3_told_70 : decode cX3_told 70 = .ok (.land, 1) := by decide +kernel
theorem dX3_told_71 : decode cX3_told 71 = .ok (.ldc2_w 108, 3) := by decide +kernel
theorem dX3_told_74 : decode cX3_told 74 = .ok (.lor, 1) := by decide +kernel
theorem dX3_told_75 : decode cX3_told 75 = .ok (.goto 4, 3) := by decide +kernel
theorem dX3_told_78 : decode cX3_told 78 = .ok (.lload_n 3, 1) := by decide +kernel
theorem dX3_told_79 : decode cX3_told 79 = .ok (.lreturn, 1) := by decide +kernel
theorem dX3_told_80 : decode cX3_told 80 = .ok (.iload_n 1, 1) := by decide +kernel
theorem dX3_told_81 : decode cX3_told 81 = .ok (.iconst 3, 1) := by decide +kernel
theorem dX3_told_82 : decode cX3_told 82 = .ok (.if_icmp .eq 5, 3) := by decide +kernel
theorem dX3_told_85 : decode cX3_told 85 = .ok (.lconst 0, 1) := by decide +kernel
theorem dX3_told_86 : decode cX3_told 86 = .ok (.lreturn, 1) := by decide +kernel
theorem dX3_told_87 : decode cX3_told 87 = .ok (.aload_n 0, 1) := by decide +kernel
theorem dX3_told_88 : decode cX3_told 88 = .ok (.getfield 53, 3) := by decide +kernel
theorem dX3_told_91 : decode cX3_told 91 = .ok (.ifCond .ne 7, 3) := by decide +kernel
theorem dX3_told_94 : decode cX3_told 94 = .ok (.aload_n 0, 1) := by decide +kernel
theorem dX3_told_95 : decode cX3_told 95 = .ok (.invokevirtual 64, 3) := by decide +kernel
theorem dX3_told_98 : decode cX3_told 98 = .ok (.aload_n 0, 1) := by decide +kernel
theorem dX3_told_99 : decode cX3_told 99 = .ok (.iconst 4, 1) := by decide +kernel
theorem dX3_told_100 : decode cX3_told 100 = .ok (.iload_n 2, 1) := by decide +kernel
theorem dX3_told_101 : decode cX3_told 101 = .ok (.invokevirtual 100, 3) := by decide +kernel
theorem dX3_told_104 : decode cX3_told 104 = .ok (.lreturn, 1) := by decide +kernel
theorem dX3_count_0 : decode cX3_count 0 = .ok (.iload_n 1, 1) := by decide +kernel
theorem dX3_count_1 : decode cX3_count 1 = .ok (.ifCond .ne 21, 3) := by decide +kernel
theorem dX3_count_4 : decode cX3_count 4 = .ok (.aload_n 0, 1) := by decide +kernel
theorem dX3_count_5 : decode cX3_count 5 = .ok (.getfield 53, 3) := by decide +kernel
theorem dX3_count_8 : decode cX3_count 8 = .ok (.ifCond .ne 7, 3) := by decide +kernel
theorem dX3_count_11 : decode cX3_count 11 = .ok (.iconst 0, 1) := by decide +kernel
theorem dX3_count_12 : decode cX3_count 12 = .ok (.goto 23, 3) := by decide +kernel
theorem dX3_count_15 : decode cX3_count 15 = .ok (.aload_n 0, 1) := by decide +kernel
theorem dX3_count_16 : decode cX3_count 16 = .ok (.getfield 61, 3) := by decide +kernel
theorem dX3_count_19 : decode cX3_count 19 = .ok (.goto 16, 3) := by decide +kernel
theorem dX3_count_22 : decode cX3_count 22 = .ok (.iload_n 1, 1) := by decide +kernel
theorem dX3_count_23 : decode cX3_count 23 = .ok (.iconst 1, 1) := by decide +kernel
theorem dX3_count_24 : decode cX3_count 24 = .ok (.if_icmp .ne 10, 3) := by decide +kernel
theorem dX3_count_27 : decode cX3_count 27 = .ok (.aload_n 0, 1) := by decide +kernel
theorem dX3_count_28 : decode cX3_count 28 = .ok (.getfield 97, 3) := by decide +kernel
theorem dX3_count_31 : decode cX3_count 31 = .ok (.goto 4, 3) := by decide +kernel
theorem dX3_count_34 : decode cX3_count 34 = .ok (.iconst (-1), 1) := by decide +kernel
theorem dX3_count_35 : decode cX3_count 35 = .ok (.ireturn, 1) := by decide +kernel
set_option maxRecDepth 20000 in
theorem ggX3_check_X3_multiply : GoodIn wsX3_check wsX3_multiply := goodIn_r _ [6, 7, 8, 9, 10, 11, 12, 5, 13, 14, 15, 16, 17, 18, 19, 20, 21, 22, 23, 24, 25, 26, 35, 36, 37, 38, 39, 40, 41] (by decide +kernel) (by decide +kernel)
set_option maxRecDepth 20000 in
theorem gX3_check_X3_multiply : GoodIn wsX3_check (wsV RX3 87 RX3 yX3_multiply wsX3_multiply) := goodIn_app (goodIn_of _ (by decide +kernel)) ggX3_check_X3_multiply
set_option maxRecDepth 20000 in
theorem ggX3_check_X3_isZero : GoodIn wsX3_check wsX3_isZero := goodIn_r _ [30, 8, 35, 36, 37, 38, 39, 40, 41] (by decide +kernel) (by decide +kernel)
set_option maxRecDepth 20000 in
theorem gX3_check_X3_isZero : GoodIn wsX3_check (wsV RX3 110 RX3 yX3_isZero wsX3_isZero) := goodIn_app (goodIn_of _ (by decide +kernel)) ggX3_check_X3_isZero
set_option maxRecDepth 20000 in
theorem ggX3_check_X3_isSame : GoodIn wsX3_check wsX3_isSame := goodIn_r _ [34, 8, 35, 36, 37, 38, 39, 40, 41] (by decide +kernel) (by decide +kernel)
set_option maxRecDepth 20000 in
theorem gX3_check_X3_isSame : GoodIn wsX3_check (wsV RX3 113 RX3 yX3_isSame wsX3_isSame) := goodIn_app (goodIn_of _ (by decide +kernel)) ggX3_check_X3_isSame
theorem dX3_check_0 : decode cX3_check 0 = .ok (.aload_n 0, 1) := by decide +kernel
theorem dX3_check_1 : decode cX3_check 1 = .ok (.getfield 53, 3) := by decide +kernel
theorem dX3_check_4 : decode cX3_check 4 = .ok (.iconst 2, 1) := by decide +kernel
theorem dX3_check_5 : decode cX3_check 5 = .ok (.if_icmp .eq 5, 3) := by decide +kernel
theorem dX3_check_8 : decode cX3_check 8 = .ok (.iconst 1, 1) := by decide +kernel
theorem dX3_check_9 : decode cX3_check 9 = .ok (.ireturn, 1) := by decide +kernel
theorem dX3_check_10 : decode cX3_check 10 = .ok (.aload_n 0, 1) := by decide +kernel
theorem dX3_check_11 : decode cX3_check 11 = .ok (.bipush 11, 2) := by decide +kernel
theorem dX3_check_13 : decode cX3_check 13 = .ok (.iconst 5, 1) := by decide +kernel
theorem dX3_check_14 : decode cX3_check 14 = .ok (.iconst 1, 1) := by decide +kernel
theorem dX3_check_15 : decode cX3_check 15 = .ok (.invokevirtual 87, 3) := by decide +kernel
theorem dX3_check_18 : decode cX3_check 18 = .ok (.aload_n 0, 1) := by decide +kernel
theorem dX3_check_19 : decode cX3_check 19 = .ok (.iconst 1, 1) := by decide +kernel
theorem dX3_check_20 : decode cX3_check 20 = .ok (.invokevirtual 110, 3) := by decide +kernel
theorem dX3_check_23 : decode cX3_check 23 = .ok (.ifCond .eq 11, 3) := by decide +kernel
theorem dX3_check_26 : decode cX3_check 26 = .ok (.aload_n 0, 1) := by decide +kernel
theorem dX3_check_27 : decode cX3_check 27 = .ok (.iconst 5, 1) := by decide +kernel
theorem dX3_check_28 : decode cX3_check 28 = .ok (.invokevirtual 110, 3) := by decide +kernel
theorem dX3_check_31 : decode cX3_check 31 = .ok (.goto 10, 3) := by decide +kernel
theorem dX3_check_34 : decode cX3_check 34 = .ok (.aload_n 0, 1) := by decide +kernel
theorem dX3_check_35 : decode cX3_check 35 = .ok (.bipush 11, 2) := by decide +kernel
theorem dX3_check_37 : decode cX3_check 37 = .ok (.iconst 0, 1) := by decide +kernel
theorem dX3_check_38 : decode cX3_check 38 = .ok (.invokevirtual 113, 3) := by decide +kernel
theorem dX3_check_41 : decode cX3_check 41 = .ok (.istore_n 1, 1) := by decide +kernel
theorem dX3_check_42 : decode cX3_check 42 = .ok (.iload_n 1, 1) := by decide +kernel
theorem dX3_check_43 : decode cX3_check 43 = .ok (.ifCond .eq 7, 3) := by decide +kernel
theorem dX3_check_46 : decode cX3_check 46 = .ok (.iconst 1, 1) := by decide +kernel
theorem dX3_check_47 : decode cX3_check 47 = .ok (.goto 4, 3) := by decide +kernel
theorem dX3_check_50 : decode cX3_check 50 = .ok (.iconst 0, 1) := by decide +kernel
theorem dX3_check_51 : decode cX3_check 51 = .ok (.ireturn, 1) := by decide +kernel
theorem dJ9_min_7cf53_0 : decode cJ9_min_7cf53 0 = .ok (.iload_n 0, 1) := by decide +kernel
theorem dJ9_min_7cf53_1 : decode cJ9_min_7cf53 1 = .ok (.iload_n 1, 1) := by decide +kernel
theorem dJ9_min_7cf53_2 : decode cJ9_min_7cf53 2 = .ok (.if_icmp .gt 7, 3) := by decide +kernel
theorem dJ9_min_7cf53_5 : decode cJ9_min_7cf53 5 = .ok (.iload_n 0, 1) := by decide +kernel
theorem dJ9_min_7cf53_6 : decode cJ9_min_7cf53 6 = .ok (.goto 4, 3) := by decide +kernel
theorem dJ9_min_7cf53_9 : decode cJ9_min_7cf53 9 = .ok (.iload_n 1, 1) := by decide +kernel
theorem dJ9_min_7cf53_10 : decode cJ9_min_7cf53 10 = .ok (.ireturn, 1) := by decide +kernel
theorem dJ7_fill_d0a16_0 : decode cJ7_fill_d0a16 0 = .ok (.iconst 0, 1) := by decide +kernel
theorem dJ7_fill_d0a16_1 : decode cJ7_fill_d0a16 1 = .ok (.istore_n 3, 1) := by decide +kernel
theorem dJ7_fill_d0a16_2 : decode cJ7_fill_d0a16 2 = .ok (.aload_n 0, 1) := by decide +kernel
theorem dJ7_fill_d0a16_3 : decode cJ7_fill_d0a16 3 = .ok (.arraylength, 1) := by decide +kernel
theorem dJ7_fill_d0a16_4 : decode cJ7_fill_d0a16 4 = .ok (.istore 4, 2) := by decide +kernel
theorem dJ7_fill_d0a16_6 : decode cJ7_fill_d0a16 6 = .ok (.iload_n 3, 1) := by decide +kernel
theorem dJ7_fill_d0a16_7 : decode cJ7_fill_d0a16 7 = .ok (.iload 4, 2) := by decide +kernel
theorem dJ7_fill_d0a16_9 : decode cJ7_fill_d0a16 9 = .ok (.if_icmp .ge 13, 3) := by decide +kernel
theorem dJ7_fill_d0a16_12 : decode cJ7_fill_d0a16 12 = .ok (.aload_n 0, 1) := by decide +kernel
theorem dJ7_fill_d0a16_13 : decode cJ7_fill_d0a16 13 = .ok (.iload_n 3, 1) := by decide +kernel
theorem dJ7_fill_d0a16_14 : decode cJ7_fill_d0a16 14 = .ok (.lload_n 1, 1) := by decide +kernel
theorem dJ7_fill_d0a16_15 : decode cJ7_fill_d0a16 15 = .ok (.lastore, 1) := by decide +kernel
theorem dJ7_fill_d0a16_16 : decode cJ7_fill_d0a16 16 = .ok (.iinc 3 1, 3) := by decide +kernel
theorem dJ7_fill_d0a16_19 : decode cJ7_fill_d0a16 19 = .ok (.goto (-13), 3) := by decide +kernel
theorem dJ7_fill_d0a16_22 : decode cJ7_fill_d0a16 22 = .ok (.return_, 1) := by decide +kernel
set_option maxRecDepth 20000 in
theorem ggL_law_X2_init : GoodIn wsL_law wsX2_init := goodIn_r _ [9, 10, 11, 12, 13, 14, 15, 16, 17, 18, 19, 20, 21, 22, 23, 24, 25, 26, 27, 28, 29, 30, 31, 32, 33, 34, 35, 36, 37, 38, 39, 40, 41, 42, 43, 44, 45, 46, 47, 48, 49, 50, 51, 52, 53, 54, 55, 56, 57, 58, 59, 401, 402, 403, 404, 405, 406, 407, 408, 416, 417, 418, 419, 420, 421, 422, 423, 424, 425, 426, 427, 428, 429, 430, 431, 432, 433, 434, 435] (by decide +kernel) (by decide +kernel)
set_option maxRecDepth 20000 in
theorem gL_law_X2_init : GoodIn wsL_law (wsX2_init) := ggL_law_X2_init
set_option maxRecDepth 20000 in
theorem ggL_law_X3_init : GoodIn wsL_law wsX3_init := goodIn_r _ [62, 63, 11, 12, 13, 64, 65, 66, 67, 68, 409, 410, 411, 412, 413, 414, 415] (by decide +kernel) (by decide +kernel)
set_option maxRecDepth 20000 in
theorem gL_law_X3_init : GoodIn wsL_law (wsX3_init) := ggL_law_X3_init
set_option maxRecDepth 20000 in
theorem ggL_law_X2_scalar : GoodIn wsL_law wsX2_scalar := goodIn_r _ [72, 14, 73, 74, 75, 2, 76, 22, 77, 78, 79, 401, 402, 403, 404, 405, 406, 407, 408] (by decide +kernel) (by decide +kernel)
set_option maxRecDepth 20000 in
theorem gL_law_X2_scalar : GoodIn wsL_law (wsV RL 15 RX2 yX2_scalar wsX2_scalar) := goodIn_app (goodIn_of _ (by decide +kernel)) ggL_law_X2_scalar
set_option maxRecDepth 20000 in
theorem ggL_law_X3_scalar : GoodIn wsL_law wsX3_scalar := goodIn_r _ [83, 84, 64, 85, 86, 5, 87, 409, 410, 411, 412, 413, 414, 415] (by decide +kernel) (by decide +kernel)
set_option maxRecDepth 20000 in
theorem gL_law_X3_scalar : GoodIn wsL_law (wsV RL 19 RX3 yX3_scalar wsX3_scalar) := goodIn_app (goodIn_of _ (by decide +kernel)) ggL_law_X3_scalar
set_option maxRecDepth 20000 in
theorem ggL_law_X2_point : GoodIn wsL_law wsX2_point := goodIn_r _ [91, 15, 73, 74, 75, 2, 76, 22, 77, 78, 79, 401, 402, 403, 404, 405, 406, 407, 408] (by decide +kernel) (by decide +kernel)
set_option maxRecDepth 20000 in
theorem gL_law_X2_point : GoodIn wsL_law (wsV RL 20 RX2 yX2_point wsX2_point) := goodIn_app (goodIn_of _ (by decide +kernel)) ggL_law_X2_point
set_option maxRecDepth 20000 in
theorem ggL_law_X3_point : GoodIn wsL_law wsX3_point := goodIn_r _ [95, 84, 65, 85, 86, 5, 87, 409, 410, 411, 412, 413, 414, 415] (by decide +kernel) (by decide +kernel)
set_option maxRecDepth 20000 in
theorem gL_law_X3_point : GoodIn wsL_law (wsV RL 23 RX3 yX3_point wsX3_point) := goodIn_app (goodIn_of _ (by decide +kernel)) ggL_law_X3_point
set_option maxRecDepth 20000 in
theorem ggL_law_X2_start : GoodIn wsL_law wsX2_start := goodIn_r _ [99, 22, 17, 21, 23, 100, 101, 102, 2, 103, 15, 104, 105, 106, 107, 108, 109, 110, 31, 111, 112, 113, 114, 115, 116, 117, 118, 20, 119, 33, 34, 35, 36, 37, 120, 121, 122, 123, 124, 125, 126, 127, 128, 129, 130, 401, 402, 403, 404, 405, 406, 407, 408, 416, 417, 418, 419, 420, 421, 422, 423, 424, 425, 426, 427, 428, 429, 430, 431, 432, 433] (by decide +kernel) (by decide +kernel)
set_option maxRecDepth 20000 in
theorem gL_law_X2_start : GoodIn wsL_law (wsV RL 24 RX2 yX2_start wsX2_start) := goodIn_app (goodIn_of _ (by decide +kernel)) ggL_law_X2_start
set_option maxRecDepth 20000 in
theorem ggL_law_X3_start : GoodIn wsL_law wsX3_start := goodIn_r _ [134, 84, 135, 136, 137, 138, 5, 139, 68, 65, 140, 141, 142, 143, 144, 145, 146, 147, 67, 148, 149, 150, 151, 152, 153, 154, 155, 156, 157, 158, 159, 160, 161, 162, 163, 164, 409, 410, 411, 412, 413, 414, 415] (by decide +kernel) (by decide +kernel)
set_option maxRecDepth 20000 in
theorem gL_law_X3_start : GoodIn wsL_law (wsV RL 28 RX3 yX3_start wsX3_start) := goodIn_app (goodIn_of _ (by decide +kernel)) ggL_law_X3_start
set_option maxRecDepth 20000 in
theorem ggL_law_X2_step : GoodIn wsL_law wsX2_step := goodIn_r _ [168, 22, 23, 169, 170, 171, 172, 21, 173, 174, 175, 2, 176, 177, 178, 179, 180, 14, 181, 108, 182, 183, 184, 185, 20, 186, 187, 188, 189, 190, 34, 36, 35, 37, 191, 192, 193, 194, 38, 39, 40, 41, 195, 196, 31, 197, 198, 199, 200, 201, 202, 203, 204, 205, 206, 32, 43, 44, 42, 47, 207, 208, 209, 210, 54, 211, 212, 213, 214, 215, 127, 128, 129, 130, 216, 217, 218, 219, 123, 220, 221, 222, 223, 224, 225, 226, 227, 228, 229, 230, 45, 46, 33, 401, 402, 403, 404, 405, 406, 407, 408, 416, 417, 418, 419, 420, 421, 422, 423, 424, 425, 426, 427, 428, 429, 430, 431, 432, 433, 434, 435] (by decide +kernel) (by decide +kernel)
set_option maxRecDepth 20000 in
theorem gL_law_X2_step : GoodIn wsL_law (wsV RL 29 RX2 yX2_step wsX2_step) := goodIn_app (goodIn_of _ (by decide +kernel)) ggL_law_X2_step
set_option maxRecDepth 20000 in
theorem ggL_law_X3_step : GoodIn wsL_law wsX3_step := goodIn_r _ [234, 84, 135, 235, 236, 237, 5, 238, 239, 240, 241, 242, 243, 64, 244, 245, 246, 247, 248, 249, 250, 251, 161, 162, 163, 164, 67, 252, 253, 254, 255, 68, 142, 143, 144, 145, 140, 146, 141, 147, 148, 149, 150, 151, 152, 153, 154, 155, 156, 256, 257, 258, 259, 260, 261, 262, 263, 264, 265, 266, 267, 268, 269, 409, 410, 411, 412, 413, 414, 415] (by decide +kernel) (by decide +kernel)
set_option maxRecDepth 20000 in
theorem gL_law_X3_step : GoodIn wsL_law (wsV RL 33 RX3 yX3_step wsX3_step) := goodIn_app (goodIn_of _ (by decide +kernel)) ggL_law_X3_step
set_option maxRecDepth 20000 in
theorem ggL_law_X2_finish : GoodIn wsL_law wsX2_finish := goodIn_r _ [273, 22, 23, 21, 16, 24, 274, 275, 276, 20, 277, 32, 47, 35, 34, 278, 279, 280, 31, 281, 282, 105, 106, 107, 283, 208, 209, 210, 54, 211, 212, 213, 214, 215, 127, 128, 129, 130, 216, 217, 218, 219, 123, 220, 221, 222, 207, 284, 285, 286, 287, 55, 288, 289, 290, 115, 291, 292, 293, 294, 295, 110, 111, 112, 113, 114, 401, 402, 403, 404, 405, 406, 407, 408, 416, 417, 418, 419, 420, 421, 422, 423, 424, 425, 426, 427, 428, 429, 430, 431, 432, 433, 434, 435] (by decide +kernel) (by decide +kernel)
set_option maxRecDepth 20000 in
theorem gL_law_X2_finish : GoodIn wsL_law (wsV RL 34 RX2 yX2_finish wsX2_finish) := goodIn_app (goodIn_of _ (by decide +kernel)) ggL_law_X2_finish
set_option maxRecDepth 20000 in
theorem ggL_law_X3_finish : GoodIn wsL_law wsX3_finish := goodIn_r _ [299, 84, 135, 300, 157, 158, 159, 5, 160, 67, 261, 262, 263, 264, 68, 265, 142, 143, 144, 145, 140, 146, 141, 147, 148, 149, 150, 151, 152, 153, 154, 155, 156, 409, 410, 411, 412, 413, 414, 415] (by decide +kernel) (by decide +kernel)
set_option maxRecDepth 20000 in
theorem gL_law_X3_finish : GoodIn wsL_law (wsV RL 37 RX3 yX3_finish wsX3_finish) := goodIn_app (goodIn_of _ (by decide +kernel)) ggL_law_X3_finish
set_option maxRecDepth 20000 in
theorem ggL_law_X2_again : GoodIn wsL_law wsX2_again := goodIn_r _ [304, 22, 16, 15, 104, 105, 106, 107, 401, 402, 403, 404, 405, 406, 407, 408] (by decide +kernel) (by decide +kernel)
set_option maxRecDepth 20000 in
theorem gL_law_X2_again : GoodIn wsL_law (wsV RL 38 RX2 yX2_again wsX2_again) := goodIn_app (goodIn_of _ (by decide +kernel)) ggL_law_X2_again
set_option maxRecDepth 20000 in
theorem ggL_law_X3_again : GoodIn wsL_law wsX3_again := goodIn_r _ [308, 84, 65, 309, 310, 311, 5, 312, 260, 67, 409, 410, 411, 412, 413, 414, 415] (by decide +kernel) (by decide +kernel)
set_option maxRecDepth 20000 in
theorem gL_law_X3_again : GoodIn wsL_law (wsV RL 41 RX3 yX3_again wsX3_again) := goodIn_app (goodIn_of _ (by decide +kernel)) ggL_law_X3_again
set_option maxRecDepth 20000 in
theorem ggL_law_X2_reset : GoodIn wsL_law wsX2_reset := goodIn_r _ [316, 22, 401, 402, 403, 404, 405, 406, 407, 408] (by decide +kernel) (by decide +kernel)
set_option maxRecDepth 20000 in
theorem gL_law_X2_reset : GoodIn wsL_law (wsV RL 42 RX2 yX2_reset wsX2_reset) := goodIn_app (goodIn_of _ (by decide +kernel)) ggL_law_X2_reset
set_option maxRecDepth 20000 in
theorem ggL_law_X3_reset : GoodIn wsL_law wsX3_reset := goodIn_r _ [320, 84, 409, 410, 411, 412, 413, 414, 415] (by decide +kernel) (by decide +kernel)
set_option maxRecDepth 20000 in
theorem gL_law_X3_reset : GoodIn wsL_law (wsV RL 45 RX3 yX3_reset wsX3_reset) := goodIn_app (goodIn_of _ (by decide +kernel)) ggL_law_X3_reset
set_option maxRecDepth 20000 in
theorem ggL_law_X2_phase : GoodIn wsL_law wsX2_phase := goodIn_r _ [324, 22, 401, 402, 403, 404, 405, 406, 407, 408] (by decide +kernel) (by decide +kernel)
set_option maxRecDepth 20000 in
theorem gL_law_X2_phase : GoodIn wsL_law (wsV RL 46 RX2 yX2_phase wsX2_phase) := goodIn_app (goodIn_of _ (by decide +kernel)) ggL_law_X2_phase
set_option maxRecDepth 20000 in
theorem ggL_law_X3_phase : GoodIn wsL_law wsX3_phase := goodIn_r _ [328, 84, 409, 410, 411, 412, 413, 414, 415] (by decide +kernel) (by decide +kernel)
set_option maxRecDepth 20000 in
theorem gL_law_X3_phase : GoodIn wsL_law (wsV RL 49 RX3 yX3_phase wsX3_phase) := goodIn_app (goodIn_of _ (by decide +kernel)) ggL_law_X3_phase
set_option maxRecDepth 20000 in
theorem ggL_law_X2_out : GoodIn wsL_law wsX2_out := goodIn_r _ [332, 22, 16, 77, 78, 2, 79, 401, 402, 403, 404, 405, 406, 407, 408] (by decide +kernel) (by decide +kernel)
set_option maxRecDepth 20000 in
theorem gL_law_X2_out : GoodIn wsL_law (wsV RL 50 RX2 yX2_out wsX2_out) := goodIn_app (goodIn_of _ (by decide +kernel)) ggL_law_X2_out
set_option maxRecDepth 20000 in
theorem ggL_law_X3_out : GoodIn wsL_law wsX3_out := goodIn_r _ [336, 84, 85, 86, 5, 87, 309, 310, 311, 312, 260, 67, 409, 410, 411, 412, 413, 414, 415] (by decide +kernel) (by decide +kernel)
set_option maxRecDepth 20000 in
theorem gL_law_X3_out : GoodIn wsL_law (wsV RL 54 RX3 yX3_out wsX3_out) := goodIn_app (goodIn_of _ (by decide +kernel)) ggL_law_X3_out
set_option maxRecDepth 20000 in
theorem ggL_law_X2_part : GoodIn wsL_law wsX2_part := goodIn_r _ [340, 22, 21, 17, 341, 342, 20, 343, 77, 78, 2, 79, 344, 345, 346, 347, 32, 348, 349, 350, 351, 34, 35, 36, 37, 33, 284, 285, 286, 31, 287, 55, 282, 105, 106, 107, 288, 289, 290, 123, 115, 291, 292, 293, 294, 127, 128, 129, 130, 295, 110, 111, 112, 113, 114, 401, 402, 403, 404, 405, 406, 407, 408, 416, 417, 418, 419, 420, 421, 422, 423, 424, 425, 426, 427, 428, 429, 430, 431, 432, 433, 434, 435] (by decide +kernel) (by decide +kernel)
set_option maxRecDepth 20000 in
theorem gL_law_X2_part : GoodIn wsL_law (wsV RL 55 RX2 yX2_part wsX2_part) := goodIn_app (goodIn_of _ (by decide +kernel)) ggL_law_X2_part
set_option maxRecDepth 20000 in
theorem ggL_law_X3_part : GoodIn wsL_law wsX3_part := goodIn_r _ [355, 84, 85, 86, 5, 87, 309, 310, 311, 312, 260, 67, 409, 410, 411, 412, 413, 414, 415] (by decide +kernel) (by decide +kernel)
set_option maxRecDepth 20000 in
theorem gL_law_X3_part : GoodIn wsL_law (wsV RL 59 RX3 yX3_part wsX3_part) := goodIn_app (goodIn_of _ (by decide +kernel)) ggL_law_X3_part
set_option maxRecDepth 20000 in
theorem ggL_law_X2_told : GoodIn wsL_law wsX2_told := goodIn_r _ [359, 14, 15, 17, 77, 78, 2, 79, 177, 178, 179, 180, 181, 108, 182, 100, 101, 102, 103, 104, 105, 106, 107, 109, 110, 31, 111, 112, 113, 114, 115, 401, 402, 403, 404, 405, 406, 407, 408] (by decide +kernel) (by decide +kernel)
set_option maxRecDepth 20000 in
theorem gL_law_X2_told : GoodIn wsL_law (wsV RL 60 RX2 yX2_told wsX2_told) := goodIn_app (goodIn_of _ (by decide +kernel)) ggL_law_X2_told
set_option maxRecDepth 20000 in
theorem ggL_law_X3_told : GoodIn wsL_law wsX3_told := goodIn_r _ [363, 64, 65, 364, 365, 366, 84, 85, 86, 5, 87, 136, 137, 138, 139, 68, 140, 141, 142, 143, 144, 145, 146, 147, 67, 148, 149, 150, 151, 152, 153, 154, 155, 156, 309, 310, 311, 312, 260, 409, 410, 411, 412, 413, 414, 415] (by decide +kernel) (by decide +kernel)
set_option maxRecDepth 20000 in
theorem gL_law_X3_told : GoodIn wsL_law (wsV RL 63 RX3 yX3_told wsX3_told) := goodIn_app (goodIn_of _ (by decide +kernel)) ggL_law_X3_told
set_option maxRecDepth 20000 in
theorem ggL_law_X2_count : GoodIn wsL_law wsX2_count := goodIn_r _ [370, 22, 23, 24, 401, 402, 403, 404, 405, 406, 407, 408] (by decide +kernel) (by decide +kernel)
set_option maxRecDepth 20000 in
theorem gL_law_X2_count : GoodIn wsL_law (wsV RL 64 RX2 yX2_count wsX2_count) := goodIn_app (goodIn_of _ (by decide +kernel)) ggL_law_X2_count
set_option maxRecDepth 20000 in
theorem ggL_law_X3_count : GoodIn wsL_law wsX3_count := goodIn_r _ [374, 84, 135, 300, 409, 410, 411, 412, 413, 414, 415] (by decide +kernel) (by decide +kernel)
set_option maxRecDepth 20000 in
theorem gL_law_X3_count : GoodIn wsL_law (wsV RL 67 RX3 yX3_count wsX3_count) := goodIn_app (goodIn_of _ (by decide +kernel)) ggL_law_X3_count
set_option maxRecDepth 20000 in
theorem ggL_law_X2_check : GoodIn wsL_law wsX2_check := goodIn_r _ [378, 22, 21, 16, 379, 380, 381, 20, 382, 32, 48, 35, 47, 49, 34, 284, 285, 286, 31, 287, 55, 282, 105, 106, 107, 288, 289, 290, 123, 115, 291, 292, 293, 294, 127, 128, 129, 130, 295, 110, 111, 112, 113, 114, 383, 384, 385, 120, 121, 122, 207, 208, 209, 210, 54, 211, 212, 213, 214, 215, 216, 217, 218, 219, 220, 221, 222, 386, 387, 388, 401, 402, 403, 404, 405, 406, 407, 408, 416, 417, 418, 419, 420, 421, 422, 423, 424, 425, 426, 427, 428, 429, 430, 431, 432, 433, 434, 435] (by decide +kernel) (by decide +kernel)
set_option maxRecDepth 20000 in
theorem gL_law_X2_check : GoodIn wsL_law (wsV RL 68 RX2 yX2_check wsX2_check) := goodIn_app (goodIn_of _ (by decide +kernel)) ggL_law_X2_check
set_option maxRecDepth 20000 in
theorem ggL_law_X3_check : GoodIn wsL_law wsX3_check := goodIn_r _ [392, 84, 261, 262, 263, 5, 264, 68, 67, 265, 142, 143, 144, 145, 140, 146, 141, 147, 148, 149, 150, 151, 152, 153, 154, 155, 156, 393, 394, 395, 396, 397, 398, 399, 400, 409, 410, 411, 412, 413, 414, 415] (by decide +kernel) (by decide +kernel)
set_option maxRecDepth 20000 in
theorem gL_law_X3_check : GoodIn wsL_law (wsV RL 71 RX3 yX3_check wsX3_check) := goodIn_app (goodIn_of _ (by decide +kernel)) ggL_law_X3_check
theorem dL_law_0 : decode cL_law 0 = .ok (.new 7, 3) := by decide +kernel
theorem dL_law_3 : decode cL_law 3 = .ok (.dup, 1) := by decide +kernel
theorem dL_law_4 : decode cL_law 4 = .ok (.invokespecial 9, 3) := by decide +kernel
theorem dL_law_7 : decode cL_law 7 = .ok (.astore_n 1, 1) := by decide +kernel
theorem dL_law_8 : decode cL_law 8 = .ok (.new 10, 3) := by decide +kernel
theorem dL_law_11 : decode cL_law 11 = .ok (.dup, 1) := by decide +kernel
theorem dL_law_12 : decode cL_law 12 = .ok (.invokespecial 12, 3) := by decide +kernel
theorem dL_law_15 : decode cL_law 15 = .ok (.astore_n 2, 1) := by decide +kernel
theorem dL_law_16 : decode cL_law 16 = .ok (.iconst 0, 1) := by decide +kernel
theorem dL_law_17 : decode cL_law 17 = .ok (.istore_n 3, 1) := by decide +kernel
theorem dL_law_18 : decode cL_law 18 = .ok (.iload_n 3, 1) := by decide +kernel
theorem dL_law_19 : decode cL_law 19 = .ok (.aload_n 0, 1) := by decide +kernel
theorem dL_law_20 : decode cL_law 20 = .ok (.arraylength, 1) := by decide +kernel
theorem dL_law_21 : decode cL_law 21 = .ok (.iconst 4, 1) := by decide +kernel
theorem dL_law_22 : decode cL_law 22 = .ok (.isub, 1) := by decide +kernel
theorem dL_law_23 : decode cL_law 23 = .ok (.if_icmp .gt 425, 3) := by decide +kernel
theorem dL_law_26 : decode cL_law 26 = .ok (.aload_n 0, 1) := by decide +kernel
theorem dL_law_27 : decode cL_law 27 = .ok (.iload_n 3, 1) := by decide +kernel
theorem dL_law_28 : decode cL_law 28 = .ok (.iaload, 1) := by decide +kernel
theorem dL_law_29 : decode cL_law 29 = .ok (.bipush 15, 2) := by decide +kernel
theorem dL_law_31 : decode cL_law 31 = .ok (.iand, 1) := by decide +kernel
theorem dL_law_32 : decode cL_law 32 = .ok (.tableswitch 410 0 12 #[68, 131, 194, 207, 230, 243, 256, 269, 282, 306, 340, 374, 397], 68) := by decide +kernel
theorem dL_law_100 : decode cL_law 100 = .ok (.aload_n 1, 1) := by decide +kernel
theorem dL_law_101 : decode cL_law 101 = .ok (.aload_n 0, 1) := by decide +kernel
theorem dL_law_102 : decode cL_law 102 = .ok (.iload_n 3, 1) := by decide +kernel
theorem dL_law_103 : decode cL_law 103 = .ok (.iconst 1, 1) := by decide +kernel
theorem dL_law_104 : decode cL_law 104 = .ok (.iadd, 1) := by decide +kernel
theorem dL_law_105 : decode cL_law 105 = .ok (.iaload, 1) := by decide +kernel
theorem dL_law_106 : decode cL_law 106 = .ok (.aload_n 0, 1) := by decide +kernel
theorem dL_law_107 : decode cL_law 107 = .ok (.iload_n 3, 1) := by decide +kernel
theorem dL_law_108 : decode cL_law 108 = .ok (.iconst 2, 1) := by decide +kernel
theorem dL_law_109 : decode cL_law 109 = .ok (.iadd, 1) := by decide +kernel
theorem dL_law_110 : decode cL_law 110 = .ok (.iaload, 1) := by decide +kernel
theorem dL_law_111 : decode cL_law 111 = .ok (.i2l, 1) := by decide +kernel
theorem dL_law_112 : decode cL_law 112 = .ok (.bipush 32, 2) := by decide +kernel
theorem dL_law_114 : decode cL_law 114 = .ok (.lshl, 1) := by decide +kernel
theorem dL_law_115 : decode cL_law 115 = .ok (.aload_n 0, 1) := by decide +kernel
theorem dL_law_116 : decode cL_law 116 = .ok (.iload_n 3, 1) := by decide +kernel
theorem dL_law_117 : decode cL_law 117 = .ok (.iconst 3, 1) := by decide +kernel
theorem dL_law_118 : decode cL_law 118 = .ok (.iadd, 1) := by decide +kernel
theorem dL_law_119 : decode cL_law 119 = .ok (.iaload, 1) := by decide +kernel
theorem dL_law_120 : decode cL_law 120 = .ok (.i2l, 1) := by decide +kernel
theorem dL_law_121 : decode cL_law 121 = .ok (.ldc2_w 13, 3) := by decide +kernel
theorem dL_law_124 : decode cL_law 124 = .ok (.land, 1) := by decide +kernel
theorem dL_law_125 : decode cL_law 125 = .ok (.lor, 1) := by decide +kernel
theorem dL_law_126 : decode cL_law 126 = .ok (.invokevirtual 15, 3) := by decide +kernel
theorem dL_law_129 : decode cL_law 129 = .ok (.aload_n 2, 1) := by decide +kernel
theorem dL_law_130 : decode cL_law 130 = .ok (.aload_n 0, 1) := by decide +kernel
theorem dL_law_131 : decode cL_law 131 = .ok (.iload_n 3, 1) := by decide +kernel
theorem dL_law_132 : decode cL_law 132 = .ok (.iconst 1, 1) := by decide +kernel
theorem dL_law_133 : decode cL_law 133 = .ok (.iadd, 1) := by decide +kernel
theorem dL_law_134 : decode cL_law 134 = .ok (.iaload, 1) := by decide +kernel
theorem dL_law_135 : decode cL_law 135 = .ok (.aload_n 0, 1) := by decide +kernel
theorem dL_law_136 : decode cL_law 136 = .ok (.iload_n 3, 1) := by decide +kernel
theorem dL_law_137 : decode cL_law 137 = .ok (.iconst 2, 1) := by decide +kernel
theorem dL_law_138 : decode cL_law 138 = .ok (.iadd, 1) := by decide +kernel
theorem dL_law_139 : decode cL_law 139 = .ok (.iaload, 1) := by decide +kernel
theorem dL_law_140 : decode cL_law 140 = .ok (.i2l, 1) := by decide +kernel
theorem dL_law_141 : decode cL_law 141 = .ok (.bipush 32, 2) := by decide +kernel
theorem dL_law_143 : decode cL_law 143 = .ok (.lshl, 1) := by decide +kernel
theorem dL_law_144 : decode cL_law 144 = .ok (.aload_n 0, 1) := by decide +kernel
theorem dL_law_145 : decode cL_law 145 = .ok (.iload_n 3, 1) := by decide +kernel
theorem dL_law_146 : decode cL_law 146 = .ok (.iconst 3, 1) := by decide +kernel
theorem dL_law_147 : decode cL_law 147 = .ok (.iadd, 1) := by decide +kernel
theorem dL_law_148 : decode cL_law 148 = .ok (.iaload, 1) := by decide +kernel
theorem dL_law_149 : decode cL_law 149 = .ok (.i2l, 1) := by decide +kernel
theorem dL_law_150 : decode cL_law 150 = .ok (.ldc2_w 13, 3) := by decide +kernel
theorem dL_law_153 : decode cL_law 153 = .ok (.land, 1) := by decide +kernel
theorem dL_law_154 : decode cL_law 154 = .ok (.lor, 1) := by decide +kernel
theorem dL_law_155 : decode cL_law 155 = .ok (.invokevirtual 19, 3) := by decide +kernel
theorem dL_law_158 : decode cL_law 158 = .ok (.if_icmp .eq 284, 3) := by decide +kernel
theorem dL_law_161 : decode cL_law 161 = .ok (.iconst 0, 1) := by decide +kernel
theorem dL_law_162 : decode cL_law 162 = .ok (.ireturn, 1) := by decide +kernel
theorem dL_law_163 : decode cL_law 163 = .ok (.aload_n 1, 1) := by decide +kernel
theorem dL_law_164 : decode cL_law 164 = .ok (.aload_n 0, 1) := by decide +kernel
theorem dL_law_165 : decode cL_law 165 = .ok (.iload_n 3, 1) := by decide +kernel
theorem dL_law_166 : decode cL_law 166 = .ok (.iconst 1, 1) := by decide +kernel
theorem dL_law_167 : decode cL_law 167 = .ok (.iadd, 1) := by decide +kernel
theorem dL_law_168 : decode cL_law 168 = .ok (.iaload, 1) := by decide +kernel
theorem dL_law_169 : decode cL_law 169 = .ok (.aload_n 0, 1) := by decide +kernel
theorem dL_law_170 : decode cL_law 170 = .ok (.iload_n 3, 1) := by decide +kernel
theorem dL_law_171 : decode cL_law 171 = .ok (.iconst 2, 1) := by decide +kernel
theorem dL_law_172 : decode cL_law 172 = .ok (.iadd, 1) := by decide +kernel
theorem dL_law_173 : decode cL_law 173 = .ok (.iaload, 1) := by decide +kernel
theorem dL_law_174 : decode cL_law 174 = .ok (.i2l, 1) := by decide +kernel
theorem dL_law_175 : decode cL_law 175 = .ok (.bipush 32, 2) := by decide +kernel
theorem dL_law_177 : decode cL_law 177 = .ok (.lshl, 1) := by decide +kernel
theorem dL_law_178 : decode cL_law 178 = .ok (.aload_n 0, 1) := by decide +kernel
theorem dL_law_179 : decode cL_law 179 = .ok (.iload_n 3, 1) := by decide +kernel
theorem dL_law_180 : decode cL_law 180 = .ok (.iconst 3, 1) := by decide +kernel
theorem dL_law_181 : decode cL_law 181 = .ok (.iadd, 1) := by decide +kernel
theorem dL_law_182 : decode cL_law 182 = .ok (.iaload, 1) := by decide +kernel
theorem dL_law_183 : decode cL_law 183 = .ok (.i2l, 1) := by decide +kernel
theorem dL_law_184 : decode cL_law 184 = .ok (.ldc2_w 13, 3) := by decide +kernel
theorem dL_law_187 : decode cL_law 187 = .ok (.land, 1) := by decide +kernel
theorem dL_law_188 : decode cL_law 188 = .ok (.lor, 1) := by decide +kernel
theorem dL_law_189 : decode cL_law 189 = .ok (.invokevirtual 20, 3) := by decide +kernel
theorem dL_law_192 : decode cL_law 192 = .ok (.aload_n 2, 1) := by decide +kernel
theorem dL_law_193 : decode cL_law 193 = .ok (.aload_n 0, 1) := by decide +kernel
theorem dL_law_194 : decode cL_law 194 = .ok (.iload_n 3, 1) := by decide +kernel
theorem dL_law_195 : decode cL_law 195 = .ok (.iconst 1, 1) := by decide +kernel
theorem dL_law_196 : decode cL_law 196 = .ok (.iadd, 1) := by decide +kernel
theorem dL_law_197 : decode cL_law 197 = .ok (.iaload, 1) := by decide +kernel
theorem dL_law_198 : decode cL_law 198 = .ok (.aload_n 0, 1) := by decide +kernel
theorem dL_law_199 : decode cL_law 199 = .ok (.iload_n 3, 1) := by decide +kernel
theorem dL_law_200 : decode cL_law 200 = .ok (.iconst 2, 1) := by decide +kernel
theorem dL_law_201 : decode cL_law 201 = .ok (.iadd, 1) := by decide +kernel
theorem dL_law_202 : decode cL_law 202 = .ok (.iaload, 1) := by decide +kernel
theorem dL_law_203 : decode cL_law 203 = .ok (.i2l, 1) := by decide +kernel
theorem dL_law_204 : decode cL_law 204 = .ok (.bipush 32, 2) := by decide +kernel
theorem dL_law_206 : decode cL_law 206 = .ok (.lshl, 1) := by decide +kernel
theorem dL_law_207 : decode cL_law 207 = .ok (.aload_n 0, 1) := by decide +kernel
theorem dL_law_208 : decode cL_law 208 = .ok (.iload_n 3, 1) := by decide +kernel
theorem dL_law_209 : decode cL_law 209 = .ok (.iconst 3, 1) := by decide +kernel
theorem dL_law_210 : decode cL_law 210 = .ok (.iadd, 1) := by decide +kernel
theorem dL_law_211 : decode cL_law 211 = .ok (.iaload, 1) := by decide +kernel
theorem dL_law_212 : decode cL_law 212 = .ok (.i2l, 1) := by decide +kernel
theorem dL_law_213 : decode cL_law 213 = .ok (.ldc2_w 13, 3) := by decide +kernel
theorem dL_law_216 : decode cL_law 216 = .ok (.land, 1) := by decide +kernel
theorem dL_law_217 : decode cL_law 217 = .ok (.lor, 1) := by decide +kernel
theorem dL_law_218 : decode cL_law 218 = .ok (.invokevirtual 23, 3) := by decide +kernel
theorem dL_law_221 : decode cL_law 221 = .ok (.if_icmp .eq 221, 3) := by decide +kernel
theorem dL_law_224 : decode cL_law 224 = .ok (.iconst 0, 1) := by decide +kernel
theorem dL_law_225 : decode cL_law 225 = .ok (.ireturn, 1) := by decide +kernel
theorem dL_law_226 : decode cL_law 226 = .ok (.aload_n 1, 1) := by decide +kernel
theorem dL_law_227 : decode cL_law 227 = .ok (.invokevirtual 24, 3) := by decide +kernel
theorem dL_law_230 : decode cL_law 230 = .ok (.aload_n 2, 1) := by decide +kernel
theorem dL_law_231 : decode cL_law 231 = .ok (.invokevirtual 28, 3) := by decide +kernel
theorem dL_law_234 : decode cL_law 234 = .ok (.if_icmp .eq 208, 3) := by decide +kernel
theorem dL_law_237 : decode cL_law 237 = .ok (.iconst 0, 1) := by decide +kernel
theorem dL_law_238 : decode cL_law 238 = .ok (.ireturn, 1) := by decide +kernel
theorem dL_law_239 : decode cL_law 239 = .ok (.aload_n 1, 1) := by decide +kernel
theorem dL_law_240 : decode cL_law 240 = .ok (.aload_n 0, 1) := by decide +kernel
theorem dL_law_241 : decode cL_law 241 = .ok (.iload_n 3, 1) := by decide +kernel
theorem dL_law_242 : decode cL_law 242 = .ok (.iconst 1, 1) := by decide +kernel
theorem dL_law_243 : decode cL_law 243 = .ok (.iadd, 1) := by decide +kernel
theorem dL_law_244 : decode cL_law 244 = .ok (.iaload, 1) := by decide +kernel
theorem dL_law_245 : decode cL_law 245 = .ok (.invokevirtual 29, 3) := by decide +kernel
theorem dL_law_248 : decode cL_law 248 = .ok (.aload_n 2, 1) := by decide +kernel
theorem dL_law_249 : decode cL_law 249 = .ok (.aload_n 0, 1) := by decide +kernel
theorem dL_law_250 : decode cL_law 250 = .ok (.iload_n 3, 1) := by decide +kernel
theorem dL_law_251 : decode cL_law 251 = .ok (.iconst 1, 1) := by decide +kernel
theorem dL_law_252 : decode cL_law 252 = .ok (.iadd, 1) := by decide +kernel
theorem dL_law_253 : decode cL_law 253 = .ok (.iaload, 1) := by decide +kernel
theorem dL_law_254 : decode cL_law 254 = .ok (.invokevirtual 33, 3) := by decide +kernel
theorem dL_law_257 : decode cL_law 257 = .ok (.if_icmp .eq 185, 3) := by decide +kernel
theorem dL_law_260 : decode cL_law 260 = .ok (.iconst 0, 1) := by decide +kernel
theorem dL_law_261 : decode cL_law 261 = .ok (.ireturn, 1) := by decide +kernel
theorem dL_law_262 : decode cL_law 262 = .ok (.aload_n 1, 1) := by decide +kernel
theorem dL_law_263 : decode cL_law 263 = .ok (.invokevirtual 34, 3) := by decide +kernel
theorem dL_law_266 : decode cL_law 266 = .ok (.aload_n 2, 1) := by decide +kernel
theorem dL_law_267 : decode cL_law 267 = .ok (.invokevirtual 37, 3) := by decide +kernel
theorem dL_law_270 : decode cL_law 270 = .ok (.if_icmp .eq 172, 3) := by decide +kernel
theorem dL_law_273 : decode cL_law 273 = .ok (.iconst 0, 1) := by decide +kernel
theorem dL_law_274 : decode cL_law 274 = .ok (.ireturn, 1) := by decide +kernel
theorem dL_law_275 : decode cL_law 275 = .ok (.aload_n 1, 1) := by decide +kernel
theorem dL_law_276 : decode cL_law 276 = .ok (.invokevirtual 38, 3) := by decide +kernel
theorem dL_law_279 : decode cL_law 279 = .ok (.aload_n 2, 1) := by decide +kernel
theorem dL_law_280 : decode cL_law 280 = .ok (.invokevirtual 41, 3) := by decide +kernel
theorem dL_law_283 : decode cL_law 283 = .ok (.if_icmp .eq 159, 3) := by decide +kernel
theorem dL_law_286 : decode cL_law 286 = .ok (.iconst 0, 1) := by decide +kernel
theorem dL_law_287 : decode cL_law 287 = .ok (.ireturn, 1) := by decide +kernel
theorem dL_law_288 : decode cL_law 288 = .ok (.aload_n 1, 1) := by decide +kernel
theorem dL_law_289 : decode cL_law 289 = .ok (.invokevirtual 42, 3) := by decide +kernel
theorem dL_law_292 : decode cL_law 292 = .ok (.aload_n 2, 1) := by decide +kernel
theorem dL_law_293 : decode cL_law 293 = .ok (.invokevirtual 45, 3) := by decide +kernel
theorem dL_law_296 : decode cL_law 296 = .ok (.if_icmp .eq 146, 3) := by decide +kernel
theorem dL_law_299 : decode cL_law 299 = .ok (.iconst 0, 1) := by decide +kernel
theorem dL_law_300 : decode cL_law 300 = .ok (.ireturn, 1) := by decide +kernel
theorem dL_law_301 : decode cL_law 301 = .ok (.aload_n 1, 1) := by decide +kernel
theorem dL_law_302 : decode cL_law 302 = .ok (.invokevirtual 46, 3) := by decide +kernel
theorem dL_law_305 : decode cL_law 305 = .ok (.aload_n 2, 1) := by decide +kernel
theorem dL_law_306 : decode cL_law 306 = .ok (.invokevirtual 49, 3) := by decide +kernel
theorem dL_law_309 : decode cL_law 309 = .ok (.if_icmp .eq 133, 3) := by decide +kernel
theorem dL_law_312 : decode cL_law 312 = .ok (.iconst 0, 1) := by decide +kernel
theorem dL_law_313 : decode cL_law 313 = .ok (.ireturn, 1) := by decide +kernel
theorem dL_law_314 : decode cL_law 314 = .ok (.aload_n 1, 1) := by decide +kernel
theorem dL_law_315 : decode cL_law 315 = .ok (.aload_n 0, 1) := by decide +kernel
theorem dL_law_316 : decode cL_law 316 = .ok (.iload_n 3, 1) := by decide +kernel
theorem dL_law_317 : decode cL_law 317 = .ok (.iconst 1, 1) := by decide +kernel
theorem dL_law_318 : decode cL_law 318 = .ok (.iadd, 1) := by decide +kernel
theorem dL_law_319 : decode cL_law 319 = .ok (.iaload, 1) := by decide +kernel
theorem dL_law_320 : decode cL_law 320 = .ok (.invokevirtual 50, 3) := by decide +kernel
theorem dL_law_323 : decode cL_law 323 = .ok (.aload_n 2, 1) := by decide +kernel
theorem dL_law_324 : decode cL_law 324 = .ok (.aload_n 0, 1) := by decide +kernel
theorem dL_law_325 : decode cL_law 325 = .ok (.iload_n 3, 1) := by decide +kernel
theorem dL_law_326 : decode cL_law 326 = .ok (.iconst 1, 1) := by decide +kernel
theorem dL_law_327 : decode cL_law 327 = .ok (.iadd, 1) := by decide +kernel
theorem dL_law_328 : decode cL_law 328 = .ok (.iaload, 1) := by decide +kernel
theorem dL_law_329 : decode cL_law 329 = .ok (.invokevirtual 54, 3) := by decide +kernel
theorem dL_law_332 : decode cL_law 332 = .ok (.lcmp, 1) := by decide +kernel
theorem dL_law_333 : decode cL_law 333 = .ok (.ifCond .eq 109, 3) := by decide +kernel
theorem dL_law_336 : decode cL_law 336 = .ok (.iconst 0, 1) := by decide +kernel
theorem dL_law_337 : decode cL_law 337 = .ok (.ireturn, 1) := by decide +kernel
theorem dL_law_338 : decode cL_law 338 = .ok (.aload_n 1, 1) := by decide +kernel
theorem dL_law_339 : decode cL_law 339 = .ok (.aload_n 0, 1) := by decide +kernel
theorem dL_law_340 : decode cL_law 340 = .ok (.iload_n 3, 1) := by decide +kernel
theorem dL_law_341 : decode cL_law 341 = .ok (.iconst 1, 1) := by decide +kernel
theorem dL_law_342 : decode cL_law 342 = .ok (.iadd, 1) := by decide +kernel
theorem dL_law_343 : decode cL_law 343 = .ok (.iaload, 1) := by decide +kernel
theorem dL_law_344 : decode cL_law 344 = .ok (.aload_n 0, 1) := by decide +kernel
theorem dL_law_345 : decode cL_law 345 = .ok (.iload_n 3, 1) := by decide +kernel
theorem dL_law_346 : decode cL_law 346 = .ok (.iconst 2, 1) := by decide +kernel
theorem dL_law_347 : decode cL_law 347 = .ok (.iadd, 1) := by decide +kernel
theorem dL_law_348 : decode cL_law 348 = .ok (.iaload, 1) := by decide +kernel
theorem dL_law_349 : decode cL_law 349 = .ok (.invokevirtual 55, 3) := by decide +kernel
theorem dL_law_352 : decode cL_law 352 = .ok (.aload_n 2, 1) := by decide +kernel
theorem dL_law_353 : decode cL_law 353 = .ok (.aload_n 0, 1) := by decide +kernel
theorem dL_law_354 : decode cL_law 354 = .ok (.iload_n 3, 1) := by decide +kernel
theorem dL_law_355 : decode cL_law 355 = .ok (.iconst 1, 1) := by decide +kernel
theorem dL_law_356 : decode cL_law 356 = .ok (.iadd, 1) := by decide +kernel
theorem dL_law_357 : decode cL_law 357 = .ok (.iaload, 1) := by decide +kernel
theorem dL_law_358 : decode cL_law 358 = .ok (.aload_n 0, 1) := by decide +kernel
theorem dL_law_359 : decode cL_law 359 = .ok (.iload_n 3, 1) := by decide +kernel
theorem dL_law_360 : decode cL_law 360 = .ok (.iconst 2, 1) := by decide +kernel
theorem dL_law_361 : decode cL_law 361 = .ok (.iadd, 1) := by decide +kernel
theorem dL_law_362 : decode cL_law 362 = .ok (.iaload, 1) := by decide +kernel
theorem dL_law_363 : decode cL_law 363 = .ok (.invokevirtual 59, 3) := by decide +kernel
theorem dL_law_366 : decode cL_law 366 = .ok (.lcmp, 1) := by decide +kernel
theorem dL_law_367 : decode cL_law 367 = .ok (.ifCond .eq 75, 3) := by decide +kernel
theorem dL_law_370 : decode cL_law 370 = .ok (.iconst 0, 1) := by decide +kernel
theorem dL_law_371 : decode cL_law 371 = .ok (.ireturn, 1) := by decide +kernel
theorem dL_law_372 : decode cL_law 372 = .ok (.aload_n 1, 1) := by decide +kernel
theorem dL_law_373 : decode cL_law 373 = .ok (.aload_n 0, 1) := by decide +kernel
theorem dL_law_374 : decode cL_law 374 = .ok (.iload_n 3, 1) := by decide +kernel
theorem dL_law_375 : decode cL_law 375 = .ok (.iconst 1, 1) := by decide +kernel
theorem dL_law_376 : decode cL_law 376 = .ok (.iadd, 1) := by decide +kernel
theorem dL_law_377 : decode cL_law 377 = .ok (.iaload, 1) := by decide +kernel
theorem dL_law_378 : decode cL_law 378 = .ok (.aload_n 0, 1) := by decide +kernel
theorem dL_law_379 : decode cL_law 379 = .ok (.iload_n 3, 1) := by decide +kernel
theorem dL_law_380 : decode cL_law 380 = .ok (.iconst 2, 1) := by decide +kernel
theorem dL_law_381 : decode cL_law 381 = .ok (.iadd, 1) := by decide +kernel
theorem dL_law_382 : decode cL_law 382 = .ok (.iaload, 1) := by decide +kernel
theorem dL_law_383 : decode cL_law 383 = .ok (.invokevirtual 60, 3) := by decide +kernel
theorem dL_law_386 : decode cL_law 386 = .ok (.aload_n 2, 1) := by decide +kernel
theorem dL_law_387 : decode cL_law 387 = .ok (.aload_n 0, 1) := by decide +kernel
theorem dL_law_388 : decode cL_law 388 = .ok (.iload_n 3, 1) := by decide +kernel
theorem dL_law_389 : decode cL_law 389 = .ok (.iconst 1, 1) := by decide +kernel
theorem dL_law_390 : decode cL_law 390 = .ok (.iadd, 1) := by decide +kernel
theorem dL_law_391 : decode cL_law 391 = .ok (.iaload, 1) := by decide +kernel
theorem dL_law_392 : decode cL_law 392 = .ok (.aload_n 0, 1) := by decide +kernel
theorem dL_law_393 : decode cL_law 393 = .ok (.iload_n 3, 1) := by decide +kernel
theorem dL_law_394 : decode cL_law 394 = .ok (.iconst 2, 1) := by decide +kernel
theorem dL_law_395 : decode cL_law 395 = .ok (.iadd, 1) := by decide +kernel
theorem dL_law_396 : decode cL_law 396 = .ok (.iaload, 1) := by decide +kernel
theorem dL_law_397 : decode cL_law 397 = .ok (.invokevirtual 63, 3) := by decide +kernel
theorem dL_law_400 : decode cL_law 400 = .ok (.lcmp, 1) := by decide +kernel
theorem dL_law_401 : decode cL_law 401 = .ok (.ifCond .eq 41, 3) := by decide +kernel
theorem dL_law_404 : decode cL_law 404 = .ok (.iconst 0, 1) := by decide +kernel
theorem dL_law_405 : decode cL_law 405 = .ok (.ireturn, 1) := by decide +kernel
theorem dL_law_406 : decode cL_law 406 = .ok (.aload_n 1, 1) := by decide +kernel
theorem dL_law_407 : decode cL_law 407 = .ok (.aload_n 0, 1) := by decide +kernel
theorem dL_law_408 : decode cL_law 408 = .ok (.iload_n 3, 1) := by decide +kernel
theorem dL_law_409 : decode cL_law 409 = .ok (.iconst 1, 1) := by decide +kernel
theorem dL_law_410 : decode cL_law 410 = .ok (.iadd, 1) := by decide +kernel
theorem dL_law_411 : decode cL_law 411 = .ok (.iaload, 1) := by decide +kernel
theorem dL_law_412 : decode cL_law 412 = .ok (.invokevirtual 64, 3) := by decide +kernel
theorem dL_law_415 : decode cL_law 415 = .ok (.aload_n 2, 1) := by decide +kernel
theorem dL_law_416 : decode cL_law 416 = .ok (.aload_n 0, 1) := by decide +kernel
theorem dL_law_417 : decode cL_law 417 = .ok (.iload_n 3, 1) := by decide +kernel
theorem dL_law_418 : decode cL_law 418 = .ok (.iconst 1, 1) := by decide +kernel
theorem dL_law_419 : decode cL_law 419 = .ok (.iadd, 1) := by decide +kernel
theorem dL_law_420 : decode cL_law 420 = .ok (.iaload, 1) := by decide +kernel
theorem dL_law_421 : decode cL_law 421 = .ok (.invokevirtual 67, 3) := by decide +kernel
theorem dL_law_424 : decode cL_law 424 = .ok (.if_icmp .eq 18, 3) := by decide +kernel
theorem dL_law_427 : decode cL_law 427 = .ok (.iconst 0, 1) := by decide +kernel
theorem dL_law_428 : decode cL_law 428 = .ok (.ireturn, 1) := by decide +kernel
theorem dL_law_429 : decode cL_law 429 = .ok (.aload_n 1, 1) := by decide +kernel
theorem dL_law_430 : decode cL_law 430 = .ok (.invokevirtual 68, 3) := by decide +kernel
theorem dL_law_433 : decode cL_law 433 = .ok (.aload_n 2, 1) := by decide +kernel
theorem dL_law_434 : decode cL_law 434 = .ok (.invokevirtual 71, 3) := by decide +kernel
theorem dL_law_437 : decode cL_law 437 = .ok (.if_icmp .eq 5, 3) := by decide +kernel
theorem dL_law_440 : decode cL_law 440 = .ok (.iconst 0, 1) := by decide +kernel
theorem dL_law_441 : decode cL_law 441 = .ok (.ireturn, 1) := by decide +kernel
theorem dL_law_442 : decode cL_law 442 = .ok (.iinc 3 4, 3) := by decide +kernel
theorem dL_law_445 : decode cL_law 445 = .ok (.goto (-427), 3) := by decide +kernel
theorem dL_law_448 : decode cL_law 448 = .ok (.iconst 1, 1) := by decide +kernel
theorem dL_law_449 : decode cL_law 449 = .ok (.ireturn, 1) := by decide +kernel
abbrev vwCl : List vw_C := [(RX0, TX0, 2), (RX1, TX1, 18), (RX2, TX2, 8), (RX3, TX3, 7)]
end
section
/-! longs as integers: sums, products, shifts and masks, where nothing wraps around -/
theorem tl_add {a b : Int64} (h1 : -9223372036854775808 ≤ a.toInt + b.toInt) (h2 : a.toInt + b.toInt < 9223372036854775808) : (a + b).toInt = a.toInt + b.toInt := by
  rw [Int64.toInt_add]
  exact Int.bmod_eq_of_le (by omega) (by omega)
theorem tl_sub {a b : Int64} (h1 : -9223372036854775808 ≤ a.toInt - b.toInt) (h2 : a.toInt - b.toInt < 9223372036854775808) : (a - b).toInt = a.toInt - b.toInt := by
  rw [Int64.toInt_sub]
  exact Int.bmod_eq_of_le (by omega) (by omega)
theorem tl_mul {a b : Int64} (h1 : -9223372036854775808 ≤ a.toInt * b.toInt) (h2 : a.toInt * b.toInt < 9223372036854775808) : (a * b).toInt = a.toInt * b.toInt := by
  rw [Int64.toInt_mul]
  exact Int.bmod_eq_of_le (by omega) (by omega)
theorem tl_ti (a : Int64) : a.toInt = if a.toBitVec.toNat < 9223372036854775808 then (a.toBitVec.toNat : Int) else (a.toBitVec.toNat : Int) - 18446744073709551616 := by
  show a.toBitVec.toInt = _
  rw [BitVec.toInt_eq_toNat_cond]
  split <;> split <;> omega
theorem tl_maskN (a m : Int64) (k : Nat) (hm : m.toBitVec.toNat = 2 ^ k - 1) : (a &&& m).toBitVec.toNat = a.toBitVec.toNat % 2 ^ k := by
  show (a.toBitVec &&& m.toBitVec).toNat = _
  rw [BitVec.toNat_and, hm, Nat.and_two_pow_sub_one_eq_mod]
theorem tl_m26 (a : Int64) : (a &&& 67108863).toInt = a.toInt % 67108864 := by
  rw [tl_ti (a &&& 67108863), tl_ti a, tl_maskN a _ 26 (by decide)]
  have := a.toBitVec.isLt
  split <;> split <;> omega
theorem tl_m21 (a : Int64) : (a &&& 2097151).toInt = a.toInt % 2097152 := by
  rw [tl_ti (a &&& 2097151), tl_ti a, tl_maskN a _ 21 (by decide)]
  have := a.toBitVec.isLt
  split <;> split <;> omega
theorem tl_m16 (a : Int64) : (a &&& 65535).toInt = a.toInt % 65536 := by
  rw [tl_ti (a &&& 65535), tl_ti a, tl_maskN a _ 16 (by decide)]
  have := a.toBitVec.isLt
  split <;> split <;> omega
theorem tl_m15 (a : Int64) : (a &&& 32767).toInt = a.toInt % 32768 := by
  rw [tl_ti (a &&& 32767), tl_ti a, tl_maskN a _ 15 (by decide)]
  have := a.toBitVec.isLt
  split <;> split <;> omega
theorem tl_shr (a : Int64) (y : Int32) (k : Nat) (hy : ((y.toInt64 &&& 63).toBitVec.smod 64).toNat = k) : (a >>> (y.toInt64 &&& 63)).toInt = a.toInt / ((2 ^ k : Nat) : Int) := by
  show (a.toBitVec.sshiftRight ((y.toInt64 &&& 63).toBitVec.smod 64).toNat).toInt = _
  rw [hy, BitVec.toInt_sshiftRight]
  exact Int.shiftRight_eq_div_pow _ _
theorem tl_s26 (a : Int64) : (a >>> ((26 : Int32).toInt64 &&& 63)).toInt = a.toInt / 67108864 := tl_shr a 26 26 (by decide)
theorem tl_s21 (a : Int64) : (a >>> ((21 : Int32).toInt64 &&& 63)).toInt = a.toInt / 2097152 := tl_shr a 21 21 (by decide)
theorem tl_s16 (a : Int64) : (a >>> ((16 : Int32).toInt64 &&& 63)).toInt = a.toInt / 65536 := tl_shr a 16 16 (by decide)
theorem tl_s15 (a : Int64) : (a >>> ((15 : Int32).toInt64 &&& 63)).toInt = a.toInt / 32768 := tl_shr a 15 15 (by decide)
theorem tl_i2l (x : Int32) : x.toInt64.toInt = x.toInt := Int32.toInt_toInt64 x
/-! sums by places -/
def sv (B : Int) (f : Nat → Int) : Nat → Int
  | 0 => 0
  | n + 1 => sv B f n + f n * B ^ n
def fI (f : Nat → Int64) : Nat → Int := fun j => (f j).toInt
def fJ (f : Nat → Int32) : Nat → Int := fun j => (f j).toInt
theorem fI_upd (f : Nat → Int64) (k : Nat) (x : Int64) : fI (vp_updL f k x) = fun j => if j = k then x.toInt else fI f j := by
  funext j
  unfold fI vp_updL
  split <;> rfl
theorem sv_congr {B : Int} {f g : Nat → Int} : ∀ {n : Nat}, (∀ j, j < n → f j = g j) → sv B f n = sv B g n := by
  intro n
  induction n with
  | zero => intro _; rfl
  | succ n ih =>
    intro h
    show sv B f n + f n * B ^ n = sv B g n + g n * B ^ n
    rw [ih (fun j hj => h j (by omega)), h n (by omega)]
theorem sv_upd {B : Int} {f : Nat → Int} {k : Nat} {x : Int} : ∀ {n : Nat}, k < n → sv B (fun j => if j = k then x else f j) n = sv B f n + (x - f k) * B ^ k := by
  intro n
  induction n with
  | zero => intro h; omega
  | succ n ih =>
    intro h
    show sv B _ n + (if n = k then x else f n) * B ^ n = sv B f n + f n * B ^ n + _
    by_cases hk : n = k
    · subst hk
      rw [if_pos rfl, sv_congr (g := f) (fun j hj => if_neg (by omega)), Int.sub_mul]
      omega
    · rw [if_neg hk, ih (by omega)]
      omega
theorem sv_up {B : Int} {f : Nat → Int} {k n : Nat} {x : Int} (h : n ≤ k) : sv B (fun j => if j = k then x else f j) n = sv B f n := sv_congr (fun j hj => if_neg (by omega))
theorem sv_add {B : Int} {f g : Nat → Int} : ∀ {n : Nat}, sv B (fun j => f j + g j) n = sv B f n + sv B g n := by
  intro n
  induction n with
  | zero => rfl
  | succ n ih =>
    show sv B _ n + (f n + g n) * B ^ n = sv B f n + f n * B ^ n + (sv B g n + g n * B ^ n)
    rw [ih, Int.add_mul]
    omega
theorem sv_mul {B c : Int} {f : Nat → Int} : ∀ {n : Nat}, sv B (fun j => c * f j) n = c * sv B f n := by
  intro n
  induction n with
  | zero => show (0 : Int) = c * 0; omega
  | succ n ih =>
    show sv B _ n + c * f n * B ^ n = c * (sv B f n + f n * B ^ n)
    rw [ih, Int.mul_add, Int.mul_assoc]
theorem sv_split {B : Int} {f : Nat → Int} {m : Nat} : ∀ {n : Nat}, sv B f (m + n) = sv B f m + B ^ m * sv B (fun j => f (m + j)) n := by
  intro n
  induction n with
  | zero => show sv B f m = sv B f m + B ^ m * 0; omega
  | succ n ih =>
    show sv B f (m + n) + f (m + n) * B ^ (m + n) = sv B f m + B ^ m * (sv B _ n + f (m + n) * B ^ n)
    rw [ih, Int.mul_add, Int.pow_add]
    grind
theorem sv_nn {B : Int} {f : Nat → Int} (hB : 0 ≤ B) : ∀ {n : Nat}, (∀ j, j < n → 0 ≤ f j) → 0 ≤ sv B f n := by
  intro n
  induction n with
  | zero => intro _; exact Int.le_refl 0
  | succ n ih =>
    intro h
    show 0 ≤ sv B f n + f n * B ^ n
    have h1 := ih (fun j hj => h j (by omega))
    have h2 := Int.mul_nonneg (h n (by omega)) (show 0 ≤ B ^ n from Int.pow_nonneg hB)
    omega
theorem sv_lt {B : Int} {f : Nat → Int} (hB : 0 < B) : ∀ {n : Nat}, (∀ j, j < n → 0 ≤ f j ∧ f j < B) → sv B f n < B ^ n := by
  intro n
  induction n with
  | zero => intro _; rw [Int.pow_zero]; show (0 : Int) < 1; omega
  | succ n ih =>
    intro h
    show sv B f n + f n * B ^ n < B ^ (n + 1)
    have h1 := ih (fun j hj => h j (by omega))
    have h3 := (h n (by omega)).2
    have h2 := Int.mul_le_mul_of_nonneg_right (show f n ≤ B - 1 by omega) (show 0 ≤ B ^ n from Int.pow_nonneg (Int.le_of_lt hB))
    rw [Int.sub_mul] at h2
    rw [Int.pow_succ, Int.mul_comm (B ^ n) B]
    omega
/-- the places of a number, one by one -/
theorem sv_dig {B : Int} {f : Nat → Int} (hB : 0 < B) : ∀ {n : Nat}, (∀ j, j < n → 0 ≤ f j ∧ f j < B) → ∀ k, k < n → sv B f n / B ^ k % B = f k := by
  intro n h k hk
  obtain ⟨r, rfl⟩ : ∃ r, n = k + (1 + r) := ⟨n - k - 1, by omega⟩
  have hp : (0 : Int) < B ^ k := Int.pow_pos hB
  rw [sv_split, Int.add_mul_ediv_left _ _ (Int.ne_of_gt hp), Int.ediv_eq_zero_of_lt (sv_nn (Int.le_of_lt hB) (fun j hj => (h j (by omega)).1)) (sv_lt hB (fun j hj => h j (by omega))), Int.zero_add, sv_split]
  show ((0 + f (k + 0) * B ^ 0) + B ^ 1 * _) % B = f k
  rw [Int.pow_one, Int.add_mul_emod_self_left]
  have := h k (by omega)
  rw [Int.pow_zero, Int.mul_one, Int.zero_add]
  exact Int.emod_eq_of_lt this.1 this.2
/-! rests by P -/
def pP : Int := 57896044618658097711785492504343953926634992332820282019728792003956564819949
def cg (a b : Int) : Prop := ∃ k : Int, a = b + pP * k
theorem cg_refl (a : Int) : cg a a := ⟨0, by omega⟩
theorem cg_of {a b : Int} (h : a = b) : cg a b := h ▸ cg_refl a
theorem cg_symm {a b : Int} (h : cg a b) : cg b a := by
  obtain ⟨k, rfl⟩ := h
  exact ⟨-k, by rw [Int.mul_neg]; omega⟩
theorem cg_trans {a b d : Int} (h : cg a b) (h2 : cg b d) : cg a d := by
  obtain ⟨k, rfl⟩ := h
  obtain ⟨j, rfl⟩ := h2
  exact ⟨j + k, by rw [Int.mul_add]; omega⟩
theorem cg_add {a b d e : Int} (h : cg a b) (h2 : cg d e) : cg (a + d) (b + e) := by
  obtain ⟨k, rfl⟩ := h
  obtain ⟨j, rfl⟩ := h2
  exact ⟨k + j, by rw [Int.mul_add]; omega⟩
theorem cg_sub {a b d e : Int} (h : cg a b) (h2 : cg d e) : cg (a - d) (b - e) := by
  obtain ⟨k, rfl⟩ := h
  obtain ⟨j, rfl⟩ := h2
  exact ⟨k - j, by rw [Int.mul_sub]; omega⟩
theorem cg_mul {a b d e : Int} (h : cg a b) (h2 : cg d e) : cg (a * d) (b * e) := by
  obtain ⟨k, rfl⟩ := h
  obtain ⟨j, rfl⟩ := h2
  exact ⟨k * e + b * j + pP * k * j, by grind⟩
theorem cg_mod (a : Int) : cg (a % pP) a := ⟨-(a / pP), by have := Int.emod_add_mul_ediv a pP; rw [Int.mul_neg]; omega⟩
theorem cg_emod {a b : Int} (h : cg a b) : a % pP = b % pP := by
  obtain ⟨k, rfl⟩ := h
  exact Int.add_mul_emod_self_left _ _ _
theorem cg_eq {a b : Int} (h : cg a b) (h0 : 0 ≤ a) (h1 : a < pP) (h2 : 0 ≤ b) (h3 : b < pP) : a = b := by
  have := cg_emod h
  rw [Int.emod_eq_of_lt h0 h1, Int.emod_eq_of_lt h2 h3] at this
  exact this
theorem mod_in (a : Int) : 0 ≤ a % pP ∧ a % pP < pP := ⟨Int.emod_nonneg _ (by decide), Int.emod_lt_of_pos _ (by decide)⟩
end
section
/-! contracts over one world each: the world is a list of cells; what comes back is a list of cells -/
def zP (D : va_G) (tys : List (ClassId × FieldType)) (ws : va_W) (sz : Nat) (U : State) : Prop := U.heap.size = sz ∧ va_P D vwCl ws U.heap ∧ va_K D vwCl tys U ∧ va_D (fun _ => True) ws
def zB (D : va_G) (tys : List (ClassId × FieldType)) (A : Nat → Prop) (u : va_W) (t : State) : Prop := va_P D vwCl u t.heap ∧ va_K D vwCl tys t ∧ va_D A u
def zCv (l : Launch) (D : va_G) (tys : List (ClassId × FieldType)) (y : MethodName) (wy : List Cond) (rm : Room) (av : List Value) (ws : va_W) (post : va_W → Prop) : Prop := ∀ sz : Nat, Met l y wy rm (va_Pc av (zP D tys ws sz)) (va_Qv post (zB D tys (va_A ws sz)) (va_A ws sz)) rm.cells rm.slots (va_A ws sz)
def zCi (l : Launch) (D : va_G) (tys : List (ClassId × FieldType)) (y : MethodName) (wy : List Cond) (rm : Room) (av : List Value) (ws : va_W) (post : Int32 → va_W → Prop) : Prop := ∀ sz : Nat, Met l y wy rm (va_Pc av (zP D tys ws sz)) (va_Qi post (zB D tys (va_A ws sz)) (va_A ws sz)) rm.cells rm.slots (va_A ws sz)
def zCl (l : Launch) (D : va_G) (tys : List (ClassId × FieldType)) (y : MethodName) (wy : List Cond) (rm : Room) (av : List Value) (ws : va_W) (post : Int64 → va_W → Prop) : Prop := ∀ sz : Nat, Met l y wy rm (va_Pc av (zP D tys ws sz)) (va_Ql post (zB D tys (va_A ws sz)) (va_A ws sz)) rm.cells rm.slots (va_A ws sz)
def zBr (D : va_G) (tys : List (ClassId × FieldType)) (A : Nat → Prop) (pr : va_W → Nat → Prop) (u : va_W) (a : Nat) (t : State) : Prop := pr u a ∧ va_P D vwCl u t.heap ∧ va_K D vwCl tys t ∧ va_D A u
def zCr (l : Launch) (D : va_G) (tys : List (ClassId × FieldType)) (y : MethodName) (wy : List Cond) (rm : Room) (av : List Value) (ws : va_W) (pr : va_W → Nat → Prop) : Prop := ∀ sz : Nat, Met l y wy rm (va_Pc av (zP D tys ws sz)) (va_Qr (fun _ => True) (zBr D tys (va_A ws sz) pr) (va_A ws sz)) rm.cells rm.slots (va_A ws sz)
theorem z_blind {D : va_G} {tys : List (ClassId × FieldType)} {ws : va_W} {sz : Nat} {av : List Value} : FrameBlind (va_Pc av (zP D tys ws sz)) := fun a U g mk q => by
  obtain ⟨q0, q1, qP, qK, qD⟩ := q
  exact ⟨q0, q1, qP, va_K.moved (u := U) (U := U.calling g mk a) (Vm.Alike.refl U.vm) qK, qD⟩
/-- a method's entry -/
theorem z_met {l : Launch} {D : va_G} {tys : List (ClassId × FieldType)} {y : MethodName} {wy ws' : List Cond} {rm : Room} {av : List Value} {ws : va_W} {cc : ByteArray} {maxL : Nat} {ret : Option FieldType} {mc ms : Nat} (QQ : (Nat → Prop) → Array Value → State → Outcome → State → Prop)
    (hy : plainName y.cls = true) (hw : wy = Cond.code y cc maxL ret :: ws') (hlen : (lg_sl av).length ≤ maxL)
    (body : ∀ (p : Program) (e : Env) (s : State) (m : MethodId) (below : List Frame) (meth : Method) (c : Code), p.tables.exec = Jvm.exec → c.code = cc → meth.sig.returnType = ret → c.maxLocals = maxL → (∀ w ∈ wy, w.before av.toArray s = true) → s.vm.findClass y.cls = some m.cls → meth.locks = false → meth.name = y.name →
      ∀ A : Nat → Prop, (∀ q : Nat, s.heap.size ≤ q → A q) → va_P D vwCl ws s.heap → va_K D vwCl tys s → va_D A ws → va_S A s.heap s.heap [] → ∀ ls : Array Slot, lv_has ls maxL (lv_args 0 av) → W p l e rm s m av.toArray below meth c s.heap [] 0 0 (MQ below (QQ A) av.toArray s mc ms A) (F0 m 0 ls [])) :
    ∀ sz : Nat, Met l y wy rm (va_Pc av (zP D tys ws sz)) (QQ (va_A ws sz)) mc ms (va_A ws sz) := by
  intro sz
  refine Met.ofW (cc := cc) (maxL := maxL) (ret := ret) hy hw ?_
  intro p e s m args below meth c s₁ B hml hv
  obtain ⟨rfl, hsz, hP, hK, hD0⟩ := hv
  subst hsz
  have hl := lv_entry av (n := maxL) hlen
  rw [lg_entry_eq]
  exact body p e s m below meth c B.exec B.bytes B.returns hml (atoms_spec (ws := wy) B.pre) (findClass_of_methodNamed B.named) B.notSynchronized (name_of_methodNamed B.named B.method).1 (va_A ws s.heap.size) (fun q h => Or.inr h) hP hK hD0.self va_S.rf _ hl
section ZL
variable {p : Program} {l : Launch} {e : Env} {R : Room} {s : State} {m : MethodId} {args : Array Value} {below : List Frame} {meth : Method} {c : Code} {H : Heap} {locs : List Loc} {cells slots : Nat} {Q : State → Prop}
variable {cc : ByteArray} {pc : Nat} {ls : Array Slot} {rest st0 : List Value} {D : va_G} {A : Nat → Prop} {tys : List (ClassId × FieldType)} {ws wr : va_W} {H0 : Heap}
theorem zi {x y : Int32} (h : x = y) (k : W p l e R s m args below meth c H locs cells slots Q (F0 m pc ls (.int y :: rest))) : W p l e R s m args below meth c H locs cells slots Q (F0 m pc ls (.int x :: rest)) := by
  rw [h]; exact k
theorem zl {x y : Int64} (h : x = y) (k : W p l e R s m args below meth c H locs cells slots Q (F0 m pc ls (.long y :: rest))) : W p l e R s m args below meth c H locs cells slots Q (F0 m pc ls (.long x :: rest)) := by
  rw [h]; exact k
theorem z_vret {post : va_W → Prop} {u : va_W} (hexec : p.tables.exec = Jvm.exec) (hb : c.code = cc) (hr : meth.sig.returnType = none) (hlocks : meth.locks = false) (hdg : decode cc pc = .ok (.return_, 1)) (hK : va_K D vwCl tys s) (hP : va_P D vwCl u H) (hD : va_D A u) (hS : va_S A s.heap H locs) (hp : post u) : W p l e R s m args below meth c H locs cells slots (MQ below (va_Qv post (zB D tys A) A) args s cells slots A) (F0 m pc ls []) :=
  W.vret hexec hb hr (fun t ht hW => ⟨⟨u, rfl, hp, by rw [ht]; exact hP, va_K.moved hW.alike hK, hD⟩, hS.F ht⟩) hS.2.2 hdg hlocks
theorem z_iret {post : Int32 → va_W → Prop} {u : va_W} {v : Int32} (hexec : p.tables.exec = Jvm.exec) (hb : c.code = cc) (hr : meth.sig.returnType = some .int) (hlocks : meth.locks = false) (hdg : decode cc pc = .ok (.ireturn, 1)) (hK : va_K D vwCl tys s) (hP : va_P D vwCl u H) (hD : va_D A u) (hS : va_S A s.heap H locs) (hp : post v u) : W p l e R s m args below meth c H locs cells slots (MQ below (va_Qi post (zB D tys A) A) args s cells slots A) (F0 m pc ls [.int v]) :=
  W.iret hexec hb hr (fun t ht hW => ⟨⟨v, u, rfl, hp, by rw [ht]; exact hP, va_K.moved hW.alike hK, hD⟩, hS.F ht⟩) hS.2.2 hdg hlocks
/-- a boolean answer, 0 or 1 -/
theorem z_zret {post : Int32 → va_W → Prop} {u : va_W} {v : Int32} (hexec : p.tables.exec = Jvm.exec) (hb : c.code = cc) (hr : meth.sig.returnType = some .boolean) (hlocks : meth.locks = false) (hdg : decode cc pc = .ok (.ireturn, 1)) (hn : narrow .boolean (.int v) = .int v) (hK : va_K D vwCl tys s) (hP : va_P D vwCl u H) (hD : va_D A u) (hS : va_S A s.heap H locs) (hp : post v u) : W p l e R s m args below meth c H locs cells slots (MQ below (va_Qi post (zB D tys A) A) args s cells slots A) (F0 m pc ls [.int v]) :=
  W.zret hexec hb hr hn (fun t ht hW => ⟨⟨v, u, rfl, hp, by rw [ht]; exact hP, va_K.moved hW.alike hK, hD⟩, hS.F ht⟩) hS.2.2 hdg hlocks
theorem z_lret {post : Int64 → va_W → Prop} {u : va_W} {v : Int64} (hexec : p.tables.exec = Jvm.exec) (hb : c.code = cc) (hr : meth.sig.returnType = some .long) (hlocks : meth.locks = false) (hdg : decode cc pc = .ok (.lreturn, 1)) (hK : va_K D vwCl tys s) (hP : va_P D vwCl u H) (hD : va_D A u) (hS : va_S A s.heap H locs) (hp : post v u) : W p l e R s m args below meth c H locs cells slots (MQ below (va_Ql post (zB D tys A) A) args s cells slots A) (F0 m pc ls [.long v]) :=
  W.lret hexec hb hr (fun t ht hW => ⟨⟨v, u, rfl, hp, by rw [ht]; exact hP, va_K.moved hW.alike hK, hD⟩, hS.F ht⟩) hS.2.2 hdg hlocks
theorem z_rret {pr : va_W → Nat → Prop} {u : va_W} {v : Nat} {t0 : FieldType} (hexec : p.tables.exec = Jvm.exec) (hb : c.code = cc) (hr : meth.sig.returnType = some (.array t0)) (hlocks : meth.locks = false) (hdg : decode cc pc = .ok (.areturn, 1)) (hK : va_K D vwCl tys s) (hP : va_P D vwCl u H) (hD : va_D A u) (hS : va_S A s.heap H locs) (hp : pr u v) : W p l e R s m args below meth c H locs cells slots (MQ below (va_Qr (fun _ => True) (zBr D tys A pr) A) args s cells slots A) (F0 m pc ls [.ref v]) :=
  W.aret hexec hb hr (Or.inr ⟨t0, rfl⟩) (Or.inr ⟨v, rfl⟩) (fun t ht hW => ⟨⟨u, v, rfl, trivial, hp, by rw [ht]; exact hP, va_K.moved hW.alike hK, hD⟩, hS.F ht⟩) hS.2.2 hdg hlocks
theorem z_free (hD : va_D A ws) (hS : va_S A H0 H locs) (hA : ∀ q, H0.size ≤ q → A q) : ∀ q, va_A ws H.size q → A q := by
  intro q h
  rcases h with ⟨k, e, h⟩ | h
  · exact hD.2 k _ h
  · exact hA q (Nat.le_trans hS.1 h)
theorem z_preS (av : List Value) (hK : va_K D vwCl tys s) (hP : va_P D vwCl ws H) (hD : va_D A ws) : PreS s H (va_Pc av (zP D tys ws H.size)) av :=
  ⟨z_blind, fun U hU hW => ⟨rfl, by rw [hU], by rw [hU]; exact hP, va_K.moved hW.alike hK, hD.weaken (fun _ _ _ _ => trivial)⟩⟩
theorem z_preV {b q0 ci : Nat} {q : vw_C} {fs : List Value} (av : List Value) (hK : va_K D vwCl tys s) (hP : va_P D vwCl ws H) (hD : va_D A ws) (hc : vwCl[ci]? = some q) (he : ws[q0]? = some (b, .inr (ci, fs))) : PreV s H q.1 b (va_Pc (.ref b :: av) (zP D tys ws H.size)) av :=
  ⟨z_blind, va_recv hK hP hc he, fun U hU hW => ⟨rfl, by rw [hU], by rw [hU]; exact hP, va_K.moved hW.alike hK, hD.weaken (fun _ _ _ _ => trivial)⟩⟩
variable {mc ms : Nat} {a : Array Value}
/-- behind a call, the callee's world being all of the caller's -/
theorem z_callv {post : va_W → Prop} (hr : va_Run p l e R s m args below meth c H locs cells slots mc ms (F0 m pc ls st0) rest (va_Qv post (zB D tys (va_A ws H.size)) (va_A ws H.size) a) (va_A ws H.size)) (hD : va_D A ws) (hS : va_S A H0 H locs) (hA : ∀ q, H0.size ≤ q → A q)
    (kk : ∀ (u : va_W) (H1 : Heap) (locs1 : List Loc), post u → va_P D vwCl u H1 → va_D A u → va_S A H0 H1 locs1 → W p l e R s m args below meth c H1 locs1 (cells + mc) (slots + ms) Q (F0 m (pc + 3) ls rest)) : W p l e R s m args below meth c H locs cells slots Q (F0 m pc ls st0) :=
  va_callv hr hS (fun q _ h => z_free hD hS hA q h) (z_free hD hS hA) (fun u t H1 locs1 ht _ hp hB _ _ hS1 => kk u H1 locs1 hp (ht ▸ hB.1) (hB.2.2.weaken (fun _ q _ h => z_free hD hS hA q.1 h)) hS1)
theorem z_calli {post : Int32 → va_W → Prop} (hr : va_Run p l e R s m args below meth c H locs cells slots mc ms (F0 m pc ls st0) rest (va_Qi post (zB D tys (va_A ws H.size)) (va_A ws H.size) a) (va_A ws H.size)) (hD : va_D A ws) (hS : va_S A H0 H locs) (hA : ∀ q, H0.size ≤ q → A q)
    (kk : ∀ (r : Int32) (u : va_W) (H1 : Heap) (locs1 : List Loc), post r u → va_P D vwCl u H1 → va_D A u → va_S A H0 H1 locs1 → W p l e R s m args below meth c H1 locs1 (cells + mc) (slots + ms) Q (F0 m (pc + 3) ls (.int r :: rest))) : W p l e R s m args below meth c H locs cells slots Q (F0 m pc ls st0) :=
  va_calli hr hS (fun q _ h => z_free hD hS hA q h) (z_free hD hS hA) (fun r u t H1 locs1 ht _ hp hB _ _ hS1 => kk r u H1 locs1 hp (ht ▸ hB.1) (hB.2.2.weaken (fun _ q _ h => z_free hD hS hA q.1 h)) hS1)
theorem z_calll {post : Int64 → va_W → Prop} (hr : va_Run p l e R s m args below meth c H locs cells slots mc ms (F0 m pc ls st0) rest (va_Ql post (zB D tys (va_A ws H.size)) (va_A ws H.size) a) (va_A ws H.size)) (hD : va_D A ws) (hS : va_S A H0 H locs) (hA : ∀ q, H0.size ≤ q → A q)
    (kk : ∀ (r : Int64) (u : va_W) (H1 : Heap) (locs1 : List Loc), post r u → va_P D vwCl u H1 → va_D A u → va_S A H0 H1 locs1 → W p l e R s m args below meth c H1 locs1 (cells + mc) (slots + ms) Q (F0 m (pc + 3) ls (.long r :: rest))) : W p l e R s m args below meth c H locs cells slots Q (F0 m pc ls st0) :=
  va_calll hr hS (fun q _ h => z_free hD hS hA q h) (z_free hD hS hA) (fun r u t H1 locs1 ht _ hp hB _ _ hS1 => kk r u H1 locs1 hp (ht ▸ hB.1) (hB.2.2.weaken (fun _ q _ h => z_free hD hS hA q.1 h)) hS1)
theorem z_callr {pr : va_W → Nat → Prop} (hr : va_Run p l e R s m args below meth c H locs cells slots mc ms (F0 m pc ls st0) rest (va_Qr (fun _ => True) (zBr D tys (va_A ws H.size) pr) (va_A ws H.size) a) (va_A ws H.size)) (hD : va_D A ws) (hS : va_S A H0 H locs) (hA : ∀ q, H0.size ≤ q → A q)
    (kk : ∀ (r : Nat) (u : va_W) (H1 : Heap) (locs1 : List Loc), pr u r → va_P D vwCl u H1 → va_D A u → va_S A H0 H1 locs1 → W p l e R s m args below meth c H1 locs1 (cells + mc) (slots + ms) Q (F0 m (pc + 3) ls (.ref r :: rest))) : W p l e R s m args below meth c H locs cells slots Q (F0 m pc ls st0) :=
  va_callr hr hS (fun q _ h => z_free hD hS hA q h) (z_free hD hS hA) (fun u r t H1 locs1 ht _ _ hB _ _ hS1 => kk r u H1 locs1 hB.1 (ht ▸ hB.2.1) (hB.2.2.2.weaken (fun _ q _ h => z_free hD hS hA q.1 h)) hS1)
end ZL
/-! a pool of long arrays, all of one class, at the addresses L, of the lengths n, with the contents q -/
abbrev PL (cA : ClassId) (L : List Nat) (n : Nat → Nat) (q : Nat → Nat → Int64) : va_W := va_pl L (fun a => .inl (cA, n a, .inr (.inl (q a))))
theorem pl_up {cA : ClassId} {L : List Nat} {n : Nat → Nat} {q : Nat → Nat → Int64} {a : Nat} {g : Nat → Int64} : va_pl L (va_up (fun b => (.inl (cA, n b, .inr (.inl (q b))) : va_E)) a (.inl (cA, n a, .inr (.inl g)))) = PL cA L n (va_up q a g) := by
  apply va_pl_congr
  intro b
  unfold va_up
  by_cases h : b = a
  · subst h
    simp
  · simp [h]
section ZA
variable {p : Program} {l : Launch} {e : Env} {R : Room} {s : State} {m : MethodId} {args : Array Value} {below : List Frame} {meth : Method} {c : Code} {H : Heap} {locs : List Loc} {cells slots : Nat} {Q : State → Prop}
variable {cc : ByteArray} {pc : Nat} {ls : Array Slot} {rest : List Value} {D : va_G} {A : Nat → Prop} {tys : List (ClassId × FieldType)} {X : va_W} {H0 : Heap} {cA : ClassId} {L : List Nat} {n : Nat → Nat} {q : Nat → Nat → Int64} {a : Nat}
theorem z_ld (hexec : p.tables.exec = Jvm.exec) (hb : c.code = cc) (hK : va_K D vwCl ((cA, .long) :: tys) s) (hP : va_P D vwCl (X ++ PL cA L n q) H) {N : Nat} (ha : a ∈ L ∧ n a = N) {i : Int32} (j : Nat) (hi : i = nI j) (hj : j < N) (hN : N < 2147483648) (hdg : decode cc pc = .ok (.laload, 1))
    (kk : W p l e R s m args below meth c H locs cells slots Q (F0 m (pc + 1) ls (.long (q a j) :: rest))) : W p l e R s m args below meth c H locs cells slots Q (F0 m pc ls (.int i :: .ref a :: rest)) := by
  subst hi
  obtain ⟨ha, hn⟩ := ha
  obtain ⟨k, hk⟩ := va_pl_get (X := X) (f := fun a => .inl (cA, n a, .inr (.inl (q a)))) ha
  refine va_lald hexec hb hK hP k 0 hk rfl (by rw [hn]; exact vp_in_nI hj (by omega)) hdg ?_
  rw [nI_clamp (by omega)]
  exact kk
theorem z_st (hexec : p.tables.exec = Jvm.exec) (hb : c.code = cc) (hK : va_K D vwCl ((cA, .long) :: tys) s) (hP : va_P D vwCl (X ++ PL cA L n q) H) (hD : va_D A (X ++ PL cA L n q)) (hS : va_S A H0 H locs) {N : Nat} (ha : a ∈ L ∧ n a = N) {i : Int32} (j : Nat) (hi : i = nI j) (hj : j < N) (hN : N < 2147483648) {x : Int64} (hdg : decode cc pc = .ok (.lastore, 1))
    (kk : ∀ (H1 : Heap) (locs1 : List Loc), va_P D vwCl (X ++ PL cA L n (va_up q a (vp_updL (q a) j x))) H1 → va_D A (X ++ PL cA L n (va_up q a (vp_updL (q a) j x))) → va_S A H0 H1 locs1 → W p l e R s m args below meth c H1 locs1 cells slots Q (F0 m (pc + 1) ls rest)) : W p l e R s m args below meth c H locs cells slots Q (F0 m pc ls (.long x :: .int i :: .ref a :: rest)) := by
  subst hi
  obtain ⟨ha, hn⟩ := ha
  obtain ⟨k, hk⟩ := va_pl_get (X := X) (f := fun a => .inl (cA, n a, .inr (.inl (q a)))) ha
  refine va_last hexec hb hK hP hD hS k 0 hk rfl (by rw [hn]; exact vp_in_nI hj (by omega)) hdg ?_
  intro H1 locs1
  rw [nI_clamp (by omega), va_pl_set hD ha hk, pl_up]
  exact kk H1 locs1
theorem z_len (hexec : p.tables.exec = Jvm.exec) (hb : c.code = cc) (hK : va_K D vwCl ((cA, .long) :: tys) s) (hP : va_P D vwCl (X ++ PL cA L n q) H) {N : Nat} (ha : a ∈ L ∧ n a = N) (hdg : decode cc pc = .ok (.arraylength, 1))
    (kk : W p l e R s m args below meth c H locs cells slots Q (F0 m (pc + 1) ls (.int (nI N) :: rest))) : W p l e R s m args below meth c H locs cells slots Q (F0 m pc ls (.ref a :: rest)) := by
  obtain ⟨ha, hn⟩ := ha
  obtain ⟨k, hk⟩ := va_pl_get (X := X) (f := fun a => .inl (cA, n a, .inr (.inl (q a)))) ha
  exact va_alen hexec hb hK hP k 0 hk rfl (by rw [hn]; rfl) hdg kk
end ZA
end
section
/-! a loop's head, met again and again: I i holds at the i-th meeting -/
section ZLP
variable {p : Program} {l : Launch} {e : Env} {R : Room} {s : State} {m : MethodId} {args : Array Value} {below : List Frame} {meth : Method} {c : Code} {cells slots : Nat} {Q : State → Prop} {pc : Nat} {rest : List Value}
theorem z_loop (I : Nat → Heap → List Loc → Array Slot → Prop) (N : Nat) {H : Heap} {locs : List Loc} {ls : Array Slot} (h0 : I 0 H locs ls)
    (hs : ∀ (i : Nat) (H : Heap) (locs : List Loc) (ls : Array Slot), i < N → I i H locs ls → (∀ (H' : Heap) (locs' : List Loc) (ls' : Array Slot), I (i + 1) H' locs' ls' → W p l e R s m args below meth c H' locs' cells slots Q (F0 m pc ls' rest)) → W p l e R s m args below meth c H locs cells slots Q (F0 m pc ls rest))
    (he : ∀ (H : Heap) (locs : List Loc) (ls : Array Slot), I N H locs ls → W p l e R s m args below meth c H locs cells slots Q (F0 m pc ls rest)) : W p l e R s m args below meth c H locs cells slots Q (F0 m pc ls rest) := by
  have key : ∀ (k i : Nat) (H : Heap) (locs : List Loc) (ls : Array Slot), i + k = N → I i H locs ls → W p l e R s m args below meth c H locs cells slots Q (F0 m pc ls rest) := by
    intro k
    induction k with
    | zero =>
      intro i H locs ls hi h
      have : i = N := by omega
      subst this
      exact he H locs ls h
    | succ k ih =>
      intro i H locs ls hi h
      exact hs i H locs ls (by omega) h (fun H' locs' ls' h' => ih (i + 1) H' locs' ls' (by omega) h')
  exact key N 0 H locs ls (by omega) h0
end ZLP
def zH (D : va_G) (A : Nat → Prop) (H0 : Heap) (ws : va_W) (H : Heap) (locs : List Loc) : Prop := va_P D vwCl ws H ∧ va_D A ws ∧ va_S A H0 H locs
/-! row 'to' written from its first place on, up to place i -/
def mpq (q : Nat → Nat → Int64) (to : Nat) (F : Nat → Int64) (i : Nat) : Nat → Nat → Int64 := va_up q to (fun j => if j < i then F j else q to j)
theorem mpq_0 {q : Nat → Nat → Int64} {to : Nat} {F : Nat → Int64} : mpq q to F 0 = q := by
  funext b j
  unfold mpq va_up
  by_cases h : b = to
  · subst h; simp
  · simp [h]
theorem mpq_rd {q : Nat → Nat → Int64} {to b i : Nat} {F : Nat → Int64} : mpq q to F i b i = q b i := by
  unfold mpq va_up
  by_cases h : b = to
  · subst h; simp
  · simp [h]
theorem mpq_ne {q : Nat → Nat → Int64} {to b i : Nat} {F : Nat → Int64} (h : b ≠ to) : mpq q to F i b = q b := by
  unfold mpq va_up
  simp [h]
theorem mpq_to {q : Nat → Nat → Int64} {to i j : Nat} {F : Nat → Int64} : mpq q to F i to j = if j < i then F j else q to j := by
  unfold mpq va_up
  simp
theorem mpq_st {q : Nat → Nat → Int64} {to i : Nat} {F : Nat → Int64} {x : Int64} (hx : x = F i) : va_up (mpq q to F i) to (vp_updL (mpq q to F i to) i x) = mpq q to F (i + 1) := by
  subst hx
  funext b j
  by_cases h : b = to
  · subst h
    rw [va_up_self, mpq_to]
    unfold vp_updL
    by_cases h1 : j = i
    · subst h1; simp
    · rw [if_neg h1, mpq_to]
      by_cases h2 : j < i
      · rw [if_pos h2, if_pos (by omega)]
      · rw [if_neg h2, if_neg (by omega)]
  · rw [va_up_ne _ _ h, mpq_ne h, mpq_ne h]
/-! limbs of 26 bits -/
abbrev bB : Int := 67108864
theorem sv10 (f : Nat → Int) : sv bB f 10 = f 0 + f 1 * 67108864 + f 2 * 4503599627370496 + f 3 * 302231454903657293676544 + f 4 * 20282409603651670423947251286016 + f 5 * 1361129467683753853853498429727072845824 + f 6 * 91343852333181432387730302044767688728495783936 + f 7 * 6129982163463555433433388108601236734474956488734408704 + f 8 * 411376139330301510538742295639337626245683966408394965837152256 + f 9 * 27606985387162255149739023449108101809804435888681546220650096895197184 := by
  simp [sv, bB]
def loose (f : Nat → Int64) : Prop := ∀ j, j < 10 → 0 ≤ fI f j ∧ fI f j < 536870912
def settled (f : Nat → Int64) : Prop := (0 ≤ fI f 0 ∧ fI f 0 < 100663296) ∧ ∀ j, 1 ≤ j → j < 10 → 0 ≤ fI f j ∧ fI f j < 67108864
def fv (f : Nat → Int64) : Int := sv bB (fI f) 10
theorem settled_at {f : Nat → Int64} (h : settled f) {j : Nat} (hj : j < 10) : 0 ≤ fI f j ∧ fI f j < 100663296 := by
  by_cases h0 : j = 0
  · subst h0; exact h.1
  · have := h.2 j (by omega) hj
    omega
theorem settled_loose {f : Nat → Int64} (h : settled f) : loose f := fun j hj => by
  have := settled_at h hj
  omega
theorem loose_le {f : Nat → Int64} (h : loose f) : 0 ≤ fv f ∧ fv f ≤ 14821389189223537792601415664409552948137073864685889072669528874619081886531584 := by
  unfold fv
  rw [sv10]
  have h0 := h 0 (by omega)
  have h1 := h 1 (by omega)
  have h2 := h 2 (by omega)
  have h3 := h 3 (by omega)
  have h4 := h 4 (by omega)
  have h5 := h 5 (by omega)
  have h6 := h 6 (by omega)
  have h7 := h 7 (by omega)
  have h8 := h 8 (by omega)
  have h9 := h 9 (by omega)
  omega
theorem p260 : (bB : Int) ^ 10 = 608 + pP * 32 := by decide
theorem B10 : (bB : Int) ^ 10 = 1852673427797059126777135760139006525652319754650249024631321344126610074238976 := by decide
end
section
set_option maxRecDepth 100000 in
set_option maxHeartbeats 4000000 in
/-- Arrays.fill(a, v) -/
theorem c_fill (l : Launch) (D : va_G) (cA : ClassId) (tys : List (ClassId × FieldType)) (X : va_W) (L : List Nat) (n : Nat → Nat) (q : Nat → Nat → Int64) (a : Nat) (v : Int64) (N : Nat) (ha : a ∈ L ∧ n a = N) (hN : N < 2147483648) : zCv l D ((cA, .long) :: tys) yJ7_fill_d0a16 wsJ7_fill_d0a16 ({ frames := 0, cells := 0, slots := 0, locals := 0 }) [.ref a, .long v] (X ++ PL cA L n q) (fun u => u = X ++ PL cA L n (mpq q a (fun _ => v) N)) := by
  refine z_met (fun A => va_Qv (fun u => u = X ++ PL cA L n (mpq q a (fun _ => v) N)) (zB D ((cA, .long) :: tys) A) A) (by decide) rfl (Nat.le_of_ble_eq_true rfl) ?_
  intro p e s m below meth c hx hb hr hml hts hown hlocks hname A hA hP hK hD hS ls hl
  have hown : s.vm.findClass RJ7 = some m.cls := hown
  have hl : lv_has ls 5 [(0, .ref a), (1, .long v)] := hl
  refine lv_iconst (v := nI 0) hx hb dJ7_fill_d0a16_0 (by decide) ?_
  refine lv_istore_n (lv' := [(3, .int (nI 0)), (0, .ref a), (1, .long v)]) hx hb dJ7_fill_d0a16_1 rfl hl (by decide) rfl (fun ls hl => ?_)
  refine lv_aload_n hx hb dJ7_fill_d0a16_2 rfl (lv_at hl 1 rfl) ?_
  refine z_len hx hb hK hP ha dJ7_fill_d0a16_3 ?_
  refine lv_istore (lv' := [(4, .int (nI N)), (3, .int (nI 0)), (0, .ref a), (1, .long v)]) hx hb dJ7_fill_d0a16_4 hl (by decide) rfl (fun ls hl => ?_)
  refine z_loop (fun i H locs ls => zH D A s.heap (X ++ PL cA L n (mpq q a (fun _ => v) i)) H locs ∧ lv_has ls 5 [(3, .int (nI i)), (4, .int (nI N)), (0, .ref a), (1, .long v)]) N ?_ ?_ ?_
  · exact ⟨by rw [mpq_0]; exact ⟨hP, hD, hS⟩, lv_sub hl [1, 0, 2, 3] rfl⟩
  · rintro i H locs ls hi ⟨⟨hP, hD, hS⟩, hl⟩ ih
    refine lv_iload_n hx hb dJ7_fill_d0a16_6 rfl (lv_at hl 0 rfl) ?_
    refine lv_iload hx hb dJ7_fill_d0a16_7 (lv_at hl 1 rfl) ?_
    refine lv_icmp_ge (tgt := 22) hx hb dJ7_fill_d0a16_9 (by decide) (fun c9 => absurd ((nI_leI (by omega) (by omega)).mp c9) (by omega)) (fun c9 => ?_)
    refine lv_aload_n hx hb dJ7_fill_d0a16_12 rfl (lv_at hl 2 rfl) ?_
    refine lv_iload_n hx hb dJ7_fill_d0a16_13 rfl (lv_at hl 0 rfl) ?_
    refine lv_lload_n hx hb dJ7_fill_d0a16_14 rfl (lv_at hl 3 rfl) ?_
    refine z_st hx hb hK hP hD hS ha i rfl hi (by omega) dJ7_fill_d0a16_15 (fun H locs hP hD hS => ?_)
    rw [mpq_st (F := fun _ => v) rfl] at hP hD
    refine lv_iinc (v := nI (i + 1)) (lv' := [(3, .int (nI (i + 1))), (4, .int (nI N)), (0, .ref a), (1, .long v)]) hx hb dJ7_fill_d0a16_16 hl (k := 0) rfl (by show nI _ + nI 1 = _; exact nI_add _ _) (by decide) rfl (fun ls hl => ?_)
    refine lv_goto (tgt := 6) hx hb dJ7_fill_d0a16_19 (by decide) ?_
    exact ih _ _ _ ⟨⟨hP, hD, hS⟩, lv_sub hl [0, 1, 2, 3] rfl⟩
  · rintro H locs ls ⟨⟨hP, hD, hS⟩, hl⟩
    refine lv_iload_n hx hb dJ7_fill_d0a16_6 rfl (lv_at hl 0 rfl) ?_
    refine lv_iload hx hb dJ7_fill_d0a16_7 (lv_at hl 1 rfl) ?_
    refine lv_icmp_ge (tgt := 22) hx hb dJ7_fill_d0a16_9 (by decide) (fun c9 => ?_) (fun c9 => absurd (Int32.le_refl _) c9)
    exact z_vret hx hb hr hlocks dJ7_fill_d0a16_22 hK hP hD hS (rfl)
set_option maxRecDepth 100000 in
set_option maxHeartbeats 4000000 in
theorem c_setSmall (l : Launch) (D : va_G) (cA : ClassId) (tys : List (ClassId × FieldType)) (X : va_W) (L : List Nat) (n : Nat → Nat) (q : Nat → Nat → Int64) (a : Nat) (v : Int64) (ha : a ∈ L ∧ n a = 10) : zCv l D ((cA, .long) :: tys) yX0_setSmall wsX0_setSmall ({ frames := 1, cells := 0, slots := 0, locals := 24 }) [.ref a, .long v] (X ++ PL cA L n q) (fun u => u = X ++ PL cA L n (va_up q a (fun j => if j = 0 then v else if j < 10 then 0 else q a j))) := by
  refine z_met (fun A => va_Qv (fun u => u = X ++ PL cA L n (va_up q a (fun j => if j = 0 then v else if j < 10 then 0 else q a j))) (zB D ((cA, .long) :: tys) A) A) (by decide) rfl (Nat.le_of_ble_eq_true rfl) ?_
  intro p e s m below meth c hx hb hr hml hts hown hlocks hname A hA hP hK hD hS ls hl
  have hown : s.vm.findClass RX0 = some m.cls := hown
  have hl : lv_has ls 3 [(0, .ref a), (1, .long v)] := hl
  refine lv_aload_n hx hb dX0_setSmall_0 rfl (lv_at hl 0 rfl) ?_
  refine lv_lconst (v := 0) hx hb dX0_setSmall_1 (by decide) ?_
  refine z_callv (va_runS (As := [.ref a, .long 0]) (rest := []) ⟨hx, hb, hml, hown, hts⟩ (c_fill l D cA tys X L n q a 0 10 ha (by decide) _) (va_cwS 2 hts gX0_setSmall_J7_fill_d0a16 rfl rfl rfl (by decide +kernel) ⟨Nat.le_of_ble_eq_true rfl, Nat.le_of_ble_eq_true rfl⟩) (z_preS _ hK hP hD) rfl rfl hl.1 rfl (lv_room (Nat.le_of_ble_eq_true rfl)) dX0_setSmall_2 ⟨Nat.le_of_ble_eq_true rfl, Nat.le_of_ble_eq_true rfl⟩) hD hS hA (fun u H locs hu hP hD hS => ?_)
  subst hu
  refine lv_aload_n hx hb dX0_setSmall_5 rfl (lv_at hl 0 rfl) ?_
  refine lv_iconst (v := nI 0) hx hb dX0_setSmall_6 (by decide) ?_
  refine lv_lload_n hx hb dX0_setSmall_7 rfl (lv_at hl 1 rfl) ?_
  refine z_st hx hb hK hP hD hS ha 0 rfl (by omega) (by omega) dX0_setSmall_8 (fun H locs hP hD hS => ?_)
  exact z_vret hx hb hr hlocks dX0_setSmall_9 hK hP hD hS (by
      congr 1
      congr 1
      funext b j
      by_cases h : b = a
      · subst h
        rw [va_up_self, va_up_self]
        unfold vp_updL
        rw [mpq_to]
      · rw [va_up_ne _ _ h, va_up_ne _ _ h, mpq_ne h])
set_option maxRecDepth 100000 in
set_option maxHeartbeats 4000000 in
theorem c_add (l : Launch) (D : va_G) (cA : ClassId) (tys : List (ClassId × FieldType)) (X : va_W) (L : List Nat) (n : Nat → Nat) (q : Nat → Nat → Int64) (to f h : Nat) (hto : to ∈ L ∧ n to = 10) (hf : f ∈ L ∧ n f = 10) (hh : h ∈ L ∧ n h = 10) : zCv l D ((cA, .long) :: tys) yX0_add wsX0_add ({ frames := 0, cells := 0, slots := 0, locals := 0 }) [.ref to, .ref f, .ref h] (X ++ PL cA L n q) (fun u => u = X ++ PL cA L n (mpq q to (fun j => q f j + q h j) 10)) := by
  refine z_met (fun A => va_Qv (fun u => u = X ++ PL cA L n (mpq q to (fun j => q f j + q h j) 10)) (zB D ((cA, .long) :: tys) A) A) (by decide) rfl (Nat.le_of_ble_eq_true rfl) ?_
  intro p e s m below meth c hx hb hr hml hts hown hlocks hname A hA hP hK hD hS ls hl
  have hown : s.vm.findClass RX0 = some m.cls := hown
  have hl : lv_has ls 4 [(0, .ref to), (1, .ref f), (2, .ref h)] := hl
  refine lv_iconst (v := nI 0) hx hb dX0_add_0 (by decide) ?_
  refine lv_istore_n (lv' := [(3, .int (nI 0)), (0, .ref to), (1, .ref f), (2, .ref h)]) hx hb dX0_add_1 rfl hl (by decide) rfl (fun ls hl => ?_)
  refine z_loop (fun i H locs ls => zH D A s.heap (X ++ PL cA L n (mpq q to (fun j => q f j + q h j) i)) H locs ∧ lv_has ls 4 [(3, .int (nI i)), (0, .ref to), (1, .ref f), (2, .ref h)]) 10 ?_ ?_ ?_
  · exact ⟨by rw [mpq_0]; exact ⟨hP, hD, hS⟩, hl⟩
  · rintro i H locs ls hi ⟨⟨hP, hD, hS⟩, hl⟩ ih
    refine lv_iload_n hx hb dX0_add_2 rfl (lv_at hl 0 rfl) ?_
    refine lv_bipush (v := nI 10) hx hb dX0_add_3 (by decide) ?_
    refine lv_icmp_ge (tgt := 24) hx hb dX0_add_5 (by decide) (fun c5 => absurd ((nI_leI (by omega) (by omega)).mp c5) (by omega)) (fun c5 => ?_)
    refine lv_aload_n hx hb dX0_add_8 rfl (lv_at hl 1 rfl) ?_
    refine lv_iload_n hx hb dX0_add_9 rfl (lv_at hl 0 rfl) ?_
    refine lv_aload_n hx hb dX0_add_10 rfl (lv_at hl 2 rfl) ?_
    refine lv_iload_n hx hb dX0_add_11 rfl (lv_at hl 0 rfl) ?_
    refine z_ld hx hb hK hP hf i rfl (by omega) (by omega) dX0_add_12 ?_
    refine lv_topl (fun v12 e12 => ?_)
    refine lv_aload_n hx hb dX0_add_13 rfl (lv_at hl 3 rfl) ?_
    refine lv_iload_n hx hb dX0_add_14 rfl (lv_at hl 0 rfl) ?_
    refine z_ld hx hb hK hP hh i rfl (by omega) (by omega) dX0_add_15 ?_
    refine lv_topl (fun v15 e15 => ?_)
    refine lv_ladd hx hb dX0_add_16 ?_
    refine lv_topl (fun v16 e16 => ?_)
    refine z_st hx hb hK hP hD hS hto i rfl (by omega) (by omega) dX0_add_17 (fun H locs hP hD hS => ?_)
    rw [mpq_st (F := (fun j => q f j + q h j)) (by rw [e16, e12, e15, mpq_rd, mpq_rd])] at hP hD
    refine lv_iinc (v := nI (i + 1)) (lv' := [(3, .int (nI (i + 1))), (0, .ref to), (1, .ref f), (2, .ref h)]) hx hb dX0_add_18 hl (k := 0) rfl (by show nI _ + nI 1 = _; exact nI_add _ _) (by decide) rfl (fun ls hl => ?_)
    refine lv_goto (tgt := 2) hx hb dX0_add_21 (by decide) ?_
    exact ih _ _ _ ⟨⟨hP, hD, hS⟩, hl⟩
  · rintro H locs ls ⟨⟨hP, hD, hS⟩, hl⟩
    refine lv_iload_n hx hb dX0_add_2 rfl (lv_at hl 0 rfl) ?_
    refine lv_bipush (v := nI 10) hx hb dX0_add_3 (by decide) ?_
    refine lv_icmp_ge (tgt := 24) hx hb dX0_add_5 (by decide) (fun c5 => ?_) (fun c5 => absurd ((nI_leI (by omega) (by omega)).mpr (by omega)) c5)
    exact z_vret hx hb hr hlocks dX0_add_24 hK hP hD hS (rfl)
set_option maxRecDepth 100000 in
set_option maxHeartbeats 4000000 in
theorem c_subtract (l : Launch) (D : va_G) (cA : ClassId) (tys : List (ClassId × FieldType)) (X : va_W) (L : List Nat) (n : Nat → Nat) (q : Nat → Nat → Int64) (to f h : Nat) (hto : to ∈ L ∧ n to = 10) (hf : f ∈ L ∧ n f = 10) (hh : h ∈ L ∧ n h = 10) : zCv l D ((cA, .long) :: tys) yX0_subtract wsX0_subtract ({ frames := 0, cells := 0, slots := 0, locals := 0 }) [.ref to, .ref f, .ref h] (X ++ PL cA L n q) (fun u => u = X ++ PL cA L n (mpq q to (fun j => q f j + (if j = 0 then 134216512 else 134217726) - q h j) 10)) := by
  refine z_met (fun A => va_Qv (fun u => u = X ++ PL cA L n (mpq q to (fun j => q f j + (if j = 0 then 134216512 else 134217726) - q h j) 10)) (zB D ((cA, .long) :: tys) A) A) (by decide) rfl (Nat.le_of_ble_eq_true rfl) ?_
  intro p e s m below meth c hx hb hr hml hts hown hlocks hname A hA hP hK hD hS ls hl
  have hown : s.vm.findClass RX0 = some m.cls := hown
  have hl : lv_has ls 4 [(0, .ref to), (1, .ref f), (2, .ref h)] := hl
  refine lv_aload_n hx hb dX0_subtract_0 rfl (lv_at hl 0 rfl) ?_
  refine lv_iconst (v := nI 0) hx hb dX0_subtract_1 (by decide) ?_
  refine lv_aload_n hx hb dX0_subtract_2 rfl (lv_at hl 1 rfl) ?_
  refine lv_iconst (v := nI 0) hx hb dX0_subtract_3 (by decide) ?_
  refine z_ld hx hb hK hP hf 0 rfl (by omega) (by omega) dX0_subtract_4 ?_
  refine lv_topl (fun v4 e4 => ?_)
  refine lv_ldc2 (v := 134216512) hx hb hown (hts (.constantLong RX0 28 (134216512)) (by decide +kernel)) dX0_subtract_5 ?_
  refine lv_ladd hx hb dX0_subtract_8 ?_
  refine lv_topl (fun v8 e8 => ?_)
  refine lv_aload_n hx hb dX0_subtract_9 rfl (lv_at hl 2 rfl) ?_
  refine lv_iconst (v := nI 0) hx hb dX0_subtract_10 (by decide) ?_
  refine z_ld hx hb hK hP hh 0 rfl (by omega) (by omega) dX0_subtract_11 ?_
  refine lv_topl (fun v11 e11 => ?_)
  refine lv_lsub hx hb dX0_subtract_12 ?_
  refine lv_topl (fun v12 e12 => ?_)
  refine z_st hx hb hK hP hD hS hto 0 rfl (by omega) (by omega) dX0_subtract_13 (fun H locs hP hD hS => ?_)
  have e0 : va_up q to (vp_updL (q to) 0 v12) = mpq q to (fun j => q f j + (if j = 0 then 134216512 else 134217726) - q h j) 1 := by
    have h1 := mpq_st (q := q) (to := to) (i := 0) (F := (fun j => q f j + (if j = 0 then 134216512 else 134217726) - q h j)) (x := v12) (by rw [e12, e8, e4, e11]; rfl)
    rw [mpq_0] at h1
    exact h1
  rw [e0] at hP hD
  refine lv_iconst (v := nI 1) hx hb dX0_subtract_14 (by decide) ?_
  refine lv_istore_n (lv' := [(3, .int (nI 1)), (0, .ref to), (1, .ref f), (2, .ref h)]) hx hb dX0_subtract_15 rfl hl (by decide) rfl (fun ls hl => ?_)
  refine z_loop (fun i H locs ls => zH D A s.heap (X ++ PL cA L n (mpq q to (fun j => q f j + (if j = 0 then 134216512 else 134217726) - q h j) (i + 1))) H locs ∧ lv_has ls 4 [(3, .int (nI (i + 1))), (0, .ref to), (1, .ref f), (2, .ref h)]) 9 ?_ ?_ ?_
  · exact ⟨⟨hP, hD, hS⟩, hl⟩
  · rintro i H locs ls hi ⟨⟨hP, hD, hS⟩, hl⟩ ih
    refine lv_iload_n hx hb dX0_subtract_16 rfl (lv_at hl 0 rfl) ?_
    refine lv_bipush (v := nI 10) hx hb dX0_subtract_17 (by decide) ?_
    refine lv_icmp_ge (tgt := 42) hx hb dX0_subtract_19 (by decide) (fun c19 => absurd ((nI_leI (by omega) (by omega)).mp c19) (by omega)) (fun c19 => ?_)
    refine lv_aload_n hx hb dX0_subtract_22 rfl (lv_at hl 1 rfl) ?_
    refine lv_iload_n hx hb dX0_subtract_23 rfl (lv_at hl 0 rfl) ?_
    refine lv_aload_n hx hb dX0_subtract_24 rfl (lv_at hl 2 rfl) ?_
    refine lv_iload_n hx hb dX0_subtract_25 rfl (lv_at hl 0 rfl) ?_
    refine z_ld hx hb hK hP hf (i + 1) rfl (by omega) (by omega) dX0_subtract_26 ?_
    refine lv_topl (fun v26 e26 => ?_)
    refine lv_ldc2 (v := 134217726) hx hb hown (hts (.constantLong RX0 30 (134217726)) (by decide +kernel)) dX0_subtract_27 ?_
    refine lv_ladd hx hb dX0_subtract_30 ?_
    refine lv_topl (fun v30 e30 => ?_)
    refine lv_aload_n hx hb dX0_subtract_31 rfl (lv_at hl 3 rfl) ?_
    refine lv_iload_n hx hb dX0_subtract_32 rfl (lv_at hl 0 rfl) ?_
    refine z_ld hx hb hK hP hh (i + 1) rfl (by omega) (by omega) dX0_subtract_33 ?_
    refine lv_topl (fun v33 e33 => ?_)
    refine lv_lsub hx hb dX0_subtract_34 ?_
    refine lv_topl (fun v34 e34 => ?_)
    refine z_st hx hb hK hP hD hS hto (i + 1) rfl (by omega) (by omega) dX0_subtract_35 (fun H locs hP hD hS => ?_)
    rw [mpq_st (F := (fun j => q f j + (if j = 0 then 134216512 else 134217726) - q h j)) (by rw [e34, e30, e26, e33, mpq_rd, mpq_rd]; rfl)] at hP hD
    refine lv_iinc (v := nI ((i + 1) + 1)) (lv' := [(3, .int (nI ((i + 1) + 1))), (0, .ref to), (1, .ref f), (2, .ref h)]) hx hb dX0_subtract_36 hl (k := 0) rfl (by show nI _ + nI 1 = _; exact nI_add _ _) (by decide) rfl (fun ls hl => ?_)
    refine lv_goto (tgt := 16) hx hb dX0_subtract_39 (by decide) ?_
    exact ih _ _ _ ⟨⟨hP, hD, hS⟩, hl⟩
  · rintro H locs ls ⟨⟨hP, hD, hS⟩, hl⟩
    refine lv_iload_n hx hb dX0_subtract_16 rfl (lv_at hl 0 rfl) ?_
    refine lv_bipush (v := nI 10) hx hb dX0_subtract_17 (by decide) ?_
    refine lv_icmp_ge (tgt := 42) hx hb dX0_subtract_19 (by decide) (fun c19 => ?_) (fun c19 => absurd ((nI_leI (by omega) (by omega)).mpr (by omega)) c19)
    exact z_vret hx hb hr hlocks dX0_subtract_42 hK hP hD hS (rfl)
end
section
theorem ns26 (a : Int64) : (a >>> ((nI 26).toInt64 &&& 63)).toInt = a.toInt / 67108864 := tl_shr a (nI 26) 26 (by decide)
theorem ns21 (a : Int64) : (a >>> ((nI 21).toInt64 &&& 63)).toInt = a.toInt / 2097152 := tl_shr a (nI 21) 21 (by decide)
theorem up_id {q : Nat → Nat → Int64} {a : Nat} : va_up q a (q a) = q := by
  funext b
  by_cases h : b = a
  · subst h; rw [va_up_self]
  · rw [va_up_ne _ _ h]
theorem up_uu {q : Nat → Nat → Int64} {a : Nat} {g h : Nat → Int64} : va_up (va_up q a g) a h = va_up q a h := bx_uu q a g h
theorem fI_at (f : Nat → Int64) (j : Nat) : fI f j = (f j).toInt := rfl
theorem fI_us {f : Nat → Int64} {k : Nat} {x : Int64} : fI (vp_updL f k x) k = x.toInt := by
  rw [fI_upd]; simp
theorem fI_un {f : Nat → Int64} {k j : Nat} {x : Int64} (h : j ≠ k) : fI (vp_updL f k x) j = fI f j := by
  rw [fI_upd]; simp [h]
/-! carry over a row of ten -/
def Icar (f g : Nat → Int64) (i : Nat) (o : Int64) : Prop := (∀ j, j < i → 0 ≤ fI g j ∧ fI g j < bB) ∧ (∀ j, i ≤ j → g j = f j) ∧ 0 ≤ o.toInt ∧ o.toInt < 137438953472 ∧ sv bB (fI g) i + o.toInt * bB ^ i = sv bB (fI f) i
theorem Icar_0 (f : Nat → Int64) : Icar f f 0 0 := ⟨fun j h => by omega, fun _ _ => rfl, by decide, by decide, by simp [sv]⟩
theorem Icar_s {f g : Nat → Int64} {i : Nat} {o v r o' : Int64} (h : Icar f g i o) (hf : 0 ≤ fI f i ∧ fI f i < 4611686018427387904) (hv : v = g i + o) (hr : r = v &&& 67108863) (ho : o' = v >>> ((nI 26).toInt64 &&& 63)) : Icar f (vp_updL g i r) (i + 1) o' := by
  obtain ⟨h1, h2, h3, h4, h5⟩ := h
  have hg : (g i).toInt = fI f i := by rw [h2 i (Nat.le_refl i)]; rfl
  have hvi : v.toInt = fI f i + o.toInt := by rw [hv, tl_add (by rw [hg]; omega) (by rw [hg]; omega), hg]
  have hri : r.toInt = v.toInt % 67108864 := by rw [hr]; exact tl_m26 v
  have hoi : o'.toInt = v.toInt / 67108864 := by rw [ho]; exact ns26 v
  refine ⟨fun j hj => ?_, fun j hj => ?_, by omega, by omega, ?_⟩
  · by_cases e : j = i
    · subst e; rw [fI_us, hri]; exact ⟨by omega, by show _ < (67108864 : Int); omega⟩
    · rw [fI_un e]; exact h1 j (by omega)
  · show (if j = i then r else g j) = f j
    rw [if_neg (by omega)]
    exact h2 j (by omega)
  · show sv bB (fI (vp_updL g i r)) i + fI (vp_updL g i r) i * bB ^ i + o'.toInt * bB ^ (i + 1) = sv bB (fI f) i + fI f i * bB ^ i
    rw [fI_us, fI_upd, sv_up (Nat.le_refl i), ← h5, Int.pow_succ]
    have hd : v.toInt = 67108864 * o'.toInt + r.toInt := by omega
    have : fI f i = 67108864 * o'.toInt + r.toInt - o.toInt := by omega
    rw [this]
    show _ + _ + o'.toInt * (bB ^ i * 67108864) = _
    generalize (bB : Int) ^ i = t
    grind
def CarP (f g : Nat → Int64) : Prop := ∃ o : Int, 0 ≤ o ∧ (∀ j, 1 ≤ j → j < 10 → 0 ≤ fI g j ∧ fI g j < 67108864) ∧ 608 * o ≤ fI g 0 ∧ fI g 0 < 67108864 + 608 * o ∧ fv g = fv f - o * bB ^ 10 + 608 * o ∧ o * bB ^ 10 ≤ fv f
theorem Icar_e {f g : Nat → Int64} {o x y : Int64} (h : Icar f g 10 o) (hx : x = 608 * o) (hy : y = g 0 + x) : CarP f (vp_updL g 0 y) := by
  obtain ⟨h1, -, h3, h4, h5⟩ := h
  have hx1 : x.toInt = 608 * o.toInt := by
    have e : (608 : Int64).toInt = 608 := by decide
    rw [hx, tl_mul (by rw [e]; omega) (by rw [e]; omega), e]
  have h0 := h1 0 (by omega)
  have hy1 : y.toInt = fI g 0 + 608 * o.toInt := by
    have : (g 0).toInt = fI g 0 := rfl
    have hB : (bB : Int) = 67108864 := rfl
    rw [hy, tl_add (by omega) (by omega), hx1, this]
  refine ⟨o.toInt, h3, fun j h1j hj => ?_, ?_, ?_, ?_, ?_⟩
  · rw [fI_un (by omega)]; exact h1 j hj
  · rw [fI_us]; omega
  · rw [fI_us]; have hB : (bB : Int) = 67108864 := rfl; omega
  · unfold fv
    rw [fI_upd, sv_upd (by omega), ← h5, hy1, Int.pow_zero]
    omega
  · unfold fv
    rw [← h5]
    have := sv_nn (B := bB) (f := fI g) (by decide) (n := 10) (fun j hj => (h1 j hj).1)
    omega
/-! carry over the wide row -/
def Icw (f g : Nat → Int64) (i : Nat) : Prop := (∀ j, j < i → 0 ≤ fI g j ∧ fI g j < 67108864) ∧ (∀ j, i < j → g j = f j) ∧ 0 ≤ fI g i ∧ fI g i < 4611686155866341376 ∧ sv bB (fI g) 20 = sv bB (fI f) 20
theorem Icw_0 {f : Nat → Int64} (h : 0 ≤ fI f 0 ∧ fI f 0 < 4611686018427387904) : Icw f f 0 := ⟨fun j h => by omega, fun _ _ => rfl, h.1, by omega, rfl⟩
theorem Icw_s {f g : Nat → Int64} {i : Nat} {x y z : Int64} (h : Icw f g i) (hi : i < 19) (hf : 0 ≤ fI f (i + 1) ∧ fI f (i + 1) < 4611686018427387904) (hx : x = g i >>> ((nI 26).toInt64 &&& 63)) (hy : y = g (i + 1) + x) (hz : z = g i &&& 67108863) : Icw f (vp_updL (vp_updL g (i + 1) y) i z) (i + 1) := by
  obtain ⟨h1, h2, h3, h4, h5⟩ := h
  have hg : (g (i + 1)).toInt = fI f (i + 1) := by rw [h2 (i + 1) (by omega)]; rfl
  have hgi : (g i).toInt = fI g i := rfl
  have hxi : x.toInt = fI g i / 67108864 := by rw [hx]; exact ns26 _
  have hyi : y.toInt = fI f (i + 1) + fI g i / 67108864 := by rw [hy, tl_add (by omega) (by omega), hg, hxi]
  have hzi : z.toInt = fI g i % 67108864 := by rw [hz]; exact tl_m26 _
  refine ⟨fun j hj => ?_, fun j hj => ?_, ?_, ?_, ?_⟩
  · by_cases e : j = i
    · subst e; rw [fI_us, hzi]; omega
    · rw [fI_un e, fI_un (by omega)]; exact h1 j (by omega)
  · show (if j = i then z else if j = i + 1 then y else g j) = f j
    rw [if_neg (by omega), if_neg (by omega)]
    exact h2 j (by omega)
  · rw [fI_un (by omega), fI_us]; omega
  · rw [fI_un (by omega), fI_us]; omega
  · rw [fI_upd, sv_upd (by omega), fI_un (by omega), fI_upd, sv_upd (by omega), h5, hyi, hzi, show fI g (i + 1) = fI f (i + 1) from hg, Int.pow_succ]
    show _ + _ * (bB ^ i * 67108864) + _ = _
    generalize (bB : Int) ^ i = t
    have hd := Int.emod_add_mul_ediv (fI g i) 67108864
    generalize fI g i / 67108864 = a at hd ⊢
    generalize fI g i % 67108864 = b at hd ⊢
    rw [← hd]
    grind
/-! the products gathered -/
def Igo (f h w : Nat → Int64) (i : Nat) : Prop := (∀ k, k < 20 → 0 ≤ fI w k ∧ fI w k ≤ i * 288230376151711744) ∧ sv bB (fI w) 20 = sv bB (fI f) i * fv h
def Igi (f h w : Nat → Int64) (i j : Nat) : Prop := (∀ k, k < 20 → 0 ≤ fI w k ∧ fI w k ≤ (i + 1) * 288230376151711744 ∧ (i + j ≤ k → fI w k ≤ i * 288230376151711744)) ∧ sv bB (fI w) 20 = sv bB (fI f) i * fv h + fI f i * bB ^ i * sv bB (fI h) j
theorem sv_0s {w : Nat → Int} : ∀ {n : Nat}, (∀ j, j < n → w j = 0) → sv bB w n = 0 := by
  intro n
  induction n with
  | zero => intro _; rfl
  | succ n ih =>
    intro h
    show sv bB w n + w n * bB ^ n = 0
    rw [ih (fun j hj => h j (by omega)), h n (by omega)]
    omega
theorem Igo_0 {f h w : Nat → Int64} (hw : ∀ k, k < 20 → w k = 0) : Igo f h w 0 := by
  have h0 : ∀ k, k < 20 → fI w k = 0 := fun k hk => by rw [fI_at, hw k hk]; rfl
  refine ⟨fun k hk => by rw [h0 k hk]; omega, ?_⟩
  rw [sv_0s h0]
  show 0 = 0 * _
  omega
theorem Igi_0 {f h w : Nat → Int64} {i : Nat} (H : Igo f h w i) : Igi f h w i 0 := by
  refine ⟨fun k hk => ?_, ?_⟩
  · have := H.1 k hk; omega
  · rw [H.2]; show _ = _ + _ * 0; omega
theorem Igi_e {f h w : Nat → Int64} {i : Nat} (H : Igi f h w i 10) : Igo f h w (i + 1) := by
  refine ⟨fun k hk => ?_, ?_⟩
  · have := H.1 k hk; omega
  · rw [H.2]
    show _ = (sv bB (fI f) i + fI f i * bB ^ i) * sv bB (fI h) 10
    rw [Int.add_mul]
    rfl
theorem Igi_s {f h w : Nat → Int64} {i j : Nat} {x y : Int64} (H : Igi f h w i j) (hi : i < 10) (hj : j < 10) (hf : loose f) (hh : loose h) (hx : x = f i * h j) (hy : y = w (i + j) + x) : Igi f h (vp_updL w (i + j) y) i (j + 1) := by
  obtain ⟨h1, h2⟩ := H
  have a := hf i hi
  have b := hh j hj
  have c0 : 0 ≤ fI f i * fI h j := Int.mul_nonneg a.1 b.1
  have c1 : fI f i * fI h j ≤ 536870912 * 536870912 := Int.mul_le_mul (by omega) (by omega) b.1 (by omega)
  have hxi : x.toInt = fI f i * fI h j := by rw [hx]; exact tl_mul (a := f i) (b := h j) (by show _ ≤ fI f i * fI h j; omega) (by show fI f i * fI h j < _; omega)
  have k0 := h1 (i + j) (by omega)
  have k1 := k0.2.2 (by omega)
  have hwi : (w (i + j)).toInt = fI w (i + j) := rfl
  have hyi : y.toInt = fI w (i + j) + fI f i * fI h j := by
    rw [hy, tl_add (by rw [hxi]; omega) (by rw [hxi]; omega), hxi, hwi]
  refine ⟨fun k hk => ?_, ?_⟩
  · by_cases e : k = i + j
    · subst e; rw [fI_us, hyi]; omega
    · rw [fI_un e]
      have := h1 k hk
      exact ⟨this.1, this.2.1, fun q => this.2.2 (by omega)⟩
  · rw [fI_upd, sv_upd (by omega), h2, hyi]
    show _ = _ + fI f i * bB ^ i * (sv bB (fI h) j + fI h j * bB ^ j)
    rw [Int.pow_add]
    generalize (bB : Int) ^ i = t
    generalize (bB : Int) ^ j = t2
    grind
theorem Igo_e {f h w : Nat → Int64} (H : Igo f h w 10) : (∀ k, k < 20 → 0 ≤ fI w k ∧ fI w k < 4611686018427387904) ∧ sv bB (fI w) 20 = fv f * fv h := by
  refine ⟨fun k hk => ?_, H.2⟩
  have := H.1 k hk
  omega
/-! the product, folded and carried -/
theorem mul_fold {w t : Nat → Int64} {F G : Int} (hF : 0 ≤ F ∧ F ≤ 14821389189223537792601415664409552948137073864685889072669528874619081886531584) (hG : 0 ≤ G ∧ G ≤ 14821389189223537792601415664409552948137073864685889072669528874619081886531584)
    (h1 : ∀ j, j < 19 → 0 ≤ fI w j ∧ fI w j < 67108864) (h2 : 0 ≤ fI w 19) (h3 : sv bB (fI w) 20 = F * G) (ht : ∀ j, j < 10 → t j = w j + 608 * w (j + 10)) :
    (∀ j, j < 10 → 0 ≤ fI t j ∧ fI t j < 4611686018427387904) ∧ 0 ≤ fv t ∧ fv t ≤ 38914 * bB ^ 10 ∧ cg (fv t) (F * G) := by
  have e : (608 : Int64).toInt = 608 := by decide
  have hFG : F * G ≤ 14821389189223537792601415664409552948137073864685889072669528874619081886531584 * 14821389189223537792601415664409552948137073864685889072669528874619081886531584 := Int.mul_le_mul hF.2 hG.2 hG.1 (by omega)
  rw [show (20 : Nat) = 10 + 10 from rfl, sv_split] at h3
  have hlo0 := sv_nn (B := bB) (f := fI w) (by decide) (n := 10) (fun j hj => (h1 j (by omega)).1)
  have hlo1 := sv_lt (B := bB) (f := fI w) (by decide) (n := 10) (fun j hj => h1 j (by omega))
  have hhi0 := sv_nn (B := bB) (f := fun j => fI w (10 + j)) (by decide) (n := 10) (fun j hj => by
    by_cases e : j = 9
    · subst e; exact h2
    · exact (h1 (10 + j) (by omega)).1)
  rw [B10] at h3 hlo1
  have hhi1 : sv bB (fun j => fI w (10 + j)) 10 ≤ 118571127648566505564552658896643596216887656264275389907834304755582334408851457 := by omega
  have h19 : fI w 19 < 17179869184 := by
    rw [sv10] at hhi1
    have a0 := h1 10 (by omega)
    have a1 := h1 11 (by omega)
    have a2 := h1 12 (by omega)
    have a3 := h1 13 (by omega)
    have a4 := h1 14 (by omega)
    have a5 := h1 15 (by omega)
    have a6 := h1 16 (by omega)
    have a7 := h1 17 (by omega)
    have a8 := h1 18 (by omega)
    simp only [Nat.reduceAdd] at hhi1
    omega
  have hw2 : ∀ j, j < 10 → 0 ≤ fI w (j + 10) ∧ fI w (j + 10) < 17179869184 := fun j hj => by
    by_cases e : j = 9
    · subst e; exact ⟨h2, h19⟩
    · have := h1 (j + 10) (by omega); omega
  have hti : ∀ j, j < 10 → fI t j = fI w j + 608 * fI w (j + 10) := fun j hj => by
    have a := h1 j (by omega)
    have b := hw2 j hj
    have hm : (608 * w (j + 10)).toInt = 608 * fI w (j + 10) := by rw [tl_mul (by rw [e]; show _ ≤ 608 * fI w (j + 10); omega) (by rw [e]; show 608 * fI w (j + 10) < _; omega), e]; rfl
    rw [fI_at, ht j hj, tl_add (by rw [hm]; show _ ≤ fI w j + _; omega) (by rw [hm]; show fI w j + _ < _; omega), hm]
    rfl
  have hsum : fv t = sv bB (fI w) 10 + 608 * sv bB (fun j => fI w (10 + j)) 10 := by
    unfold fv
    rw [sv_congr (g := fun j => fI w j + 608 * fI w (10 + j)) (fun j hj => by rw [hti j hj, Nat.add_comm j 10]), sv_add, sv_mul]
  refine ⟨fun j hj => ?_, by omega, ?_, ?_⟩
  · have a := h1 j (by omega)
    have b := hw2 j hj
    rw [hti j hj]
    omega
  · rw [hsum, B10]
    omega
  · rw [hsum, ← h3]
    refine ⟨-32 * sv bB (fun j => fI w (10 + j)) 10, ?_⟩
    unfold pP
    omega
theorem car_settled {f g : Nat → Int64} (h : CarP f g) (hf : fv f ≤ 38914 * bB ^ 10) : settled g ∧ cg (fv g) (fv f) := by
  obtain ⟨o, h0, h1, h2, h3, h4, h5⟩ := h
  rw [B10] at *
  refine ⟨⟨⟨by omega, by omega⟩, h1⟩, -32 * o, ?_⟩
  rw [h4]
  unfold pP
  omega
/-! times 121665 -/
theorem scale_fold {f t : Nat → Int64} (hf : ∀ j, j < 10 → 0 ≤ fI f j ∧ fI f j < 268435456) (ht : ∀ j, j < 10 → t j = f j * 121665) : (∀ j, j < 10 → 0 ≤ fI t j ∧ fI t j < 4611686018427387904) ∧ fv t = 121665 * fv f ∧ fv t ≤ 486661 * bB ^ 10 := by
  have e : (121665 : Int64).toInt = 121665 := by decide
  have hti : ∀ j, j < 10 → fI t j = 121665 * fI f j := fun j hj => by
    have a := hf j hj
    rw [fI_at, ht j hj, tl_mul (by rw [e]; show _ ≤ fI f j * 121665; omega) (by rw [e]; show fI f j * 121665 < _; omega), e]
    show fI f j * 121665 = _
    omega
  have hs : fv t = 121665 * fv f := by
    unfold fv
    rw [sv_congr (g := fun j => 121665 * fI f j) hti, sv_mul]
  refine ⟨fun j hj => ?_, hs, ?_⟩
  · have a := hf j hj
    rw [hti j hj]
    omega
  · rw [hs, B10]
    unfold fv
    rw [sv10]
    have h0 := hf 0 (by omega)
    have h1 := hf 1 (by omega)
    have h2 := hf 2 (by omega)
    have h3 := hf 3 (by omega)
    have h4 := hf 4 (by omega)
    have h5 := hf 5 (by omega)
    have h6 := hf 6 (by omega)
    have h7 := hf 7 (by omega)
    have h8 := hf 8 (by omega)
    have h9 := hf 9 (by omega)
    omega
def scaled (g : Nat → Int64) : Prop := (0 ≤ fI g 0 ∧ fI g 0 < 362998753) ∧ ∀ j, 1 ≤ j → j < 10 → 0 ≤ fI g j ∧ fI g j < 67108864
theorem car_scaled {f g : Nat → Int64} (h : CarP f g) (hf : fv f ≤ 486661 * bB ^ 10) : scaled g ∧ cg (fv g) (fv f) := by
  obtain ⟨o, h0, h1, h2, h3, h4, h5⟩ := h
  rw [B10] at *
  refine ⟨⟨⟨by omega, by omega⟩, h1⟩, -32 * o, ?_⟩
  rw [h4]
  unfold pP
  omega
/-! sums and differences -/
theorem add_fold {f h t : Nat → Int64} (hf : settled f) (hh : ∀ j, j < 10 → 0 ≤ fI h j ∧ fI h j < 362998753) (ht : ∀ j, j < 10 → t j = f j + h j) : loose t ∧ fv t = fv f + fv h := by
  have hti : ∀ j, j < 10 → fI t j = fI f j + fI h j := fun j hj => by
    have a := settled_at hf hj
    have b := hh j hj
    rw [fI_at, ht j hj, tl_add (by show _ ≤ fI f j + fI h j; omega) (by show fI f j + fI h j < _; omega)]
    rfl
  refine ⟨fun j hj => ?_, ?_⟩
  · have a := settled_at hf hj
    have b := hh j hj
    rw [hti j hj]
    omega
  · unfold fv
    rw [sv_congr (g := fun j => fI f j + fI h j) hti, sv_add]
theorem sub_fold {f h t : Nat → Int64} (hf : settled f) (hh : settled h) (ht : ∀ j, j < 10 → t j = f j + (if j = 0 then 134216512 else 134217726) - h j) : (∀ j, j < 10 → 0 ≤ fI t j ∧ fI t j < 268435456) ∧ cg (fv t) (fv f - fv h) := by
  have e0 : (134216512 : Int64).toInt = 134216512 := by decide
  have e1 : (134217726 : Int64).toInt = 134217726 := by decide
  have hti : ∀ j, j < 10 → fI t j = fI f j + ((if j = 0 then 134216512 else 134217726) + -1 * fI h j) := fun j hj => by
    have a := settled_at hf hj
    have b := settled_at hh hj
    rw [fI_at, ht j hj]
    by_cases ej : j = 0
    · rw [if_pos ej, if_pos ej]
      have h1 : (f j + 134216512).toInt = fI f j + 134216512 := by rw [tl_add (by rw [e0]; show _ ≤ fI f j + _; omega) (by rw [e0]; show fI f j + _ < _; omega), e0]; rfl
      rw [tl_sub (by rw [h1]; show _ ≤ _ - fI h j; omega) (by rw [h1]; show _ - fI h j < _; omega), h1]
      show _ - fI h j = _
      omega
    · rw [if_neg ej, if_neg ej]
      have h1 : (f j + 134217726).toInt = fI f j + 134217726 := by rw [tl_add (by rw [e1]; show _ ≤ fI f j + _; omega) (by rw [e1]; show fI f j + _ < _; omega), e1]; rfl
      rw [tl_sub (by rw [h1]; show _ ≤ _ - fI h j; omega) (by rw [h1]; show _ - fI h j < _; omega), h1]
      show _ - fI h j = _
      omega
  refine ⟨fun j hj => ?_, 64, ?_⟩
  · rw [hti j hj]
    by_cases ej : j = 0
    · subst ej
      have a := hf.1
      have b := hh.1
      simp only [if_true]
      omega
    · have a := hf.2 j (by omega) hj
      have b := hh.2 j (by omega) hj
      rw [if_neg ej]
      omega
  · unfold fv
    rw [sv_congr hti, sv_add, sv_add, sv_mul, show sv bB (fun j => if j = 0 then (134216512 : Int) else 134217726) 10 = pP * 64 from by decide]
    omega
theorem lo_of28 {t : Nat → Int64} (h : ∀ j, j < 10 → 0 ≤ fI t j ∧ fI t j < 268435456) : loose t := fun j hj => by
  have := h j hj
  omega
theorem scaled_at {g : Nat → Int64} (h : scaled g) {j : Nat} (hj : j < 10) : 0 ≤ fI g j ∧ fI g j < 362998753 := by
  by_cases h0 : j = 0
  · subst h0; exact h.1
  · have := h.2 j (by omega) hj
    omega
theorem settled_363 {g : Nat → Int64} (h : settled g) {j : Nat} (hj : j < 10) : 0 ≤ fI g j ∧ fI g j < 362998753 := by
  have := settled_at h hj
  omega
end
section
set_option maxRecDepth 100000 in
set_option maxHeartbeats 4000000 in
theorem c_carry (l : Launch) (D : va_G) (cA : ClassId) (tys : List (ClassId × FieldType)) (X : va_W) (L : List Nat) (n : Nat → Nat) (q : Nat → Nat → Int64) (a : Nat) (ha : a ∈ L ∧ n a = 10) (hq : ∀ j, j < 10 → 0 ≤ fI (q a) j ∧ fI (q a) j < 4611686018427387904) : zCv l D ((cA, .long) :: tys) yX0_carry wsX0_carry ({ frames := 0, cells := 0, slots := 0, locals := 0 }) [.ref a] (X ++ PL cA L n q) (fun u => ∃ g, CarP (q a) g ∧ u = X ++ PL cA L n (va_up q a g)) := by
  refine z_met (fun A => va_Qv (fun u => ∃ g, CarP (q a) g ∧ u = X ++ PL cA L n (va_up q a g)) (zB D ((cA, .long) :: tys) A) A) (by decide) rfl (Nat.le_of_ble_eq_true rfl) ?_
  intro p e s m below meth c hx hb hr hml hts hown hlocks hname A hA hP hK hD hS ls hl
  have hown : s.vm.findClass RX0 = some m.cls := hown
  have hl : lv_has ls 6 [(0, .ref a)] := hl
  refine lv_lconst (v := 0) hx hb dX0_carry_0 (by decide) ?_
  refine lv_lstore_n (lv' := [(1, .long 0), (0, .ref a)]) hx hb dX0_carry_1 rfl hl (by decide) rfl (fun ls hl => ?_)
  refine lv_iconst (v := nI 0) hx hb dX0_carry_2 (by decide) ?_
  refine lv_istore_n (lv' := [(3, .int (nI 0)), (1, .long 0), (0, .ref a)]) hx hb dX0_carry_3 rfl hl (by decide) rfl (fun ls hl => ?_)
  refine z_loop (fun i H locs ls => ∃ (g : Nat → Int64) (o : Int64), Icar (q a) g i o ∧ zH D A s.heap (X ++ PL cA L n (va_up q a g)) H locs ∧ lv_has ls 6 [(3, .int (nI i)), (1, .long o), (0, .ref a)]) 10 ?_ ?_ ?_
  · exact ⟨q a, 0, Icar_0 _, by rw [up_id]; exact ⟨hP, hD, hS⟩, hl⟩
  · rintro i H locs ls hi ⟨g, o, hI, ⟨hP, hD, hS⟩, hl⟩ ih
    refine lv_iload_n hx hb dX0_carry_4 rfl (lv_at hl 0 rfl) ?_
    refine lv_bipush (v := nI 10) hx hb dX0_carry_5 (by decide) ?_
    refine lv_icmp_ge (tgt := 38) hx hb dX0_carry_7 (by decide) (fun c7 => absurd ((nI_leI (by omega) (by omega)).mp c7) (by omega)) (fun c7 => ?_)
    refine lv_aload_n hx hb dX0_carry_10 rfl (lv_at hl 2 rfl) ?_
    refine lv_iload_n hx hb dX0_carry_11 rfl (lv_at hl 0 rfl) ?_
    refine z_ld hx hb hK hP ha i rfl (by omega) (by omega) dX0_carry_12 ?_
    refine lv_topl (fun v12 e12 => ?_)
    refine lv_lload_n hx hb dX0_carry_13 rfl (lv_at hl 1 rfl) ?_
    refine lv_ladd hx hb dX0_carry_14 ?_
    refine lv_topl (fun v14 e14 => ?_)
    refine lv_lstore (lv' := [(4, .long v14), (3, .int (nI i)), (1, .long o), (0, .ref a)]) hx hb dX0_carry_15 hl (by decide) rfl (fun ls hl => ?_)
    refine lv_aload_n hx hb dX0_carry_17 rfl (lv_at hl 3 rfl) ?_
    refine lv_iload_n hx hb dX0_carry_18 rfl (lv_at hl 1 rfl) ?_
    refine lv_lload hx hb dX0_carry_19 (lv_at hl 0 rfl) ?_
    refine lv_ldc2 (v := 67108863) hx hb hown (hts (.constantLong RX0 57 (67108863)) (by decide +kernel)) dX0_carry_21 ?_
    refine lv_land hx hb dX0_carry_24 ?_
    refine lv_topl (fun v24 e24 => ?_)
    refine z_st hx hb hK hP hD hS ha i rfl (by omega) (by omega) dX0_carry_25 (fun H locs hP hD hS => ?_)
    rw [up_uu, va_up_self] at hP hD
    rw [va_up_self] at e12
    refine lv_lload hx hb dX0_carry_26 (lv_at hl 0 rfl) ?_
    refine lv_bipush (v := nI 26) hx hb dX0_carry_28 (by decide) ?_
    refine lv_lshr hx hb dX0_carry_30 rfl ?_
    refine lv_topl (fun v30 e30 => ?_)
    refine lv_lstore_n (lv' := [(1, .long v30), (4, .long v14), (3, .int (nI i)), (0, .ref a)]) hx hb dX0_carry_31 rfl hl (by decide) rfl (fun ls hl => ?_)
    refine lv_iinc (v := nI (i + 1)) (lv' := [(3, .int (nI (i + 1))), (1, .long v30), (4, .long v14), (0, .ref a)]) hx hb dX0_carry_32 hl (k := 2) rfl (by show nI _ + nI 1 = _; exact nI_add _ _) (by decide) rfl (fun ls hl => ?_)
    refine lv_goto (tgt := 4) hx hb dX0_carry_35 (by decide) ?_
    exact ih _ _ _ ⟨_, _, Icar_s (v := v14) hI (hq i hi) (by rw [e14, e12]) e24 e30, ⟨hP, hD, hS⟩, lv_sub hl [0, 1, 3] rfl⟩
  · rintro H locs ls ⟨g, o, hI, ⟨hP, hD, hS⟩, hl⟩
    refine lv_iload_n hx hb dX0_carry_4 rfl (lv_at hl 0 rfl) ?_
    refine lv_bipush (v := nI 10) hx hb dX0_carry_5 (by decide) ?_
    refine lv_icmp_ge (tgt := 38) hx hb dX0_carry_7 (by decide) (fun c7 => ?_) (fun c7 => absurd ((nI_leI (by omega) (by omega)).mpr (by omega)) c7)
    refine lv_aload_n hx hb dX0_carry_38 rfl (lv_at hl 2 rfl) ?_
    refine lv_iconst (v := nI 0) hx hb dX0_carry_39 (by decide) ?_
    refine lv_dup2_11 hx hb dX0_carry_40 rfl rfl ?_
    refine z_ld hx hb hK hP ha 0 rfl (by omega) (by omega) dX0_carry_41 ?_
    refine lv_topl (fun v41 e41 => ?_)
    refine lv_ldc2 (v := 608) hx hb hown (hts (.constantLong RX0 45 (608)) (by decide +kernel)) dX0_carry_42 ?_
    refine lv_lload_n hx hb dX0_carry_45 rfl (lv_at hl 1 rfl) ?_
    refine lv_lmul hx hb dX0_carry_46 ?_
    refine lv_topl (fun v46 e46 => ?_)
    refine lv_ladd hx hb dX0_carry_47 ?_
    refine lv_topl (fun v47 e47 => ?_)
    refine z_st hx hb hK hP hD hS ha 0 rfl (by omega) (by omega) dX0_carry_48 (fun H locs hP hD hS => ?_)
    rw [up_uu, va_up_self] at hP hD
    rw [va_up_self] at e41
    exact z_vret hx hb hr hlocks dX0_carry_49 hK hP hD hS (⟨_, Icar_e (x := v46) (y := v47) hI e46 (by rw [e47, e41]), rfl⟩)
set_option maxRecDepth 100000 in
set_option maxHeartbeats 4000000 in
theorem c_scale (l : Launch) (D : va_G) (cA : ClassId) (tys : List (ClassId × FieldType)) (X : va_W) (L : List Nat) (n : Nat → Nat) (q : Nat → Nat → Int64) (to f : Nat) (hto : to ∈ L ∧ n to = 10) (hf : f ∈ L ∧ n f = 10) (hq : ∀ j, j < 10 → 0 ≤ fI (q f) j ∧ fI (q f) j < 268435456) : zCv l D ((cA, .long) :: tys) yX0_scale wsX0_scale ({ frames := 1, cells := 0, slots := 0, locals := 25 }) [.ref to, .ref f] (X ++ PL cA L n q) (fun u => ∃ g, scaled g ∧ cg (fv g) (121665 * fv (q f)) ∧ u = X ++ PL cA L n (va_up q to g)) := by
  refine z_met (fun A => va_Qv (fun u => ∃ g, scaled g ∧ cg (fv g) (121665 * fv (q f)) ∧ u = X ++ PL cA L n (va_up q to g)) (zB D ((cA, .long) :: tys) A) A) (by decide) rfl (Nat.le_of_ble_eq_true rfl) ?_
  intro p e s m below meth c hx hb hr hml hts hown hlocks hname A hA hP hK hD hS ls hl
  have hown : s.vm.findClass RX0 = some m.cls := hown
  have hl : lv_has ls 3 [(0, .ref to), (1, .ref f)] := hl
  refine lv_iconst (v := nI 0) hx hb dX0_scale_0 (by decide) ?_
  refine lv_istore_n (lv' := [(2, .int (nI 0)), (0, .ref to), (1, .ref f)]) hx hb dX0_scale_1 rfl hl (by decide) rfl (fun ls hl => ?_)
  refine z_loop (fun i H locs ls => zH D A s.heap (X ++ PL cA L n (mpq q to (fun j => q f j * 121665) i)) H locs ∧ lv_has ls 3 [(2, .int (nI i)), (0, .ref to), (1, .ref f)]) 10 ?_ ?_ ?_
  · exact ⟨by rw [mpq_0]; exact ⟨hP, hD, hS⟩, hl⟩
  · rintro i H locs ls hi ⟨⟨hP, hD, hS⟩, hl⟩ ih
    refine lv_iload_n hx hb dX0_scale_2 rfl (lv_at hl 0 rfl) ?_
    refine lv_bipush (v := nI 10) hx hb dX0_scale_3 (by decide) ?_
    refine lv_icmp_ge (tgt := 24) hx hb dX0_scale_5 (by decide) (fun c5 => absurd ((nI_leI (by omega) (by omega)).mp c5) (by omega)) (fun c5 => ?_)
    refine lv_aload_n hx hb dX0_scale_8 rfl (lv_at hl 1 rfl) ?_
    refine lv_iload_n hx hb dX0_scale_9 rfl (lv_at hl 0 rfl) ?_
    refine lv_aload_n hx hb dX0_scale_10 rfl (lv_at hl 2 rfl) ?_
    refine lv_iload_n hx hb dX0_scale_11 rfl (lv_at hl 0 rfl) ?_
    refine z_ld hx hb hK hP hf i rfl (by omega) (by omega) dX0_scale_12 ?_
    refine lv_topl (fun v12 e12 => ?_)
    refine lv_ldc2 (v := 121665) hx hb hown (hts (.constantLong RX0 32 (121665)) (by decide +kernel)) dX0_scale_13 ?_
    refine lv_lmul hx hb dX0_scale_16 ?_
    refine lv_topl (fun v16 e16 => ?_)
    refine z_st hx hb hK hP hD hS hto i rfl (by omega) (by omega) dX0_scale_17 (fun H locs hP hD hS => ?_)
    rw [mpq_st (F := (fun j => q f j * 121665)) (by rw [e16, e12, mpq_rd])] at hP hD
    refine lv_iinc (v := nI (i + 1)) (lv' := [(2, .int (nI (i + 1))), (0, .ref to), (1, .ref f)]) hx hb dX0_scale_18 hl (k := 0) rfl (by show nI _ + nI 1 = _; exact nI_add _ _) (by decide) rfl (fun ls hl => ?_)
    refine lv_goto (tgt := 2) hx hb dX0_scale_21 (by decide) ?_
    exact ih _ _ _ ⟨⟨hP, hD, hS⟩, hl⟩
  · rintro H locs ls ⟨⟨hP, hD, hS⟩, hl⟩
    refine lv_iload_n hx hb dX0_scale_2 rfl (lv_at hl 0 rfl) ?_
    refine lv_bipush (v := nI 10) hx hb dX0_scale_3 (by decide) ?_
    refine lv_icmp_ge (tgt := 24) hx hb dX0_scale_5 (by decide) (fun c5 => ?_) (fun c5 => absurd ((nI_leI (by omega) (by omega)).mpr (by omega)) c5)
    refine lv_aload_n hx hb dX0_scale_24 rfl (lv_at hl 1 rfl) ?_
    obtain ⟨k1, k2, k3⟩ := scale_fold (f := q f) (t := mpq q to (fun j => q f j * 121665) 10 to) hq (fun j hj => by rw [mpq_to, if_pos hj])
    refine z_callv (va_runS (As := [.ref to]) (rest := []) ⟨hx, hb, hml, hown, hts⟩ (c_carry l D cA tys X L n (mpq q to (fun j => q f j * 121665) 10) to hto k1 _) (va_cwS 1 hts gX0_scale_X0_carry rfl rfl rfl (by decide +kernel) ⟨Nat.le_of_ble_eq_true rfl, Nat.le_of_ble_eq_true rfl⟩) (z_preS _ hK hP hD) rfl rfl hl.1 rfl (lv_room (Nat.le_of_ble_eq_true rfl)) dX0_scale_25 ⟨Nat.le_of_ble_eq_true rfl, Nat.le_of_ble_eq_true rfl⟩) hD hS hA (fun u H locs hu hP hD hS => ?_)
    obtain ⟨g, hg, rfl⟩ := hu
    obtain ⟨j1, j2⟩ := car_scaled hg k3
    exact z_vret hx hb hr hlocks dX0_scale_28 hK hP hD hS (⟨g, j1, by rw [← k2]; exact j2, by unfold mpq; rw [up_uu]⟩)
set_option maxRecDepth 100000 in
set_option maxHeartbeats 4000000 in
theorem c_carryWide (l : Launch) (D : va_G) (cA : ClassId) (tys : List (ClassId × FieldType)) (d0 l0 : Nat × va_E) (hf wd wh : Nat) (L : List Nat) (n : Nat → Nat) (q : Nat → Nat → Int64) (hw : wd ∈ L ∧ n wd = 20) (hq : ∀ j, j < 20 → 0 ≤ fI (q wd) j ∧ fI (q wd) j < 4611686018427387904) : zCv l D ((cA, .long) :: tys) yX0_carryWide wsX0_carryWide ({ frames := 0, cells := 0, slots := 0, locals := 0 }) [.ref hf] ([d0, l0, (hf, .inr (0, [.ref wd, .ref wh]))] ++ PL cA L n q) (fun u => ∃ g, Icw (q wd) g 19 ∧ u = [d0, l0, (hf, .inr (0, [.ref wd, .ref wh]))] ++ PL cA L n (va_up q wd g)) := by
  refine z_met (fun A => va_Qv (fun u => ∃ g, Icw (q wd) g 19 ∧ u = [d0, l0, (hf, .inr (0, [.ref wd, .ref wh]))] ++ PL cA L n (va_up q wd g)) (zB D ((cA, .long) :: tys) A) A) (by decide) rfl (Nat.le_of_ble_eq_true rfl) ?_
  intro p e s m below meth c hx hb hr hml hts hown hlocks hname A hA hP hK hD hS ls hl
  have hown : s.vm.findClass RX0 = some m.cls := hown
  have hl : lv_has ls 2 [(0, .ref hf)] := hl
  refine lv_iconst (v := nI 0) hx hb dX0_carryWide_0 (by decide) ?_
  refine lv_istore_n (lv' := [(1, .int (nI 0)), (0, .ref hf)]) hx hb dX0_carryWide_1 rfl hl (by decide) rfl (fun ls hl => ?_)
  refine z_loop (fun i H locs ls => ∃ g : Nat → Int64, Icw (q wd) g i ∧ zH D A s.heap ([d0, l0, (hf, .inr (0, [.ref wd, .ref wh]))] ++ PL cA L n (va_up q wd g)) H locs ∧ lv_has ls 2 [(1, .int (nI i)), (0, .ref hf)]) 19 ?_ ?_ ?_
  · exact ⟨q wd, Icw_0 (hq 0 (by omega)), by rw [up_id]; exact ⟨hP, hD, hS⟩, hl⟩
  · rintro i H locs ls hi ⟨g, hI, ⟨hP, hD, hS⟩, hl⟩ ih
    refine lv_iload_n hx hb dX0_carryWide_2 rfl (lv_at hl 0 rfl) ?_
    refine lv_bipush (v := nI 19) hx hb dX0_carryWide_3 (by decide) ?_
    refine lv_icmp_ge (tgt := 46) hx hb dX0_carryWide_5 (by decide) (fun c5 => absurd ((nI_leI (by omega) (by omega)).mp c5) (by omega)) (fun c5 => ?_)
    refine lv_aload_n hx hb dX0_carryWide_8 rfl (lv_at hl 1 rfl) ?_
    refine va_get (D := D) (ci := 0) (v := .ref wd) (C := RX0) (T := TX0) (N := 2) hx hb hts (by decide +kernel) hown hK hP 2 rfl rfl 0 (by decide) (hts (.fieldLink RX0 11 "LadderDesk$Field" "wide" "[J") (by decide +kernel)) (fun _ h9 => h9) rfl dX0_carryWide_9 ?_
    refine lv_iload_n hx hb dX0_carryWide_12 rfl (lv_at hl 0 rfl) ?_
    refine lv_iconst (v := nI 1) hx hb dX0_carryWide_13 (by decide) ?_
    refine lv_iadd hx hb dX0_carryWide_14 ?_
    refine zi (nI_add _ _) ?_
    refine lv_dup2_11 hx hb dX0_carryWide_15 rfl rfl ?_
    refine z_ld hx hb hK hP hw (i + 1) rfl (by omega) (by omega) dX0_carryWide_16 ?_
    refine lv_topl (fun v16 e16 => ?_)
    refine lv_aload_n hx hb dX0_carryWide_17 rfl (lv_at hl 1 rfl) ?_
    refine va_get (D := D) (ci := 0) (v := .ref wd) (C := RX0) (T := TX0) (N := 2) hx hb hts (by decide +kernel) hown hK hP 2 rfl rfl 0 (by decide) (hts (.fieldLink RX0 11 "LadderDesk$Field" "wide" "[J") (by decide +kernel)) (fun _ h9 => h9) rfl dX0_carryWide_18 ?_
    refine lv_iload_n hx hb dX0_carryWide_21 rfl (lv_at hl 0 rfl) ?_
    refine z_ld hx hb hK hP hw i rfl (by omega) (by omega) dX0_carryWide_22 ?_
    refine lv_topl (fun v22 e22 => ?_)
    refine lv_bipush (v := nI 26) hx hb dX0_carryWide_23 (by decide) ?_
    refine lv_lshr hx hb dX0_carryWide_25 rfl ?_
    refine lv_topl (fun v25 e25 => ?_)
    refine lv_ladd hx hb dX0_carryWide_26 ?_
    refine lv_topl (fun v26 e26 => ?_)
    refine z_st hx hb hK hP hD hS hw (i + 1) rfl (by omega) (by omega) dX0_carryWide_27 (fun H locs hP hD hS => ?_)
    rw [up_uu, va_up_self] at hP hD
    rw [va_up_self] at e16 e22
    refine lv_aload_n hx hb dX0_carryWide_28 rfl (lv_at hl 1 rfl) ?_
    refine va_get (D := D) (ci := 0) (v := .ref wd) (C := RX0) (T := TX0) (N := 2) hx hb hts (by decide +kernel) hown hK hP 2 rfl rfl 0 (by decide) (hts (.fieldLink RX0 11 "LadderDesk$Field" "wide" "[J") (by decide +kernel)) (fun _ h9 => h9) rfl dX0_carryWide_29 ?_
    refine lv_iload_n hx hb dX0_carryWide_32 rfl (lv_at hl 0 rfl) ?_
    refine lv_dup2_11 hx hb dX0_carryWide_33 rfl rfl ?_
    refine z_ld hx hb hK hP hw i rfl (by omega) (by omega) dX0_carryWide_34 ?_
    refine lv_topl (fun v34 e34 => ?_)
    refine lv_ldc2 (v := 67108863) hx hb hown (hts (.constantLong RX0 57 (67108863)) (by decide +kernel)) dX0_carryWide_35 ?_
    refine lv_land hx hb dX0_carryWide_38 ?_
    refine lv_topl (fun v38 e38 => ?_)
    refine z_st hx hb hK hP hD hS hw i rfl (by omega) (by omega) dX0_carryWide_39 (fun H locs hP hD hS => ?_)
    rw [up_uu, va_up_self] at hP hD
    rw [va_up_self] at e34
    have e34 : v34 = g i := by rw [e34]; unfold vp_updL; rw [if_neg (by omega)]
    refine lv_iinc (v := nI (i + 1)) (lv' := [(1, .int (nI (i + 1))), (0, .ref hf)]) hx hb dX0_carryWide_40 hl (k := 0) rfl (by show nI _ + nI 1 = _; exact nI_add _ _) (by decide) rfl (fun ls hl => ?_)
    refine lv_goto (tgt := 2) hx hb dX0_carryWide_43 (by decide) ?_
    exact ih _ _ _ ⟨_, Icw_s (x := v25) (y := v26) (z := v38) hI hi (hq (i + 1) (by omega)) (by rw [e25, e22]) (by rw [e26, e16]) (by rw [e38, e34]), ⟨hP, hD, hS⟩, hl⟩
  · rintro H locs ls ⟨g, hI, ⟨hP, hD, hS⟩, hl⟩
    refine lv_iload_n hx hb dX0_carryWide_2 rfl (lv_at hl 0 rfl) ?_
    refine lv_bipush (v := nI 19) hx hb dX0_carryWide_3 (by decide) ?_
    refine lv_icmp_ge (tgt := 46) hx hb dX0_carryWide_5 (by decide) (fun c5 => ?_) (fun c5 => absurd ((nI_leI (by omega) (by omega)).mpr (by omega)) c5)
    exact z_vret hx hb hr hlocks dX0_carryWide_46 hK hP hD hS (⟨g, hI, rfl⟩)
set_option maxRecDepth 100000 in
set_option maxHeartbeats 4000000 in
theorem c_gather (l : Launch) (D : va_G) (cA : ClassId) (tys : List (ClassId × FieldType)) (d0 l0 : Nat × va_E) (hf wd wh : Nat) (L : List Nat) (n : Nat → Nat) (q : Nat → Nat → Int64) (f h : Nat) (hw : wd ∈ L ∧ n wd = 20) (hf1 : f ∈ L ∧ n f = 10) (hh1 : h ∈ L ∧ n h = 10) (hf2 : loose (q f)) (hh2 : loose (q h)) : zCv l D ((cA, .long) :: tys) yX0_gather wsX0_gather ({ frames := 1, cells := 0, slots := 0, locals := 24 }) [.ref hf, .ref f, .ref h] ([d0, l0, (hf, .inr (0, [.ref wd, .ref wh]))] ++ PL cA L n q) (fun u => ∃ g, Igo (q f) (q h) g 10 ∧ u = [d0, l0, (hf, .inr (0, [.ref wd, .ref wh]))] ++ PL cA L n (va_up q wd g)) := by
  refine z_met (fun A => va_Qv (fun u => ∃ g, Igo (q f) (q h) g 10 ∧ u = [d0, l0, (hf, .inr (0, [.ref wd, .ref wh]))] ++ PL cA L n (va_up q wd g)) (zB D ((cA, .long) :: tys) A) A) (by decide) rfl (Nat.le_of_ble_eq_true rfl) ?_
  intro p e s m below meth c hx hb hr hml hts hown hlocks hname A hA hP hK hD hS ls hl
  have hown : s.vm.findClass RX0 = some m.cls := hown
  have hl : lv_has ls 7 [(0, .ref hf), (1, .ref f), (2, .ref h)] := hl
  have nf : f ≠ wd := fun e => by rw [e, hw.2] at hf1; omega
  have nh : h ≠ wd := fun e => by rw [e, hw.2] at hh1; omega
  refine lv_aload_n hx hb dX0_gather_0 rfl (lv_at hl 0 rfl) ?_
  refine va_get (D := D) (ci := 0) (v := .ref wd) (C := RX0) (T := TX0) (N := 2) hx hb hts (by decide +kernel) hown hK hP 2 rfl rfl 0 (by decide) (hts (.fieldLink RX0 11 "LadderDesk$Field" "wide" "[J") (by decide +kernel)) (fun _ h9 => h9) rfl dX0_gather_1 ?_
  refine lv_lconst (v := 0) hx hb dX0_gather_4 (by decide) ?_
  refine z_callv (va_runS (As := [.ref wd, .long 0]) (rest := []) ⟨hx, hb, hml, hown, hts⟩ (c_fill l D cA tys [d0, l0, (hf, .inr (0, [.ref wd, .ref wh]))] L n q wd 0 20 hw (by decide) _) (va_cwS 2 hts gX0_gather_J7_fill_d0a16 rfl rfl rfl (by decide +kernel) ⟨Nat.le_of_ble_eq_true rfl, Nat.le_of_ble_eq_true rfl⟩) (z_preS _ hK hP hD) rfl rfl hl.1 rfl (lv_room (Nat.le_of_ble_eq_true rfl)) dX0_gather_5 ⟨Nat.le_of_ble_eq_true rfl, Nat.le_of_ble_eq_true rfl⟩) hD hS hA (fun u H locs hu hP hD hS => ?_)
  subst hu
  have hP : va_P D vwCl ([d0, l0, (hf, .inr (0, [.ref wd, .ref wh]))] ++ PL cA L n (mpq q wd (fun _ => 0) 20)) H := hP
  refine lv_iconst (v := nI 0) hx hb dX0_gather_8 (by decide) ?_
  refine lv_istore_n (lv' := [(3, .int (nI 0)), (0, .ref hf), (1, .ref f), (2, .ref h)]) hx hb dX0_gather_9 rfl hl (by decide) rfl (fun ls hl => ?_)
  refine z_loop (fun i H locs ls => ∃ g : Nat → Int64, Igo (q f) (q h) g i ∧ zH D A s.heap ([d0, l0, (hf, .inr (0, [.ref wd, .ref wh]))] ++ PL cA L n (va_up q wd g)) H locs ∧ lv_has ls 7 [(3, .int (nI i)), (0, .ref hf), (1, .ref f), (2, .ref h)]) 10 ?_ ?_ ?_
  · exact ⟨_, Igo_0 (w := fun j => if j < 20 then 0 else q wd j) (fun k hk => if_pos hk), ⟨hP, hD, hS⟩, hl⟩
  · rintro i H locs ls hi ⟨g, hI, ⟨hP, hD, hS⟩, hl⟩ ih
    refine lv_iload_n hx hb dX0_gather_10 rfl (lv_at hl 0 rfl) ?_
    refine lv_bipush (v := nI 10) hx hb dX0_gather_11 (by decide) ?_
    refine lv_icmp_ge (tgt := 62) hx hb dX0_gather_13 (by decide) (fun c13 => absurd ((nI_leI (by omega) (by omega)).mp c13) (by omega)) (fun c13 => ?_)
    refine lv_aload_n hx hb dX0_gather_16 rfl (lv_at hl 2 rfl) ?_
    refine lv_iload_n hx hb dX0_gather_17 rfl (lv_at hl 0 rfl) ?_
    refine z_ld hx hb hK hP hf1 i rfl (by omega) (by omega) dX0_gather_18 ?_
    refine lv_topl (fun v18 e18 => ?_)
    refine lv_lstore (lv' := [(4, .long v18), (3, .int (nI i)), (0, .ref hf), (1, .ref f), (2, .ref h)]) hx hb dX0_gather_19 hl (by decide) rfl (fun ls hl => ?_)
    refine lv_iconst (v := nI 0) hx hb dX0_gather_21 (by decide) ?_
    refine lv_istore (lv' := [(6, .int (nI 0)), (4, .long v18), (3, .int (nI i)), (0, .ref hf), (1, .ref f), (2, .ref h)]) hx hb dX0_gather_22 hl (by decide) rfl (fun ls hl => ?_)
    rw [va_up_ne _ _ nf] at e18
    refine z_loop (fun j H locs ls => ∃ g : Nat → Int64, Igi (q f) (q h) g i j ∧ zH D A s.heap ([d0, l0, (hf, .inr (0, [.ref wd, .ref wh]))] ++ PL cA L n (va_up q wd g)) H locs ∧ lv_has ls 7 [(6, .int (nI j)), (4, .long v18), (3, .int (nI i)), (0, .ref hf), (1, .ref f), (2, .ref h)]) 10 ?_ ?_ ?_
    · exact ⟨_, Igi_0 hI, ⟨hP, hD, hS⟩, hl⟩
    · rintro j H locs ls hj ⟨g, hI, ⟨hP, hD, hS⟩, hl⟩ ih2
      refine lv_iload hx hb dX0_gather_24 (lv_at hl 0 rfl) ?_
      refine lv_bipush (v := nI 10) hx hb dX0_gather_26 (by decide) ?_
      refine lv_icmp_ge (tgt := 56) hx hb dX0_gather_28 (by decide) (fun c28 => absurd ((nI_leI (by omega) (by omega)).mp c28) (by omega)) (fun c28 => ?_)
      refine lv_aload_n hx hb dX0_gather_31 rfl (lv_at hl 3 rfl) ?_
      refine va_get (D := D) (ci := 0) (v := .ref wd) (C := RX0) (T := TX0) (N := 2) hx hb hts (by decide +kernel) hown hK hP 2 rfl rfl 0 (by decide) (hts (.fieldLink RX0 11 "LadderDesk$Field" "wide" "[J") (by decide +kernel)) (fun _ h9 => h9) rfl dX0_gather_32 ?_
      refine lv_iload_n hx hb dX0_gather_35 rfl (lv_at hl 2 rfl) ?_
      refine lv_iload hx hb dX0_gather_36 (lv_at hl 0 rfl) ?_
      refine lv_iadd hx hb dX0_gather_38 ?_
      refine zi (nI_add _ _) ?_
      refine lv_dup2_11 hx hb dX0_gather_39 rfl rfl ?_
      refine z_ld hx hb hK hP hw (i + j) rfl (by omega) (by omega) dX0_gather_40 ?_
      refine lv_topl (fun v40 e40 => ?_)
      refine lv_lload hx hb dX0_gather_41 (lv_at hl 1 rfl) ?_
      refine lv_aload_n hx hb dX0_gather_43 rfl (lv_at hl 5 rfl) ?_
      refine lv_iload hx hb dX0_gather_44 (lv_at hl 0 rfl) ?_
      refine z_ld hx hb hK hP hh1 j rfl (by omega) (by omega) dX0_gather_46 ?_
      refine lv_topl (fun v46 e46 => ?_)
      refine lv_lmul hx hb dX0_gather_47 ?_
      refine lv_topl (fun v47 e47 => ?_)
      refine lv_ladd hx hb dX0_gather_48 ?_
      refine lv_topl (fun v48 e48 => ?_)
      refine z_st hx hb hK hP hD hS hw (i + j) rfl (by omega) (by omega) dX0_gather_49 (fun H locs hP hD hS => ?_)
      rw [up_uu, va_up_self] at hP hD
      rw [va_up_self] at e40
      rw [va_up_ne _ _ nh] at e46
      refine lv_iinc (v := nI (j + 1)) (lv' := [(6, .int (nI (j + 1))), (4, .long v18), (3, .int (nI i)), (0, .ref hf), (1, .ref f), (2, .ref h)]) hx hb dX0_gather_50 hl (k := 0) rfl (by show nI _ + nI 1 = _; exact nI_add _ _) (by decide) rfl (fun ls hl => ?_)
      refine lv_goto (tgt := 24) hx hb dX0_gather_53 (by decide) ?_
      exact ih2 _ _ _ ⟨_, Igi_s (x := v47) (y := v48) hI hi hj hf2 hh2 (by rw [e47, e18, e46]) (by rw [e48, e40]), ⟨hP, hD, hS⟩, hl⟩
    · rintro H locs ls ⟨g, hI, ⟨hP, hD, hS⟩, hl⟩
      refine lv_iload hx hb dX0_gather_24 (lv_at hl 0 rfl) ?_
      refine lv_bipush (v := nI 10) hx hb dX0_gather_26 (by decide) ?_
      refine lv_icmp_ge (tgt := 56) hx hb dX0_gather_28 (by decide) (fun c28 => ?_) (fun c28 => absurd ((nI_leI (by omega) (by omega)).mpr (by omega)) c28)
      refine lv_iinc (v := nI (i + 1)) (lv' := [(3, .int (nI (i + 1))), (6, .int (nI 10)), (4, .long v18), (0, .ref hf), (1, .ref f), (2, .ref h)]) hx hb dX0_gather_56 hl (k := 2) rfl (by show nI _ + nI 1 = _; exact nI_add _ _) (by decide) rfl (fun ls hl => ?_)
      refine lv_goto (tgt := 10) hx hb dX0_gather_59 (by decide) ?_
      exact ih _ _ _ ⟨_, Igi_e hI, ⟨hP, hD, hS⟩, lv_sub hl [0, 3, 4, 5] rfl⟩
  · rintro H locs ls ⟨g, hI, ⟨hP, hD, hS⟩, hl⟩
    refine lv_iload_n hx hb dX0_gather_10 rfl (lv_at hl 0 rfl) ?_
    refine lv_bipush (v := nI 10) hx hb dX0_gather_11 (by decide) ?_
    refine lv_icmp_ge (tgt := 62) hx hb dX0_gather_13 (by decide) (fun c13 => ?_) (fun c13 => absurd ((nI_leI (by omega) (by omega)).mpr (by omega)) c13)
    exact z_vret hx hb hr hlocks dX0_gather_62 hK hP hD hS (⟨g, hI, rfl⟩)
set_option maxRecDepth 100000 in
set_option maxHeartbeats 4000000 in
theorem c_multiply (l : Launch) (D : va_G) (cA : ClassId) (tys : List (ClassId × FieldType)) (d0 l0 : Nat × va_E) (hf wd wh : Nat) (L : List Nat) (n : Nat → Nat) (q : Nat → Nat → Int64) (to f h : Nat) (hw : wd ∈ L ∧ n wd = 20) (hto : to ∈ L ∧ n to = 10) (hf1 : f ∈ L ∧ n f = 10) (hh1 : h ∈ L ∧ n h = 10) (hf2 : loose (q f)) (hh2 : loose (q h)) : zCv l D ((cA, .long) :: tys) yX0_multiply wsX0_multiply ({ frames := 2, cells := 0, slots := 0, locals := 50 }) [.ref hf, .ref to, .ref f, .ref h] ([d0, l0, (hf, .inr (0, [.ref wd, .ref wh]))] ++ PL cA L n q) (fun u => ∃ q' : Nat → Nat → Int64, (∀ b, b ≠ to → b ≠ wd → q' b = q b) ∧ settled (q' to) ∧ cg (fv (q' to)) (fv (q f) * fv (q h)) ∧ u = [d0, l0, (hf, .inr (0, [.ref wd, .ref wh]))] ++ PL cA L n q') := by
  refine z_met (fun A => va_Qv (fun u => ∃ q' : Nat → Nat → Int64, (∀ b, b ≠ to → b ≠ wd → q' b = q b) ∧ settled (q' to) ∧ cg (fv (q' to)) (fv (q f) * fv (q h)) ∧ u = [d0, l0, (hf, .inr (0, [.ref wd, .ref wh]))] ++ PL cA L n q') (zB D ((cA, .long) :: tys) A) A) (by decide) rfl (Nat.le_of_ble_eq_true rfl) ?_
  intro p e s m below meth c hx hb hr hml hts hown hlocks hname A hA hP hK hD hS ls hl
  have hown : s.vm.findClass RX0 = some m.cls := hown
  have hl : lv_has ls 5 [(0, .ref hf), (1, .ref to), (2, .ref f), (3, .ref h)] := hl
  have nt : wd ≠ to := fun e => by rw [e, hto.2] at hw; omega
  refine lv_aload_n hx hb dX0_multiply_0 rfl (lv_at hl 0 rfl) ?_
  refine lv_aload_n hx hb dX0_multiply_1 rfl (lv_at hl 2 rfl) ?_
  refine lv_aload_n hx hb dX0_multiply_2 rfl (lv_at hl 3 rfl) ?_
  refine z_callv (va_runV (As := [.ref f, .ref h]) (rest := []) ⟨hx, hb, hml, hown, hts⟩ (c_gather l D cA tys d0 l0 hf wd wh L n q f h hw hf1 hh1 hf2 hh2 _) (cwV 2 hts gX0_multiply_X0_gather rfl rfl rfl (by decide +kernel) ⟨Nat.le_of_ble_eq_true rfl, Nat.le_of_ble_eq_true rfl⟩) (z_preV _ hK hP hD (ci := 0) (q0 := 2) rfl rfl) rfl rfl hl.1 rfl (lv_room (Nat.le_of_ble_eq_true rfl)) dX0_multiply_3 ⟨Nat.le_of_ble_eq_true rfl, Nat.le_of_ble_eq_true rfl⟩) hD hS hA (fun u H locs hu hP hD hS => ?_)
  obtain ⟨w0, hw0, rfl⟩ := hu
  obtain ⟨k1, k2⟩ := Igo_e hw0
  refine lv_aload_n hx hb dX0_multiply_6 rfl (lv_at hl 0 rfl) ?_
  refine z_callv (va_runV (As := []) (rest := []) ⟨hx, hb, hml, hown, hts⟩ (c_carryWide l D cA tys d0 l0 hf wd wh L n (va_up q wd w0) hw (by rw [va_up_self]; exact k1) _) (cwV 0 hts gX0_multiply_X0_carryWide rfl rfl rfl (by decide +kernel) ⟨Nat.le_of_ble_eq_true rfl, Nat.le_of_ble_eq_true rfl⟩) (z_preV _ hK hP hD (ci := 0) (q0 := 2) rfl rfl) rfl rfl hl.1 rfl (lv_room (Nat.le_of_ble_eq_true rfl)) dX0_multiply_7 ⟨Nat.le_of_ble_eq_true rfl, Nat.le_of_ble_eq_true rfl⟩) hD hS hA (fun u H locs hu hP hD hS => ?_)
  obtain ⟨w, hw1, rfl⟩ := hu
  rw [up_uu] at hP hD
  rw [va_up_self] at hw1
  obtain ⟨j1, -, j2, -, j3⟩ := hw1
  rw [k2] at j3
  refine lv_iconst (v := nI 0) hx hb dX0_multiply_10 (by decide) ?_
  refine lv_istore (lv' := [(4, .int (nI 0)), (0, .ref hf), (1, .ref to), (2, .ref f), (3, .ref h)]) hx hb dX0_multiply_11 hl (by decide) rfl (fun ls hl => ?_)
  refine z_loop (fun i H locs ls => zH D A s.heap ([d0, l0, (hf, .inr (0, [.ref wd, .ref wh]))] ++ PL cA L n (mpq (va_up q wd w) to (fun j => w j + 608 * w (j + 10)) i)) H locs ∧ lv_has ls 5 [(4, .int (nI i)), (0, .ref hf), (1, .ref to), (2, .ref f), (3, .ref h)]) 10 ?_ ?_ ?_
  · exact ⟨by rw [mpq_0]; exact ⟨hP, hD, hS⟩, hl⟩
  · rintro i H locs ls hi ⟨⟨hP, hD, hS⟩, hl⟩ ih
    refine lv_iload hx hb dX0_multiply_13 (lv_at hl 0 rfl) ?_
    refine lv_bipush (v := nI 10) hx hb dX0_multiply_15 (by decide) ?_
    refine lv_icmp_ge (tgt := 52) hx hb dX0_multiply_17 (by decide) (fun c17 => absurd ((nI_leI (by omega) (by omega)).mp c17) (by omega)) (fun c17 => ?_)
    refine lv_aload_n hx hb dX0_multiply_20 rfl (lv_at hl 2 rfl) ?_
    refine lv_iload hx hb dX0_multiply_21 (lv_at hl 0 rfl) ?_
    refine lv_aload_n hx hb dX0_multiply_23 rfl (lv_at hl 1 rfl) ?_
    refine va_get (D := D) (ci := 0) (v := .ref wd) (C := RX0) (T := TX0) (N := 2) hx hb hts (by decide +kernel) hown hK hP 2 rfl rfl 0 (by decide) (hts (.fieldLink RX0 11 "LadderDesk$Field" "wide" "[J") (by decide +kernel)) (fun _ h9 => h9) rfl dX0_multiply_24 ?_
    refine lv_iload hx hb dX0_multiply_27 (lv_at hl 0 rfl) ?_
    refine z_ld hx hb hK hP hw i rfl (by omega) (by omega) dX0_multiply_29 ?_
    refine lv_topl (fun v29 e29 => ?_)
    refine lv_ldc2 (v := 608) hx hb hown (hts (.constantLong RX0 45 (608)) (by decide +kernel)) dX0_multiply_30 ?_
    refine lv_aload_n hx hb dX0_multiply_33 rfl (lv_at hl 1 rfl) ?_
    refine va_get (D := D) (ci := 0) (v := .ref wd) (C := RX0) (T := TX0) (N := 2) hx hb hts (by decide +kernel) hown hK hP 2 rfl rfl 0 (by decide) (hts (.fieldLink RX0 11 "LadderDesk$Field" "wide" "[J") (by decide +kernel)) (fun _ h9 => h9) rfl dX0_multiply_34 ?_
    refine lv_iload hx hb dX0_multiply_37 (lv_at hl 0 rfl) ?_
    refine lv_bipush (v := nI 10) hx hb dX0_multiply_39 (by decide) ?_
    refine lv_iadd hx hb dX0_multiply_41 ?_
    refine zi (nI_add _ _) ?_
    refine z_ld hx hb hK hP hw (i + 10) rfl (by omega) (by omega) dX0_multiply_42 ?_
    refine lv_topl (fun v42 e42 => ?_)
    refine lv_lmul hx hb dX0_multiply_43 ?_
    refine lv_topl (fun v43 e43 => ?_)
    refine lv_ladd hx hb dX0_multiply_44 ?_
    refine lv_topl (fun v44 e44 => ?_)
    refine z_st hx hb hK hP hD hS hto i rfl (by omega) (by omega) dX0_multiply_45 (fun H locs hP hD hS => ?_)
    rw [mpq_ne nt, va_up_self] at e29 e42
    rw [mpq_st (F := (fun j => w j + 608 * w (j + 10))) (by rw [e44, e29, e43, e42])] at hP hD
    refine lv_iinc (v := nI (i + 1)) (lv' := [(4, .int (nI (i + 1))), (0, .ref hf), (1, .ref to), (2, .ref f), (3, .ref h)]) hx hb dX0_multiply_46 hl (k := 0) rfl (by show nI _ + nI 1 = _; exact nI_add _ _) (by decide) rfl (fun ls hl => ?_)
    refine lv_goto (tgt := 13) hx hb dX0_multiply_49 (by decide) ?_
    exact ih _ _ _ ⟨⟨hP, hD, hS⟩, hl⟩
  · rintro H locs ls ⟨⟨hP, hD, hS⟩, hl⟩
    refine lv_iload hx hb dX0_multiply_13 (lv_at hl 0 rfl) ?_
    refine lv_bipush (v := nI 10) hx hb dX0_multiply_15 (by decide) ?_
    refine lv_icmp_ge (tgt := 52) hx hb dX0_multiply_17 (by decide) (fun c17 => ?_) (fun c17 => absurd ((nI_leI (by omega) (by omega)).mpr (by omega)) c17)
    refine lv_aload_n hx hb dX0_multiply_52 rfl (lv_at hl 2 rfl) ?_
    obtain ⟨m1, m2, m3, m4⟩ := mul_fold (w := w) (t := mpq (va_up q wd w) to (fun j => w j + 608 * w (j + 10)) 10 to) (loose_le hf2) (loose_le hh2) j1 j2 j3 (fun j hj => by rw [mpq_to, if_pos hj])
    refine z_callv (va_runS (As := [.ref to]) (rest := []) ⟨hx, hb, hml, hown, hts⟩ (c_carry l D cA tys [d0, l0, (hf, .inr (0, [.ref wd, .ref wh]))] L n (mpq (va_up q wd w) to (fun j => w j + 608 * w (j + 10)) 10) to hto m1 _) (va_cwS 1 hts gX0_multiply_X0_carry rfl rfl rfl (by decide +kernel) ⟨Nat.le_of_ble_eq_true rfl, Nat.le_of_ble_eq_true rfl⟩) (z_preS _ hK hP hD) rfl rfl hl.1 rfl (lv_room (Nat.le_of_ble_eq_true rfl)) dX0_multiply_53 ⟨Nat.le_of_ble_eq_true rfl, Nat.le_of_ble_eq_true rfl⟩) hD hS hA (fun u H locs hu hP hD hS => ?_)
    obtain ⟨g, hg, rfl⟩ := hu
    obtain ⟨a1, a2⟩ := car_settled hg m3
    exact z_vret hx hb hr hlocks dX0_multiply_56 hK hP hD hS (⟨_, fun b h1 h2 => by rw [va_up_ne _ _ h1, mpq_ne h1, va_up_ne _ _ h2], by rw [va_up_self]; exact a1, by rw [va_up_self]; exact cg_trans a2 m4, rfl⟩)
end
section
/-! ===== lN n to 2^64: shifts, and, or, masks, one bit ===== -/
theorem wb_tb (n : Nat) : (lN n).toBitVec = BitVec.ofNat 64 n := rfl
theorem wb_inj {a b : Int64} (h : a.toBitVec = b.toBitVec) : a = b := Int64.toBitVec_inj.mp h
theorem wb_tn {n : Nat} (h : n < 2 ^ 64) : (lN n).toBitVec.toNat = n := by rw [wb_tb, BitVec.toNat_ofNat, Nat.mod_eq_of_lt h]
theorem wb_of (x : Int64) : ∃ n, n < 2 ^ 64 ∧ x = lN n := ⟨x.toBitVec.toNat, x.toBitVec.isLt, wb_inj (by rw [wb_tb]; simp)⟩
theorem wb_of32 (x : Int32) : ∃ n, n < 2 ^ 32 ∧ x = nI n := ⟨x.toBitVec.toNat, x.toBitVec.isLt, Int32.toBitVec_inj.mp (by show _ = BitVec.ofNat 32 _; simp)⟩
theorem wb_c : ∀ k, k < 64 → ((nI k).toInt64 &&& 63) = lN k := by decide +kernel
theorem wb_cu : ∀ k, k < 64 → ((nI k).toInt64.toUInt64 &&& Int64.toUInt64 63) = UInt64.ofNat k := by decide +kernel
theorem wb_sm : ∀ k, k < 64 → (BitVec.ofNat 64 k).smod 64 = BitVec.ofNat 64 k := by decide +kernel
theorem wb_pw {a b : Nat} (h : a ≤ b) : 2 ^ b = 2 ^ a * 2 ^ (b - a) := by rw [← Nat.pow_add]; congr 1; omega
theorem wb_lt2 {a b : Nat} (h : a < b) : 2 ^ a < 2 ^ b := Nat.pow_lt_pow_right (by decide) h
theorem wb_mod (n : Nat) : lN n = lN (n % 2 ^ 64) := wb_inj (by rw [wb_tb, wb_tb]; apply BitVec.eq_of_toNat_eq; rw [BitVec.toNat_ofNat, BitVec.toNat_ofNat, Nat.mod_mod])
theorem wb_shr {n k : Nat} (hn : n < 2 ^ 64) (hk : k < 64) : ((lN n).toUInt64 >>> ((nI k).toInt64.toUInt64 &&& Int64.toUInt64 63)).toInt64 = lN (n / 2 ^ k) := by
  rw [wb_cu k hk]
  apply wb_inj
  apply BitVec.eq_of_toNat_eq
  show ((lN n).toUInt64 >>> UInt64.ofNat k).toNat = (BitVec.ofNat 64 _).toNat
  have h1 : (UInt64.ofNat k).toNat = k := by
    show (BitVec.ofNat 64 k).toNat = k
    rw [BitVec.toNat_ofNat, Nat.mod_eq_of_lt (by omega)]
  have h2 : (lN n).toUInt64.toNat = n := wb_tn hn
  rw [UInt64.toNat_shiftRight, h1, h2, Nat.mod_eq_of_lt hk, Nat.shiftRight_eq_div_pow, BitVec.toNat_ofNat, Nat.mod_eq_of_lt (Nat.lt_of_le_of_lt (Nat.div_le_self _ _) hn)]
theorem wb_shl (n : Nat) {k : Nat} (hk : k < 64) : lN n <<< ((nI k).toInt64 &&& 63) = lN (n * 2 ^ k) := by
  rw [wb_c k hk]
  apply wb_inj
  rw [Int64.toBitVec_shiftLeft, wb_tb, wb_tb, wb_tb, wb_sm k hk]
  apply BitVec.eq_of_toNat_eq
  rw [BitVec.shiftLeft_eq', BitVec.toNat_shiftLeft, BitVec.toNat_ofNat, BitVec.toNat_ofNat, BitVec.toNat_ofNat, Nat.mod_eq_of_lt (show k < 2 ^ 64 by omega), Nat.shiftLeft_eq, Nat.mul_mod, Nat.mod_mod, ← Nat.mul_mod]
theorem wb_and {a b : Nat} (ha : a < 2 ^ 64) (hb : b < 2 ^ 64) : lN a &&& lN b = lN (a &&& b) := by
  apply wb_inj
  rw [Int64.toBitVec_and, wb_tb, wb_tb, wb_tb]
  apply BitVec.eq_of_toNat_eq
  rw [BitVec.toNat_and, BitVec.toNat_ofNat, BitVec.toNat_ofNat, BitVec.toNat_ofNat, Nat.mod_eq_of_lt ha, Nat.mod_eq_of_lt hb, Nat.mod_eq_of_lt (Nat.and_lt_two_pow _ hb)]
theorem wb_or {a b : Nat} (ha : a < 2 ^ 64) (hb : b < 2 ^ 64) : lN a ||| lN b = lN (a ||| b) := by
  apply wb_inj
  rw [Int64.toBitVec_or, wb_tb, wb_tb, wb_tb]
  apply BitVec.eq_of_toNat_eq
  rw [BitVec.toNat_or, BitVec.toNat_ofNat, BitVec.toNat_ofNat, BitVec.toNat_ofNat, Nat.mod_eq_of_lt ha, Nat.mod_eq_of_lt hb, Nat.mod_eq_of_lt (Nat.or_lt_two_pow ha hb)]
theorem wb_mask {n k : Nat} (hn : n < 2 ^ 64) (hk : k < 64) : lN n &&& lN (2 ^ k - 1) = lN (n % 2 ^ k) := by
  rw [wb_and hn (by have := wb_lt2 hk; omega), Nat.and_two_pow_sub_one_eq_mod]
theorem wb_a1 {n : Nat} (hn : n < 2 ^ 64) : lN n &&& 1 = lN (n % 2) := wb_mask (k := 1) hn (by decide)
theorem wb_bit {n k : Nat} (hn : n < 2 ^ 64) (hk : k < 64) : ((lN n).toUInt64 >>> ((nI k).toInt64.toUInt64 &&& Int64.toUInt64 63)).toInt64 &&& 1 = lN (n / 2 ^ k % 2) := by
  rw [wb_shr hn hk, wb_a1 (Nat.lt_of_le_of_lt (Nat.div_le_self _ _) hn)]
/-! ===== lN: masks, 'or' of parts that don't overlap is a sum ===== -/
theorem u_tn {n : Nat} (h : n < 2 ^ 64) : (UInt64.ofNat n).toNat = n := Nat.mod_eq_of_lt h
theorem g_and {a b c : Nat} (ha : a < 2 ^ 64) (hb : b < 2 ^ 64) (hc : a &&& b = c) : lN a &&& lN b = lN c := by
  subst hc
  have h : UInt64.ofNat a &&& UInt64.ofNat b = UInt64.ofNat (a &&& b) := UInt64.toNat_inj.mp (by rw [UInt64.toNat_and, u_tn ha, u_tn hb, u_tn (Nat.and_lt_two_pow a hb)])
  have h2 := congrArg UInt64.toInt64 h
  exact h2
theorem g_and1 {a : Nat} (ha : a < 2 ^ 64) : lN a &&& 1 = lN (a % 2) := g_and (b := 1) ha (by decide) (Nat.and_two_pow_sub_one_eq_mod a 1)
theorem g_mask {a s p : Nat} (hp : 2 ^ s = p) (hs : s < 64) (ha : a < 2 ^ 64) : lN a &&& lN (p - 1) = lN (a % p) := by
  subst hp
  have := Nat.pow_lt_pow_right (show 1 < 2 by decide) hs
  exact g_and ha (by omega) (Nat.and_two_pow_sub_one_eq_mod a s)
theorem g_or {k p a b : Nat} (hp : 2 ^ k = p) (ha : a < p) (h : b * p + a < 2 ^ 64) : lN (b * p) ||| lN a = lN (b * p + a) := by
  subst hp
  have h1 : b * 2 ^ k ||| a = b * 2 ^ k + a := by rw [← Nat.shiftLeft_eq, Nat.shiftLeft_add_eq_or_of_lt ha]
  have h3 : UInt64.ofNat (b * 2 ^ k) ||| UInt64.ofNat a = UInt64.ofNat (b * 2 ^ k + a) := UInt64.toNat_inj.mp (by rw [UInt64.toNat_or, u_tn (by omega), u_tn (by omega), u_tn h, h1])
  have h2 := congrArg UInt64.toInt64 h3
  exact h2
theorem g_or' {k p a b : Nat} (hp : 2 ^ k = p) (ha : a < p) (h : a + b * p < 2 ^ 64) : lN a ||| lN (b * p) = lN (a + b * p) := by
  rw [Int64.or_comm, g_or hp ha (by omega), Nat.add_comm]
/-! four longs as a number -/
def uw (x : Int64) : Nat := x.toBitVec.toNat
theorem uw_lt (x : Int64) : uw x < 18446744073709551616 := x.toBitVec.isLt
theorem uw_eq (x : Int64) : x = lN (uw x) := by
  obtain ⟨n, hn, e⟩ := wb_of x
  subst e
  unfold uw
  rw [wb_tn hn]
theorem uw_of {n : Nat} (h : n < 18446744073709551616) : uw (lN n) = n := wb_tn h
theorem uw_inj {x y : Int64} (h : uw x = uw y) : x = y := by rw [uw_eq x, uw_eq y, h]
theorem uw_ti (x : Int64) : x.toInt = if uw x < 9223372036854775808 then (uw x : Int) else (uw x : Int) - 18446744073709551616 := tl_ti x
theorem uw_ls {n : Nat} (h : n < 9223372036854775808) : (lN n).toInt = (n : Int) := pk_lT h
def wv (f : Nat → Int64) : Nat := uw (f 0) + uw (f 1) * 18446744073709551616 + uw (f 2) * 340282366920938463463374607431768211456 + uw (f 3) * 6277101735386680763835789423207666416102355444464034512896
def ow (x k : Nat) : Int64 := lN (x / 18446744073709551616 ^ k)
theorem ow_wv (f : Nat → Int64) {k : Nat} (hk : k < 4) : f k = ow (wv f) k := by
  have h0 := uw_lt (f 0)
  have h1 := uw_lt (f 1)
  have h2 := uw_lt (f 2)
  have h3 := uw_lt (f 3)
  unfold ow wv
  rw [wb_mod]
  rcases (show k = 0 ∨ k = 1 ∨ k = 2 ∨ k = 3 by omega) with rfl | rfl | rfl | rfl
  · rw [uw_eq (f 0)]; congr 1; rw [uw_of h0]; omega
  · rw [uw_eq (f 1)]; congr 1; rw [uw_of h1]; omega
  · rw [uw_eq (f 2)]; congr 1; rw [uw_of h2]; omega
  · rw [uw_eq (f 3)]; congr 1; rw [uw_of h3]; omega
theorem wv_congr {f g : Nat → Int64} (h : ∀ k, k < 4 → f k = g k) : wv f = wv g := by
  unfold wv
  rw [h 0 (by omega), h 1 (by omega), h 2 (by omega), h 3 (by omega)]
theorem wv_ow {x : Nat} (hx : x < 115792089237316195423570985008687907853269984665640564039457584007913129639936) : wv (ow x) = x := by
  have e : ∀ k, uw (ow x k) = x / 18446744073709551616 ^ k % 18446744073709551616 := fun k => by
    unfold ow
    rw [wb_mod, uw_of (Nat.mod_lt _ (by decide))]
  unfold wv
  rw [e 0, e 1, e 2, e 3]
  omega
/-! limbs out of words -/
def rl (f : Nat → Int64) (i : Nat) : Nat := if 64 < i * 26 % 64 + 26 ∧ i * 26 / 64 + 1 < 4 then (uw (f (i * 26 / 64)) / 2 ^ (i * 26 % 64) + (uw (f (i * 26 / 64 + 1)) % 2 ^ (i * 26 % 64)) * 2 ^ (64 - i * 26 % 64)) % 67108864 else uw (f (i * 26 / 64)) / 2 ^ (i * 26 % 64) % 67108864
theorem lN_m26 {n : Nat} (hn : n < 18446744073709551616) : (lN n &&& 67108863).toInt = ((n % 67108864 : Nat) : Int) := by
  rw [show (67108863 : Int64) = lN (2 ^ 26 - 1) from by decide, wb_mask (by omega) (by omega), uw_ls (by omega)]
theorem rd_a {x v : Int64} {sh : Nat} (hsh : sh < 64) (hv : v = (x.toUInt64 >>> ((nI sh).toInt64.toUInt64 &&& Int64.toUInt64 63)).toInt64) : (v &&& 67108863).toInt = ((uw x / 2 ^ sh % 67108864 : Nat) : Int) := by
  have hx := uw_lt x
  rw [hv, uw_eq x, wb_shr (by omega) hsh, uw_of hx, lN_m26 (Nat.lt_of_le_of_lt (Nat.div_le_self _ _) hx)]
theorem rd_b {x y v w z : Int64} {sh : Nat} (h0 : 0 < sh) (hsh : sh < 64) (hv : v = (x.toUInt64 >>> ((nI sh).toInt64.toUInt64 &&& Int64.toUInt64 63)).toInt64) (hw : w = y <<< ((nI (64 - sh)).toInt64 &&& 63)) (hz : z = v ||| w) : (z &&& 67108863).toInt = (((uw x / 2 ^ sh + (uw y % 2 ^ sh) * 2 ^ (64 - sh)) % 67108864 : Nat) : Int) := by
  have hx := uw_lt x
  have e64 : 2 ^ 64 = 2 ^ sh * 2 ^ (64 - sh) := wb_pw (by omega)
  have hv1 : v = lN (uw x / 2 ^ sh) := by rw [hv, uw_eq x, wb_shr (by omega) hsh, uw_of hx]
  have hw1 : w = lN (uw y % 2 ^ sh * 2 ^ (64 - sh)) := by
    rw [hw, uw_eq y, wb_shl _ (by omega), wb_mod, e64, Nat.mul_mod_mul_right, uw_of (uw_lt y)]
  have hp : 0 < 2 ^ sh := Nat.two_pow_pos sh
  have ha : uw x / 2 ^ sh < 2 ^ (64 - sh) := by
    rw [Nat.div_lt_iff_lt_mul hp, Nat.mul_comm, ← e64]
    exact hx
  have hb : uw y % 2 ^ sh < 2 ^ sh := Nat.mod_lt _ hp
  have hs : uw x / 2 ^ sh + uw y % 2 ^ sh * 2 ^ (64 - sh) < 2 ^ 64 := by
    have : (uw y % 2 ^ sh + 1) * 2 ^ (64 - sh) ≤ 2 ^ sh * 2 ^ (64 - sh) := Nat.mul_le_mul_right _ hb
    rw [Nat.add_mul, Nat.one_mul, ← e64] at this
    omega
  rw [hz, hv1, hw1, g_or' (k := 64 - sh) rfl ha hs, lN_m26 hs]
theorem rl_lt (f : Nat → Int64) (i : Nat) : rl f i < 67108864 := by
  unfold rl
  split <;> exact Nat.mod_lt _ (by decide)
theorem read_fold {f t : Nat → Int64} (h3 : uw (f 3) < 9223372036854775808) (ht : ∀ j, j < 10 → fI t j = (rl f j : Int)) : settled t ∧ fv t = (wv f : Int) := by
  refine ⟨⟨?_, fun j _ hj => ?_⟩, ?_⟩
  · have := rl_lt f 0
    rw [ht 0 (by omega)]
    omega
  · have := rl_lt f j
    rw [ht j hj]
    omega
  · have h0 := uw_lt (f 0)
    have h1 := uw_lt (f 1)
    have h2 := uw_lt (f 2)
    unfold fv wv
    rw [sv10, ht 0 (by omega), ht 1 (by omega), ht 2 (by omega), ht 3 (by omega), ht 4 (by omega), ht 5 (by omega), ht 6 (by omega), ht 7 (by omega), ht 8 (by omega), ht 9 (by omega)]
    simp only [rl, Nat.reduceMul, Nat.reduceMod, Nat.reduceDiv, Nat.reduceAdd, Nat.reduceSub, Nat.reducePow, Nat.reduceLT, and_true, and_false, and_self, if_true, if_false, Nat.reduceLeDiff]
    generalize uw (f 0) = a at *
    generalize uw (f 1) = b at *
    generalize uw (f 2) = c at *
    generalize uw (f 3) = d at *
    omega
/-! words out of limbs -/
def jt (r : Nat → Nat) (k i : Nat) : Nat := if k = i * 26 / 64 then r i * 2 ^ (i * 26 % 64) % 18446744073709551616 else if k = i * 26 / 64 + 1 ∧ 64 < i * 26 % 64 + 26 then r i / 2 ^ (64 - i * 26 % 64) else 0
def jw (r : Nat → Nat) (k : Nat) : Nat → Nat
  | 0 => 0
  | i + 1 => jw r k i + jt r k i
theorem jt_a {r : Nat → Nat} {k i s : Nat} (h : i * 26 / 64 = k) (h2 : i * 26 % 64 = s) : jt r k i = r i * 2 ^ s % 18446744073709551616 := by
  unfold jt
  rw [if_pos h.symm, h2]
theorem jt_b {r : Nat → Nat} {k i s : Nat} (h : i * 26 / 64 + 1 = k) (h1 : 64 < i * 26 % 64 + 26) (h2 : 64 - i * 26 % 64 = s) : jt r k i = r i / 2 ^ s := by
  unfold jt
  rw [if_neg (by omega), if_pos ⟨h.symm, h1⟩, h2]
theorem jt_c {r : Nat → Nat} {k i : Nat} (h : i * 26 / 64 ≠ k) (h2 : i * 26 / 64 + 1 ≠ k ∨ i * 26 % 64 ≤ 38) : jt r k i = 0 := by
  unfold jt
  rw [if_neg (fun e => h e.symm), if_neg (by omega)]
theorem jw_lt {r : Nat → Nat} (hr : ∀ j, j < 10 → r j < 67108864) {i : Nat} (hi : i < 10) : jw r (i * 26 / 64) i < 2 ^ (i * 26 % 64) ∧ jw r (i * 26 / 64 + 1) i = 0 := by
  have h0 := hr 0 (by omega)
  have h1 := hr 1 (by omega)
  have h2 := hr 2 (by omega)
  have h3 := hr 3 (by omega)
  have h4 := hr 4 (by omega)
  have h5 := hr 5 (by omega)
  have h6 := hr 6 (by omega)
  have h7 := hr 7 (by omega)
  have h8 := hr 8 (by omega)
  rcases (show i = 0 ∨ i = 1 ∨ i = 2 ∨ i = 3 ∨ i = 4 ∨ i = 5 ∨ i = 6 ∨ i = 7 ∨ i = 8 ∨ i = 9 by omega) with rfl | rfl | rfl | rfl | rfl | rfl | rfl | rfl | rfl | rfl
  · exact ⟨Nat.one_pos, rfl⟩
  · show jw r 0 1 < 2 ^ 26 ∧ jw r 1 1 = 0
    simp only [jw]
    rw [jt_a (k := 0) (i := 0) (s := 0) (by decide) (by decide), jt_c (k := 1) (i := 0) (by decide) (by decide)]
    omega
  · show jw r 0 2 < 2 ^ 52 ∧ jw r 1 2 = 0
    simp only [jw]
    rw [jt_a (k := 0) (i := 0) (s := 0) (by decide) (by decide), jt_a (k := 0) (i := 1) (s := 26) (by decide) (by decide), jt_c (k := 1) (i := 0) (by decide) (by decide), jt_c (k := 1) (i := 1) (by decide) (by decide)]
    omega
  · show jw r 1 3 < 2 ^ 14 ∧ jw r 2 3 = 0
    simp only [jw]
    rw [jt_c (k := 1) (i := 0) (by decide) (by decide), jt_c (k := 1) (i := 1) (by decide) (by decide), jt_b (k := 1) (i := 2) (s := 12) (by decide) (by decide) (by decide), jt_c (k := 2) (i := 0) (by decide) (by decide), jt_c (k := 2) (i := 1) (by decide) (by decide), jt_c (k := 2) (i := 2) (by decide) (by decide)]
    omega
  · show jw r 1 4 < 2 ^ 40 ∧ jw r 2 4 = 0
    simp only [jw]
    rw [jt_c (k := 1) (i := 0) (by decide) (by decide), jt_c (k := 1) (i := 1) (by decide) (by decide), jt_b (k := 1) (i := 2) (s := 12) (by decide) (by decide) (by decide), jt_a (k := 1) (i := 3) (s := 14) (by decide) (by decide), jt_c (k := 2) (i := 0) (by decide) (by decide), jt_c (k := 2) (i := 1) (by decide) (by decide), jt_c (k := 2) (i := 2) (by decide) (by decide), jt_c (k := 2) (i := 3) (by decide) (by decide)]
    omega
  · show jw r 2 5 < 2 ^ 2 ∧ jw r 3 5 = 0
    simp only [jw]
    rw [jt_c (k := 2) (i := 0) (by decide) (by decide), jt_c (k := 2) (i := 1) (by decide) (by decide), jt_c (k := 2) (i := 2) (by decide) (by decide), jt_c (k := 2) (i := 3) (by decide) (by decide), jt_b (k := 2) (i := 4) (s := 24) (by decide) (by decide) (by decide), jt_c (k := 3) (i := 0) (by decide) (by decide), jt_c (k := 3) (i := 1) (by decide) (by decide), jt_c (k := 3) (i := 2) (by decide) (by decide), jt_c (k := 3) (i := 3) (by decide) (by decide), jt_c (k := 3) (i := 4) (by decide) (by decide)]
    omega
  · show jw r 2 6 < 2 ^ 28 ∧ jw r 3 6 = 0
    simp only [jw]
    rw [jt_c (k := 2) (i := 0) (by decide) (by decide), jt_c (k := 2) (i := 1) (by decide) (by decide), jt_c (k := 2) (i := 2) (by decide) (by decide), jt_c (k := 2) (i := 3) (by decide) (by decide), jt_b (k := 2) (i := 4) (s := 24) (by decide) (by decide) (by decide), jt_a (k := 2) (i := 5) (s := 2) (by decide) (by decide), jt_c (k := 3) (i := 0) (by decide) (by decide), jt_c (k := 3) (i := 1) (by decide) (by decide), jt_c (k := 3) (i := 2) (by decide) (by decide), jt_c (k := 3) (i := 3) (by decide) (by decide), jt_c (k := 3) (i := 4) (by decide) (by decide), jt_c (k := 3) (i := 5) (by decide) (by decide)]
    omega
  · show jw r 2 7 < 2 ^ 54 ∧ jw r 3 7 = 0
    simp only [jw]
    rw [jt_c (k := 2) (i := 0) (by decide) (by decide), jt_c (k := 2) (i := 1) (by decide) (by decide), jt_c (k := 2) (i := 2) (by decide) (by decide), jt_c (k := 2) (i := 3) (by decide) (by decide), jt_b (k := 2) (i := 4) (s := 24) (by decide) (by decide) (by decide), jt_a (k := 2) (i := 5) (s := 2) (by decide) (by decide), jt_a (k := 2) (i := 6) (s := 28) (by decide) (by decide), jt_c (k := 3) (i := 0) (by decide) (by decide), jt_c (k := 3) (i := 1) (by decide) (by decide), jt_c (k := 3) (i := 2) (by decide) (by decide), jt_c (k := 3) (i := 3) (by decide) (by decide), jt_c (k := 3) (i := 4) (by decide) (by decide), jt_c (k := 3) (i := 5) (by decide) (by decide), jt_c (k := 3) (i := 6) (by decide) (by decide)]
    omega
  · show jw r 3 8 < 2 ^ 16 ∧ jw r 4 8 = 0
    simp only [jw]
    rw [jt_c (k := 3) (i := 0) (by decide) (by decide), jt_c (k := 3) (i := 1) (by decide) (by decide), jt_c (k := 3) (i := 2) (by decide) (by decide), jt_c (k := 3) (i := 3) (by decide) (by decide), jt_c (k := 3) (i := 4) (by decide) (by decide), jt_c (k := 3) (i := 5) (by decide) (by decide), jt_c (k := 3) (i := 6) (by decide) (by decide), jt_b (k := 3) (i := 7) (s := 10) (by decide) (by decide) (by decide), jt_c (k := 4) (i := 0) (by decide) (by decide), jt_c (k := 4) (i := 1) (by decide) (by decide), jt_c (k := 4) (i := 2) (by decide) (by decide), jt_c (k := 4) (i := 3) (by decide) (by decide), jt_c (k := 4) (i := 4) (by decide) (by decide), jt_c (k := 4) (i := 5) (by decide) (by decide), jt_c (k := 4) (i := 6) (by decide) (by decide), jt_c (k := 4) (i := 7) (by decide) (by decide)]
    omega
  · show jw r 3 9 < 2 ^ 42 ∧ jw r 4 9 = 0
    simp only [jw]
    rw [jt_c (k := 3) (i := 0) (by decide) (by decide), jt_c (k := 3) (i := 1) (by decide) (by decide), jt_c (k := 3) (i := 2) (by decide) (by decide), jt_c (k := 3) (i := 3) (by decide) (by decide), jt_c (k := 3) (i := 4) (by decide) (by decide), jt_c (k := 3) (i := 5) (by decide) (by decide), jt_c (k := 3) (i := 6) (by decide) (by decide), jt_b (k := 3) (i := 7) (s := 10) (by decide) (by decide) (by decide), jt_a (k := 3) (i := 8) (s := 16) (by decide) (by decide), jt_c (k := 4) (i := 0) (by decide) (by decide), jt_c (k := 4) (i := 1) (by decide) (by decide), jt_c (k := 4) (i := 2) (by decide) (by decide), jt_c (k := 4) (i := 3) (by decide) (by decide), jt_c (k := 4) (i := 4) (by decide) (by decide), jt_c (k := 4) (i := 5) (by decide) (by decide), jt_c (k := 4) (i := 6) (by decide) (by decide), jt_c (k := 4) (i := 7) (by decide) (by decide), jt_c (k := 4) (i := 8) (by decide) (by decide)]
    omega
theorem jw_e0 {r : Nat → Nat} (h0 : r 0 < 67108864) (h1 : r 1 < 67108864) : jw r 0 10 = r 0 + r 1 * 67108864 + r 2 % 4096 * 4503599627370496 := by
  simp only [jw]
  rw [jt_a (k := 0) (i := 0) (s := 0) (by decide) (by decide), jt_a (k := 0) (i := 1) (s := 26) (by decide) (by decide), jt_a (k := 0) (i := 2) (s := 52) (by decide) (by decide), jt_c (k := 0) (i := 3) (by decide) (by decide), jt_c (k := 0) (i := 4) (by decide) (by decide), jt_c (k := 0) (i := 5) (by decide) (by decide), jt_c (k := 0) (i := 6) (by decide) (by decide), jt_c (k := 0) (i := 7) (by decide) (by decide), jt_c (k := 0) (i := 8) (by decide) (by decide), jt_c (k := 0) (i := 9) (by decide) (by decide)]
  omega
theorem jw_e1 {r : Nat → Nat} (h2 : r 2 < 67108864) (h3 : r 3 < 67108864) : jw r 1 10 = r 2 / 4096 + r 3 * 16384 + r 4 % 16777216 * 1099511627776 := by
  simp only [jw]
  rw [jt_c (k := 1) (i := 0) (by decide) (by decide), jt_c (k := 1) (i := 1) (by decide) (by decide), jt_b (k := 1) (i := 2) (s := 12) (by decide) (by decide) (by decide), jt_a (k := 1) (i := 3) (s := 14) (by decide) (by decide), jt_a (k := 1) (i := 4) (s := 40) (by decide) (by decide), jt_c (k := 1) (i := 5) (by decide) (by decide), jt_c (k := 1) (i := 6) (by decide) (by decide), jt_c (k := 1) (i := 7) (by decide) (by decide), jt_c (k := 1) (i := 8) (by decide) (by decide), jt_c (k := 1) (i := 9) (by decide) (by decide)]
  omega
theorem jw_e2 {r : Nat → Nat} (h4 : r 4 < 67108864) (h5 : r 5 < 67108864) (h6 : r 6 < 67108864) : jw r 2 10 = r 4 / 16777216 + r 5 * 4 + r 6 * 268435456 + r 7 % 1024 * 18014398509481984 := by
  simp only [jw]
  rw [jt_c (k := 2) (i := 0) (by decide) (by decide), jt_c (k := 2) (i := 1) (by decide) (by decide), jt_c (k := 2) (i := 2) (by decide) (by decide), jt_c (k := 2) (i := 3) (by decide) (by decide), jt_b (k := 2) (i := 4) (s := 24) (by decide) (by decide) (by decide), jt_a (k := 2) (i := 5) (s := 2) (by decide) (by decide), jt_a (k := 2) (i := 6) (s := 28) (by decide) (by decide), jt_a (k := 2) (i := 7) (s := 54) (by decide) (by decide), jt_c (k := 2) (i := 8) (by decide) (by decide), jt_c (k := 2) (i := 9) (by decide) (by decide)]
  omega
theorem jw_e3 {r : Nat → Nat} (h7 : r 7 < 67108864) (h8 : r 8 < 67108864) (h9 : r 9 < 2097152) : jw r 3 10 = r 7 / 1024 + r 8 * 65536 + r 9 * 4398046511104 := by
  simp only [jw]
  rw [jt_c (k := 3) (i := 0) (by decide) (by decide), jt_c (k := 3) (i := 1) (by decide) (by decide), jt_c (k := 3) (i := 2) (by decide) (by decide), jt_c (k := 3) (i := 3) (by decide) (by decide), jt_c (k := 3) (i := 4) (by decide) (by decide), jt_c (k := 3) (i := 5) (by decide) (by decide), jt_c (k := 3) (i := 6) (by decide) (by decide), jt_b (k := 3) (i := 7) (s := 10) (by decide) (by decide) (by decide), jt_a (k := 3) (i := 8) (s := 16) (by decide) (by decide), jt_a (k := 3) (i := 9) (s := 42) (by decide) (by decide)]
  omega
theorem join_fold {r : Nat → Nat} {w : Nat → Int64} (hr : ∀ j, j < 10 → r j < 67108864) (h9 : r 9 < 2097152) (hw : ∀ k, k < 4 → w k = lN (jw r k 10)) : (wv w : Int) = sv bB (fun j => (r j : Int)) 10 := by
  have h0 := hr 0 (by omega)
  have h1 := hr 1 (by omega)
  have h2 := hr 2 (by omega)
  have h3 := hr 3 (by omega)
  have h4 := hr 4 (by omega)
  have h5 := hr 5 (by omega)
  have h6 := hr 6 (by omega)
  have h7 := hr 7 (by omega)
  have h8 := hr 8 (by omega)
  unfold wv
  rw [sv10, hw 0 (by omega), hw 1 (by omega), hw 2 (by omega), hw 3 (by omega), jw_e0 h0 h1, jw_e1 h2 h3, jw_e2 h4 h5 h6, jw_e3 h7 h8 h9]
  clear hw hr
  generalize r 0 = r0 at *
  generalize r 1 = r1 at *
  generalize r 2 = r2 at *
  generalize r 3 = r3 at *
  generalize r 4 = r4 at *
  generalize r 5 = r5 at *
  generalize r 6 = r6 at *
  generalize r 7 = r7 at *
  generalize r 8 = r8 at *
  generalize r 9 = r9 at *
  rw [uw_of (by omega), uw_of (by omega), uw_of (by omega), uw_of (by omega)]
  have e2 := Nat.mod_add_div r2 4096
  have e4 := Nat.mod_add_div r4 16777216
  have e7 := Nat.mod_add_div r7 1024
  generalize r2 % 4096 = a2 at *
  generalize r2 / 4096 = b2 at *
  generalize r4 % 16777216 = a4 at *
  generalize r4 / 16777216 = b4 at *
  generalize r7 % 1024 = a7 at *
  generalize r7 / 1024 = b7 at *
  clear h0 h1 h2 h3 h4 h5 h6 h7 h8 h9
  subst e2 e4 e7
  simp only [Int.natCast_add, Int.natCast_mul]
  omega
/-! the rest by P of a number less than 2 to the 255 -/
def nP : Nat := 57896044618658097711785492504343953926634992332820282019728792003956564819949
theorem nP_pP : (nP : Int) = pP := by decide
theorem uw_m1 {x : Int64} (h : x = -1) : uw x = 18446744073709551615 := by subst h; decide
theorem rest_hi {f : Nat → Int64} (h3 : f 3 = 9223372036854775807) (h2 : f 2 = -1) (h1 : f 1 = -1) (h0 : ¬ (f 0) < -19) (h00 : f 0 < 0) {y : Int64} (hy : y = f 0 + 19) : wv (fun j => if j = 0 then y else 0) = wv f % nP := by
  have e3 : uw (f 3) = 9223372036854775807 := by rw [h3]; decide
  have a0 : (f 0).toInt < 0 := by
    have := Int64.lt_iff_toInt_lt.mp h00
    rwa [show (0 : Int64).toInt = 0 from by decide] at this
  have a1 : -19 ≤ (f 0).toInt := by
    have := mt Int64.lt_iff_toInt_lt.mpr h0
    rw [show (-19 : Int64).toInt = -19 from by decide] at this
    omega
  have a2 := uw_ti (f 0)
  have a3 := uw_lt (f 0)
  have a4 : (uw (f 0) : Int) = (f 0).toInt + 18446744073709551616 := by
    split at a2 <;> omega
  have hyi : y.toInt = (f 0).toInt + 19 := by
    have e : (19 : Int64).toInt = 19 := by decide
    rw [hy, tl_add (by rw [e]; omega) (by rw [e]; omega), e]
  have b2 := uw_ti y
  have b3 := uw_lt y
  have b4 : (uw y : Int) = (f 0).toInt + 19 := by
    split at b2 <;> omega
  unfold wv nP
  simp only [if_true, Nat.reduceEqDiff, if_false, show uw 0 = 0 from by decide, reduceCtorEq]
  rw [e3, uw_m1 h2, uw_m1 h1]
  omega
theorem rest_lo {f : Nat → Int64} (h : uw (f 3) < 9223372036854775808) (hn : ¬ (f 3 = 9223372036854775807 ∧ f 2 = -1 ∧ f 1 = -1 ∧ ¬ f 0 < -19 ∧ f 0 < 0)) : wv f = wv f % nP := by
  have a0 := uw_lt (f 0)
  have a1 := uw_lt (f 1)
  have a2 := uw_lt (f 2)
  symm
  apply Nat.mod_eq_of_lt
  apply Nat.lt_of_not_le
  intro hle
  apply hn
  have b3 : uw (f 3) = 9223372036854775807 := by unfold wv nP at hle; omega
  have b2 : uw (f 2) = 18446744073709551615 := by unfold wv nP at hle; omega
  have b1 : uw (f 1) = 18446744073709551615 := by unfold wv nP at hle; omega
  have b0 : 18446744073709551597 ≤ uw (f 0) := by unfold wv nP at hle; omega
  have c0 := uw_ti (f 0)
  have c1 : (f 0).toInt = (uw (f 0) : Int) - 18446744073709551616 := by
    split at c0 <;> omega
  refine ⟨uw_inj (by rw [b3]; decide), uw_inj (by rw [b2]; decide), uw_inj (by rw [b1]; decide), ?_, ?_⟩
  · intro q
    have := Int64.lt_iff_toInt_lt.mp q
    rw [show (-19 : Int64).toInt = -19 from by decide] at this
    omega
  · apply Int64.lt_iff_toInt_lt.mpr
    rw [show (0 : Int64).toInt = 0 from by decide]
    omega
theorem cmp_eq {x y : Int64} (h : ¬ ¬ lg_cmp x y = 0) : x = y := by
  have h := Decidable.of_not_not h
  unfold lg_cmp at h
  split at h
  · exact absurd h (by decide)
  · split at h
    · assumption
    · exact absurd h (by decide)
theorem cmp_ne {x y : Int64} (h : ¬ lg_cmp x y = 0) : x ≠ y := fun e => h (by subst e; simp [lg_cmp])
end
section
/-! the top folded down -/
def Icf (f g : Nat → Int64) (i : Nat) : Prop := (∀ j, j < i → 0 ≤ fI g j ∧ fI g j < 67108864) ∧ (∀ j, i < j → g j = f j) ∧ 0 ≤ fI g i ∧ fI g i < 4611686155866341376 ∧ sv bB (fI g) 10 = sv bB (fI f) 10
theorem Icf_0 {f : Nat → Int64} (h : 0 ≤ fI f 0 ∧ fI f 0 < 4611686018427387904) : Icf f f 0 := ⟨fun j h => by omega, fun _ _ => rfl, h.1, by omega, rfl⟩
theorem Icf_s {f g : Nat → Int64} {i : Nat} {x y z : Int64} (h : Icf f g i) (hi : i < 9) (hf : 0 ≤ fI f (i + 1) ∧ fI f (i + 1) < 4611686018427387904) (hx : x = g i >>> ((nI 26).toInt64 &&& 63)) (hy : y = g (i + 1) + x) (hz : z = g i &&& 67108863) : Icf f (vp_updL (vp_updL g (i + 1) y) i z) (i + 1) := by
  obtain ⟨h1, h2, h3, h4, h5⟩ := h
  have hg : (g (i + 1)).toInt = fI f (i + 1) := by rw [h2 (i + 1) (by omega)]; rfl
  have hgi : (g i).toInt = fI g i := rfl
  have hxi : x.toInt = fI g i / 67108864 := by rw [hx]; exact ns26 _
  have hyi : y.toInt = fI f (i + 1) + fI g i / 67108864 := by rw [hy, tl_add (by omega) (by omega), hg, hxi]
  have hzi : z.toInt = fI g i % 67108864 := by rw [hz]; exact tl_m26 _
  refine ⟨fun j hj => ?_, fun j hj => ?_, ?_, ?_, ?_⟩
  · by_cases e : j = i
    · subst e; rw [fI_us, hzi]; omega
    · rw [fI_un e, fI_un (by omega)]; exact h1 j (by omega)
  · show (if j = i then z else if j = i + 1 then y else g j) = f j
    rw [if_neg (by omega), if_neg (by omega)]
    exact h2 j (by omega)
  · rw [fI_un (by omega), fI_us]; omega
  · rw [fI_un (by omega), fI_us]; omega
  · rw [fI_upd, sv_upd (by omega), fI_un (by omega), fI_upd, sv_upd (by omega), h5, hyi, hzi, show fI g (i + 1) = fI f (i + 1) from hg, Int.pow_succ]
    show _ + _ * (bB ^ i * 67108864) + _ = _
    generalize (bB : Int) ^ i = t
    have hd := Int.emod_add_mul_ediv (fI g i) 67108864
    generalize fI g i / 67108864 = a at hd ⊢
    generalize fI g i % 67108864 = b at hd ⊢
    rw [← hd]
    grind
def FoldP (f h : Nat → Int64) : Prop := ∃ t : Int, 0 ≤ t ∧ (∀ j, 1 ≤ j → j < 9 → 0 ≤ fI h j ∧ fI h j < 67108864) ∧ (0 ≤ fI h 9 ∧ fI h 9 < 2097152) ∧ 19 * t ≤ fI h 0 ∧ fI h 0 < 67108864 + 19 * t ∧ fv h = fv f - t * 57896044618658097711785492504343953926634992332820282019728792003956564819968 + 19 * t ∧ 0 ≤ fv f - t * 57896044618658097711785492504343953926634992332820282019728792003956564819968 ∧ fv f - t * 57896044618658097711785492504343953926634992332820282019728792003956564819968 < 57896044618658097711785492504343953926634992332820282019728792003956564819968
theorem Icf_e {f g : Nat → Int64} {a b y z : Int64} (h : Icf f g 9) (ha : a = g 9 >>> ((nI 21).toInt64 &&& 63)) (hb : b = 19 * a) (hy : y = g 0 + b) (hz : z = g 9 &&& 2097151) : FoldP f (vp_updL (vp_updL g 0 y) 9 z) := by
  obtain ⟨h1, -, h3, h4, h5⟩ := h
  have e19 : (19 : Int64).toInt = 19 := by decide
  have hai : a.toInt = fI g 9 / 2097152 := by rw [ha]; exact ns21 _
  have hbi : b.toInt = 19 * (fI g 9 / 2097152) := by rw [hb, tl_mul (by rw [e19]; omega) (by rw [e19]; omega), e19, hai]
  have g0 := h1 0 (by omega)
  have hg0 : (g 0).toInt = fI g 0 := rfl
  have hyi : y.toInt = fI g 0 + 19 * (fI g 9 / 2097152) := by rw [hy, tl_add (by omega) (by omega), hbi, hg0]
  have hzi : z.toInt = fI g 9 % 2097152 := by rw [hz]; exact tl_m21 _
  have hv : fv f = fI g 0 + fI g 1 * 67108864 + fI g 2 * 4503599627370496 + fI g 3 * 302231454903657293676544 + fI g 4 * 20282409603651670423947251286016 + fI g 5 * 1361129467683753853853498429727072845824 + fI g 6 * 91343852333181432387730302044767688728495783936 + fI g 7 * 6129982163463555433433388108601236734474956488734408704 + fI g 8 * 411376139330301510538742295639337626245683966408394965837152256 + fI g 9 * 27606985387162255149739023449108101809804435888681546220650096895197184 := by
    unfold fv
    rw [← h5, sv10]
  have k1 := h1 1 (by omega)
  have k2 := h1 2 (by omega)
  have k3 := h1 3 (by omega)
  have k4 := h1 4 (by omega)
  have k5 := h1 5 (by omega)
  have k6 := h1 6 (by omega)
  have k7 := h1 7 (by omega)
  have k8 := h1 8 (by omega)
  have hd := Int.emod_add_mul_ediv (fI g 9) 2097152
  have hm : 0 ≤ fI g 9 % 2097152 ∧ fI g 9 % 2097152 < 2097152 := by omega
  have ht : 0 ≤ fI g 9 / 2097152 := by omega
  refine ⟨fI g 9 / 2097152, ht, fun j j1 j2 => ?_, ?_, ?_, ?_, ?_, ?_, ?_⟩
  · rw [fI_un (by omega), fI_un (by omega)]; exact h1 j (by omega)
  · rw [fI_us, hzi]; exact hm
  · rw [fI_un (by omega), fI_us, hyi]; omega
  · rw [fI_un (by omega), fI_us, hyi]; omega
  · have e9 : fI (vp_updL g 0 y) 9 = fI g 9 := fI_un (by omega)
    have e0 : (67108864 : Int) ^ 9 = 27606985387162255149739023449108101809804435888681546220650096895197184 := by decide
    rw [show fv (vp_updL (vp_updL g 0 y) 9 z) = sv bB (fI (vp_updL (vp_updL g 0 y) 9 z)) 10 from rfl, fI_upd, sv_upd (by omega), e9, fI_upd, sv_upd (by omega), h5, hyi, hzi, Int.pow_zero]
    show fv f + _ + (_ - fI g 9) * (67108864 : Int) ^ 9 = _
    rw [e0]
    generalize fI g 9 / 2097152 = t at *
    generalize fI g 9 % 2097152 = r at *
    omega
  · rw [hv]
    generalize fI g 9 / 2097152 = t at *
    generalize fI g 9 % 2097152 = r at *
    omega
  · rw [hv]
    generalize fI g 9 / 2097152 = t at *
    generalize fI g 9 % 2097152 = r at *
    omega
/-- folded twice: the one number less than 2 to the 255, its limbs whole -/
theorem fold_2 {f g h : Nat → Int64} (hf : settled f) (h1 : FoldP f g) (h2 : FoldP g h) : (∀ j, j < 10 → 0 ≤ fI h j ∧ fI h j < 67108864) ∧ fI h 9 < 2097152 ∧ cg (fv h) (fv f) ∧ 0 ≤ fv h ∧ fv h < 57896044618658097711785492504343953926634992332820282019728792003956564819968 := by
  have hf0 := settled_loose hf
  obtain ⟨t, t0, a1, a2, a3, a4, a5, a6, a7⟩ := h1
  obtain ⟨r, r0, b1, b2, b3, b4, b5, b6, b7⟩ := h2
  have hv : 0 ≤ fv f ∧ fv f < 3000000000000000000000000000000000000000000000000000000000000000000000000000000 := by
    unfold fv
    rw [sv10]
    have c0 := settled_at hf (j := 0) (by omega)
    have c1 := hf.2 1 (by omega) (by omega)
    have c2 := hf.2 2 (by omega) (by omega)
    have c3 := hf.2 3 (by omega) (by omega)
    have c4 := hf.2 4 (by omega) (by omega)
    have c5 := hf.2 5 (by omega) (by omega)
    have c6 := hf.2 6 (by omega) (by omega)
    have c7 := hf.2 7 (by omega) (by omega)
    have c8 := hf.2 8 (by omega) (by omega)
    have c9 := hf.2 9 (by omega) (by omega)
    omega
  have ht : t ≤ 64 := by omega
  have hr : r ≤ 1 := by omega
  have hc : cg (fv h) (fv f) := ⟨-t - r, by unfold pP; omega⟩
  have h0 : 0 ≤ fv h ∧ fv h < 57896044618658097711785492504343953926634992332820282019728792003956564819968 := by
    rcases (show r = 0 ∨ r = 1 by omega) with rfl | rfl <;> omega
  have hh0 : 0 ≤ fI h 0 ∧ fI h 0 < 67108864 := by
    refine ⟨by omega, ?_⟩
    rcases (show r = 0 ∨ r = 1 by omega) with rfl | rfl
    · omega
    · have hx : fv h = fI h 0 + fI h 1 * 67108864 + fI h 2 * 4503599627370496 + fI h 3 * 302231454903657293676544 + fI h 4 * 20282409603651670423947251286016 + fI h 5 * 1361129467683753853853498429727072845824 + fI h 6 * 91343852333181432387730302044767688728495783936 + fI h 7 * 6129982163463555433433388108601236734474956488734408704 + fI h 8 * 411376139330301510538742295639337626245683966408394965837152256 + fI h 9 * 27606985387162255149739023449108101809804435888681546220650096895197184 := by
        unfold fv
        rw [sv10]
      have k1 := b1 1 (by omega) (by omega)
      have k2 := b1 2 (by omega) (by omega)
      have k3 := b1 3 (by omega) (by omega)
      have k4 := b1 4 (by omega) (by omega)
      have k5 := b1 5 (by omega) (by omega)
      have k6 := b1 6 (by omega) (by omega)
      have k7 := b1 7 (by omega) (by omega)
      have k8 := b1 8 (by omega) (by omega)
      omega
  refine ⟨fun j hj => ?_, b2.2, hc, h0.1, h0.2⟩
  by_cases e : j = 0
  · subst e; exact hh0
  · by_cases e9 : j = 9
    · subst e9; omega
    · exact b1 j (by omega) (by omega)
theorem FoldP_lim {f h : Nat → Int64} (hf : settled f) (H : FoldP f h) {j : Nat} (hj : j < 10) : 0 ≤ fI h j ∧ fI h j < 4611686018427387904 := by
  obtain ⟨t, t0, a1, a2, a3, a4, a5, a6, a7⟩ := H
  have hv : fv f < 3000000000000000000000000000000000000000000000000000000000000000000000000000000 := by
    unfold fv
    rw [sv10]
    have c0 := settled_at hf (j := 0) (by omega)
    have c1 := hf.2 1 (by omega) (by omega)
    have c2 := hf.2 2 (by omega) (by omega)
    have c3 := hf.2 3 (by omega) (by omega)
    have c4 := hf.2 4 (by omega) (by omega)
    have c5 := hf.2 5 (by omega) (by omega)
    have c6 := hf.2 6 (by omega) (by omega)
    have c7 := hf.2 7 (by omega) (by omega)
    have c8 := hf.2 8 (by omega) (by omega)
    have c9 := hf.2 9 (by omega) (by omega)
    omega
  by_cases e : j = 0
  · subst e; omega
  · by_cases e9 : j = 9
    · subst e9; omega
    · have := a1 j (by omega) (by omega); omega
section ZCP
variable {p : Program} {l : Launch} {e : Env} {R : Room} {s : State} {m : MethodId} {args : Array Value} {below : List Frame} {meth : Method} {c : Code} {H : Heap} {locs : List Loc} {cells slots : Nat} {Q : State → Prop}
variable {cc : ByteArray} {pc : Nat} {ls : Array Slot} {rest : List Value} {D : va_G} {A : Nat → Prop} {tys : List (ClassId × FieldType)} {X : va_W} {H0 : Heap} {cA : ClassId} {L : List Nat} {n : Nat → Nat} {q : Nat → Nat → Int64} {a b : Nat}
/-- System.arraycopy(a, 0, b, 0, k) -/
theorem z_cp (hexec : p.tables.exec = Jvm.exec) (hb : c.code = cc) (hml : c.maxLocals = ls.size) {own : String} {index : Nat} (hown : s.vm.findClass own = some m.cls) (hlink : (Cond.methodLink own index arraycopyName).before args s = true) (hnat : (Cond.native arraycopyName).before args s = true) (hstat : (Cond.static arraycopyName).before args s = true) (hini : (Cond.initialized "java/lang/System").before args s = true)
    (hK : va_K D vwCl ((cA, .long) :: tys) s) (hP : va_P D vwCl (X ++ PL cA L n q) H) (hD : va_D A (X ++ PL cA L n q)) (hS : va_S A H0 H locs) {N0 N1 : Nat} (ha : a ∈ L ∧ n a = N0) (hbL : b ∈ L ∧ n b = N1) (k : Nat) (hk0 : k ≤ N0) (hk1 : k ≤ N1) (hk : k < 2147483648)
    (hframes : 1 ≤ R.frames) (hlocals : (rest.map fun v => v.category).sum + (nativeFrameWords "java/lang/System" "arraycopy" 5 + 11) ≤ R.locals) (hdg : decode cc pc = .ok (.invokestatic index, 3))
    (kk : ∀ (H1 : Heap) (locs1 : List Loc), va_P D vwCl (X ++ PL cA L n (mpq q b (q a) k)) H1 → va_D A (X ++ PL cA L n (mpq q b (q a) k)) → va_S A H0 H1 locs1 → W p l e R s m args below meth c H1 locs1 cells slots Q (F0 m (pc + 3) ls rest)) : W p l e R s m args below meth c H locs cells slots Q (F0 m pc ls (.int (nI k) :: .int (nI 0) :: .ref b :: .int (nI 0) :: .ref a :: rest)) := by
  obtain ⟨ha, hn0⟩ := ha
  obtain ⟨hbL, hn1⟩ := hbL
  obtain ⟨k0, hk0'⟩ := va_pl_get (X := X) (f := fun a => .inl (cA, n a, .inr (.inl (q a)))) ha
  obtain ⟨k1, hk1'⟩ := va_pl_get (X := X) (f := fun a => .inl (cA, n a, .inr (.inl (q a)))) hbL
  have c0 : (nI 0).toNatClampNeg = 0 := by decide
  have ck : (nI k).toNatClampNeg = k := nI_clamp (by omega)
  refine va_copyl hexec hb hml hown hlink hnat hstat hini hK hP hD hS k0 k1 0 0 hk0' hk1' rfl rfl rfl (by decide) (by decide) (nI_pos (by omega)) (by rw [c0, ck, hn0]; omega) (by rw [c0, ck, hn1]; omega) (fun _ _ => rfl) hframes hlocals hdg ?_
  intro H1 locs1
  rw [va_pl_set hD hbL hk1', pl_up, c0, ck]
  have e : va_cpy (q a) (q b) 0 0 k = fun j => if j < k then q a j else q b j := by
    funext j
    by_cases h : j < k
    · rw [pk_cpy_in (Nat.zero_le j) (by omega), if_pos h]; congr 1; omega
    · rw [pk_cpy_out (Or.inr (by omega)), if_neg h]
  rw [e]
  exact kk H1 locs1
end ZCP
end
section
theorem lv_eq {ls : Array Slot} {k : Nat} {l l' : List (Nat × Value)} (e : l = l') (h : lv_has ls k l) : lv_has ls k l' := e ▸ h
theorem dn_step : ∀ i, i < 254 → nI (253 - i) + Int32.ofInt (-1) = nI 253 - nI (i + 1) := by decide +kernel
theorem uw_nn {x : Int64} (h : 0 ≤ x.toInt) : (uw x : Int) = x.toInt := by
  have a := uw_ti x
  have b := uw_lt x
  split at a <;> omega
theorem settled_congr {f g : Nat → Int64} (h : ∀ j, j < 10 → f j = g j) (H : settled f) : settled g := by
  have e : ∀ j, j < 10 → fI g j = fI f j := fun j hj => by rw [fI_at, fI_at, h j hj]
  refine ⟨by rw [e 0 (by omega)]; exact H.1, fun j h1 hj => by rw [e j hj]; exact H.2 j h1 hj⟩
theorem fv_congr {f g : Nat → Int64} (h : ∀ j, j < 10 → f j = g j) : fv f = fv g := sv_congr (fun j hj => by rw [fI_at, fI_at, h j hj])
theorem jn_a {r : Nat → Nat} {i : Nat} {x y z v : Int64} (hr : ∀ j, j < 10 → r j < 67108864) (hi : i < 10) (hx : x = lN (jw r (i * 26 / 64) i)) (hy : uw y = r i) (hz : z = y <<< ((nI (i * 26 % 64)).toInt64 &&& 63)) (hv : v = x ||| z) : v = lN (jw r (i * 26 / 64) (i + 1)) := by
  have hl := (jw_lt hr hi).1
  have e64 : 18446744073709551616 = 2 ^ (64 - i * 26 % 64) * 2 ^ (i * 26 % 64) := by
    rw [← Nat.pow_add, show 64 - i * 26 % 64 + i * 26 % 64 = 64 by omega]
  have hm : r i * 2 ^ (i * 26 % 64) % 18446744073709551616 = r i % 2 ^ (64 - i * 26 % 64) * 2 ^ (i * 26 % 64) := by
    rw [e64, Nat.mul_mod_mul_right]
  show v = lN (jw r (i * 26 / 64) i + jt r (i * 26 / 64) i)
  rw [jt_a rfl rfl, hv, hx, hz, uw_eq y, hy, wb_shl _ (by omega), wb_mod (r i * 2 ^ (i * 26 % 64)), show (2 : Nat) ^ 64 = 18446744073709551616 from by decide, hm, g_or' (k := i * 26 % 64) rfl hl]
  have h1 : r i % 2 ^ (64 - i * 26 % 64) + 1 ≤ 2 ^ (64 - i * 26 % 64) := Nat.mod_lt _ (Nat.two_pow_pos _)
  have h2 := Nat.mul_le_mul_right (2 ^ (i * 26 % 64)) h1
  rw [← e64, Nat.add_mul, Nat.one_mul] at h2
  show _ < 18446744073709551616
  omega
theorem jn_b {r : Nat → Nat} {i : Nat} {x y z v : Int64} (hr : ∀ j, j < 10 → r j < 67108864) (hi : i < 10) (hc : 64 < i * 26 % 64 + 26) (hx : x = lN (jw r (i * 26 / 64 + 1) i)) (hy : uw y = r i) (hz : z = (y.toUInt64 >>> ((nI (64 - i * 26 % 64)).toInt64.toUInt64 &&& Int64.toUInt64 63)).toInt64) (hv : v = x ||| z) : v = lN (jw r (i * 26 / 64 + 1) (i + 1)) := by
  have hl := (jw_lt hr hi).2
  have hy2 := uw_lt y
  show v = lN (jw r (i * 26 / 64 + 1) i + jt r (i * 26 / 64 + 1) i)
  rw [jt_b rfl hc rfl, hv, hx, hz, hl, uw_eq y, wb_shr (by exact hy2) (by omega), hy, Nat.zero_add]
  rw [hy] at hy2
  rw [wb_or (by decide) (Nat.lt_of_le_of_lt (Nat.div_le_self _ _) hy2), Nat.zero_or]
theorem jw_same {r : Nat → Nat} {k i : Nat} (h : i * 26 / 64 ≠ k) (h2 : i * 26 / 64 + 1 ≠ k ∨ i * 26 % 64 ≤ 38) : jw r k (i + 1) = jw r k i := by
  show jw r k i + jt r k i = _
  rw [jt_c h h2, Nat.add_zero]
theorem jn_s1 {r : Nat → Nat} {g : Nat → Int64} {i : Nat} {y : Int64} (hI : ∀ k, k < 4 → g k = lN (jw r k i)) (hy : y = lN (jw r (i * 26 / 64) (i + 1))) (hc : i * 26 % 64 ≤ 38 ∨ 4 ≤ i * 26 / 64 + 1) : ∀ k, k < 4 → vp_updL g (i * 26 / 64) y k = lN (jw r k (i + 1)) := by
  intro k hk
  unfold vp_updL
  by_cases e : k = i * 26 / 64
  · subst e; rw [if_pos rfl, hy]
  · rw [if_neg e, hI k hk, jw_same (fun q => e q.symm) (by omega)]
theorem jn_s2 {r : Nat → Nat} {g : Nat → Int64} {i : Nat} {y z : Int64} (hI : ∀ k, k < 4 → g k = lN (jw r k i)) (hy : y = lN (jw r (i * 26 / 64) (i + 1))) (hz : z = lN (jw r (i * 26 / 64 + 1) (i + 1))) : ∀ k, k < 4 → vp_updL (vp_updL g (i * 26 / 64) y) (i * 26 / 64 + 1) z k = lN (jw r k (i + 1)) := by
  intro k hk
  unfold vp_updL
  by_cases e : k = i * 26 / 64 + 1
  · subst e; rw [if_pos rfl, hz]
  · rw [if_neg e]
    by_cases e2 : k = i * 26 / 64
    · subst e2; rw [if_pos rfl, hy]
    · rw [if_neg e2, hI k hk, jw_same (fun q => e2 q.symm) (by omega)]
theorem rl_a {f : Nat → Int64} {i : Nat} (h : i * 26 % 64 + 26 ≤ 64 ∨ 4 ≤ i * 26 / 64 + 1) : rl f i = uw (f (i * 26 / 64)) / 2 ^ (i * 26 % 64) % 67108864 := by
  unfold rl
  rw [if_neg (by omega)]
theorem rl_b {f : Nat → Int64} {i : Nat} (h : 64 < i * 26 % 64 + 26) (h2 : i * 26 / 64 + 1 < 4) : rl f i = (uw (f (i * 26 / 64)) / 2 ^ (i * 26 % 64) + (uw (f (i * 26 / 64 + 1)) % 2 ^ (i * 26 % 64)) * 2 ^ (64 - i * 26 % 64)) % 67108864 := by
  unfold rl
  rw [if_pos ⟨h, h2⟩]
theorem rd_s {f g : Nat → Int64} {i : Nat} {y : Int64} (hI : ∀ j, j < i → fI g j = (rl f j : Int)) (hy : y.toInt = (rl f i : Int)) : ∀ j, j < i + 1 → fI (vp_updL g i y) j = (rl f j : Int) := by
  intro j hj
  by_cases e : j = i
  · subst e; rw [fI_us, hy]
  · rw [fI_un e]; exact hI j (by omega)
/-- a number to the power P - 2, bit by bit: bits 254 to 0, all 1 but for bits 4 and 2 -/
def pw (z : Int) : Nat → Int
  | 0 => 1
  | i + 1 => if i = 250 ∨ i = 252 then pw z i * pw z i else pw z i * pw z i * z
theorem pw_1 (z : Int) : pw z 1 = z := by
  show (if 0 = 250 ∨ 0 = 252 then (1 : Int) * 1 else 1 * 1 * z) = z
  rw [if_neg (by omega)]
  omega
theorem pw_a {z : Int} {i : Nat} (h : i = 250 ∨ i = 252) : pw z (i + 1) = pw z i * pw z i := if_pos h
theorem pw_b {z : Int} {i : Nat} (h : ¬ (i = 250 ∨ i = 252)) : pw z (i + 1) = pw z i * pw z i * z := if_neg h
theorem wv_lt255 {f : Nat → Int64} (h : wv f < 57896044618658097711785492504343953926634992332820282019728792003956564819968) : uw (f 3) < 9223372036854775808 := by
  unfold wv at h
  omega
end
section
set_option maxRecDepth 100000 in
set_option maxHeartbeats 4000000 in
theorem c_foldTop (l : Launch) (D : va_G) (cA : ClassId) (tys : List (ClassId × FieldType)) (X : va_W) (L : List Nat) (n : Nat → Nat) (q : Nat → Nat → Int64) (a : Nat) (ha : a ∈ L ∧ n a = 10) (hq : ∀ j, j < 10 → 0 ≤ fI (q a) j ∧ fI (q a) j < 4611686018427387904) : zCv l D ((cA, .long) :: tys) yX0_foldTop wsX0_foldTop ({ frames := 0, cells := 0, slots := 0, locals := 0 }) [.ref a] (X ++ PL cA L n q) (fun u => ∃ g, FoldP (q a) g ∧ u = X ++ PL cA L n (va_up q a g)) := by
  refine z_met (fun A => va_Qv (fun u => ∃ g, FoldP (q a) g ∧ u = X ++ PL cA L n (va_up q a g)) (zB D ((cA, .long) :: tys) A) A) (by decide) rfl (Nat.le_of_ble_eq_true rfl) ?_
  intro p e s m below meth c hx hb hr hml hts hown hlocks hname A hA hP hK hD hS ls hl
  have hown : s.vm.findClass RX0 = some m.cls := hown
  have hl : lv_has ls 2 [(0, .ref a)] := hl
  refine lv_iconst (v := nI 0) hx hb dX0_foldTop_0 (by decide) ?_
  refine lv_istore_n (lv' := [(1, .int (nI 0)), (0, .ref a)]) hx hb dX0_foldTop_1 rfl hl (by decide) rfl (fun ls hl => ?_)
  refine z_loop (fun i H locs ls => ∃ g : Nat → Int64, Icf (q a) g i ∧ zH D A s.heap (X ++ PL cA L n (va_up q a g)) H locs ∧ lv_has ls 2 [(1, .int (nI i)), (0, .ref a)]) 9 ?_ ?_ ?_
  · exact ⟨q a, Icf_0 (hq 0 (by omega)), by rw [up_id]; exact ⟨hP, hD, hS⟩, hl⟩
  · rintro i H locs ls hi ⟨g, hI, ⟨hP, hD, hS⟩, hl⟩ ih
    refine lv_iload_n hx hb dX0_foldTop_2 rfl (lv_at hl 0 rfl) ?_
    refine lv_bipush (v := nI 9) hx hb dX0_foldTop_3 (by decide) ?_
    refine lv_icmp_ge (tgt := 37) hx hb dX0_foldTop_5 (by decide) (fun c5 => absurd ((nI_leI (by omega) (by omega)).mp c5) (by omega)) (fun c5 => ?_)
    refine lv_aload_n hx hb dX0_foldTop_8 rfl (lv_at hl 1 rfl) ?_
    refine lv_iload_n hx hb dX0_foldTop_9 rfl (lv_at hl 0 rfl) ?_
    refine lv_iconst (v := nI 1) hx hb dX0_foldTop_10 (by decide) ?_
    refine lv_iadd hx hb dX0_foldTop_11 ?_
    refine zi (nI_add _ _) ?_
    refine lv_dup2_11 hx hb dX0_foldTop_12 rfl rfl ?_
    refine z_ld hx hb hK hP ha (i + 1) rfl (by omega) (by omega) dX0_foldTop_13 ?_
    refine lv_topl (fun v13 e13 => ?_)
    refine lv_aload_n hx hb dX0_foldTop_14 rfl (lv_at hl 1 rfl) ?_
    refine lv_iload_n hx hb dX0_foldTop_15 rfl (lv_at hl 0 rfl) ?_
    refine z_ld hx hb hK hP ha i rfl (by omega) (by omega) dX0_foldTop_16 ?_
    refine lv_topl (fun v16 e16 => ?_)
    refine lv_bipush (v := nI 26) hx hb dX0_foldTop_17 (by decide) ?_
    refine lv_lshr hx hb dX0_foldTop_19 rfl ?_
    refine lv_topl (fun v19 e19 => ?_)
    refine lv_ladd hx hb dX0_foldTop_20 ?_
    refine lv_topl (fun v20 e20 => ?_)
    refine z_st hx hb hK hP hD hS ha (i + 1) rfl (by omega) (by omega) dX0_foldTop_21 (fun H locs hP hD hS => ?_)
    rw [up_uu, va_up_self] at hP hD
    rw [va_up_self] at e13 e16
    refine lv_aload_n hx hb dX0_foldTop_22 rfl (lv_at hl 1 rfl) ?_
    refine lv_iload_n hx hb dX0_foldTop_23 rfl (lv_at hl 0 rfl) ?_
    refine lv_dup2_11 hx hb dX0_foldTop_24 rfl rfl ?_
    refine z_ld hx hb hK hP ha i rfl (by omega) (by omega) dX0_foldTop_25 ?_
    refine lv_topl (fun v25 e25 => ?_)
    refine lv_ldc2 (v := 67108863) hx hb hown (hts (.constantLong RX0 57 (67108863)) (by decide +kernel)) dX0_foldTop_26 ?_
    refine lv_land hx hb dX0_foldTop_29 ?_
    refine lv_topl (fun v29 e29 => ?_)
    refine z_st hx hb hK hP hD hS ha i rfl (by omega) (by omega) dX0_foldTop_30 (fun H locs hP hD hS => ?_)
    rw [up_uu, va_up_self] at hP hD
    rw [va_up_self] at e25
    have e25 : v25 = g i := by rw [e25]; unfold vp_updL; rw [if_neg (by omega)]
    refine lv_iinc (v := nI (i + 1)) (lv' := [(1, .int (nI (i + 1))), (0, .ref a)]) hx hb dX0_foldTop_31 hl (k := 0) rfl (by show nI _ + nI 1 = _; exact nI_add _ _) (by decide) rfl (fun ls hl => ?_)
    refine lv_goto (tgt := 2) hx hb dX0_foldTop_34 (by decide) ?_
    exact ih _ _ _ ⟨_, Icf_s (x := v19) (y := v20) (z := v29) hI hi (hq (i + 1) (by omega)) (by rw [e19, e16]) (by rw [e20, e13]) (by rw [e29, e25]), ⟨hP, hD, hS⟩, hl⟩
  · rintro H locs ls ⟨g, hI, ⟨hP, hD, hS⟩, hl⟩
    refine lv_iload_n hx hb dX0_foldTop_2 rfl (lv_at hl 0 rfl) ?_
    refine lv_bipush (v := nI 9) hx hb dX0_foldTop_3 (by decide) ?_
    refine lv_icmp_ge (tgt := 37) hx hb dX0_foldTop_5 (by decide) (fun c5 => ?_) (fun c5 => absurd ((nI_leI (by omega) (by omega)).mpr (by omega)) c5)
    refine lv_aload_n hx hb dX0_foldTop_37 rfl (lv_at hl 1 rfl) ?_
    refine lv_iconst (v := nI 0) hx hb dX0_foldTop_38 (by decide) ?_
    refine lv_dup2_11 hx hb dX0_foldTop_39 rfl rfl ?_
    refine z_ld hx hb hK hP ha 0 rfl (by omega) (by omega) dX0_foldTop_40 ?_
    refine lv_topl (fun v40 e40 => ?_)
    refine lv_ldc2 (v := 19) hx hb hown (hts (.constantLong RX0 74 (19)) (by decide +kernel)) dX0_foldTop_41 ?_
    refine lv_aload_n hx hb dX0_foldTop_44 rfl (lv_at hl 1 rfl) ?_
    refine lv_bipush (v := nI 9) hx hb dX0_foldTop_45 (by decide) ?_
    refine z_ld hx hb hK hP ha 9 rfl (by omega) (by omega) dX0_foldTop_47 ?_
    refine lv_topl (fun v47 e47 => ?_)
    refine lv_bipush (v := nI 21) hx hb dX0_foldTop_48 (by decide) ?_
    refine lv_lshr hx hb dX0_foldTop_50 rfl ?_
    refine lv_topl (fun v50 e50 => ?_)
    refine lv_lmul hx hb dX0_foldTop_51 ?_
    refine lv_topl (fun v51 e51 => ?_)
    refine lv_ladd hx hb dX0_foldTop_52 ?_
    refine lv_topl (fun v52 e52 => ?_)
    refine z_st hx hb hK hP hD hS ha 0 rfl (by omega) (by omega) dX0_foldTop_53 (fun H locs hP hD hS => ?_)
    rw [up_uu, va_up_self] at hP hD
    rw [va_up_self] at e40 e47
    refine lv_aload_n hx hb dX0_foldTop_54 rfl (lv_at hl 1 rfl) ?_
    refine lv_bipush (v := nI 9) hx hb dX0_foldTop_55 (by decide) ?_
    refine lv_dup2_11 hx hb dX0_foldTop_57 rfl rfl ?_
    refine z_ld hx hb hK hP ha 9 rfl (by omega) (by omega) dX0_foldTop_58 ?_
    refine lv_topl (fun v58 e58 => ?_)
    refine lv_ldc2 (v := 2097151) hx hb hown (hts (.constantLong RX0 76 (2097151)) (by decide +kernel)) dX0_foldTop_59 ?_
    refine lv_land hx hb dX0_foldTop_62 ?_
    refine lv_topl (fun v62 e62 => ?_)
    refine z_st hx hb hK hP hD hS ha 9 rfl (by omega) (by omega) dX0_foldTop_63 (fun H locs hP hD hS => ?_)
    rw [up_uu, va_up_self] at hP hD
    rw [va_up_self] at e58
    have e58 : v58 = g 9 := by rw [e58]; unfold vp_updL; rw [if_neg (by omega)]
    exact z_vret hx hb hr hlocks dX0_foldTop_64 hK hP hD hS (⟨_, Icf_e (a := v50) (b := v51) (y := v52) (z := v62) hI (by rw [e50, e47]) e51 (by rw [e52, e40]) (by rw [e62, e58]), rfl⟩)
set_option maxRecDepth 100000 in
set_option maxHeartbeats 4000000 in
theorem c_read (l : Launch) (D : va_G) (cA : ClassId) (tys : List (ClassId × FieldType)) (X : va_W) (L : List Nat) (n : Nat → Nat) (q : Nat → Nat → Int64) (a w : Nat) (ha : a ∈ L ∧ n a = 10) (hw : w ∈ L ∧ n w = 4) (hq : uw (q w 3) < 9223372036854775808) : zCv l D ((cA, .long) :: tys) yX0_read wsX0_read ({ frames := 0, cells := 0, slots := 0, locals := 0 }) [.ref a, .ref w] (X ++ PL cA L n q) (fun u => ∃ g, settled g ∧ fv g = (wv (q w) : Int) ∧ u = X ++ PL cA L n (va_up q a g)) := by
  refine z_met (fun A => va_Qv (fun u => ∃ g, settled g ∧ fv g = (wv (q w) : Int) ∧ u = X ++ PL cA L n (va_up q a g)) (zB D ((cA, .long) :: tys) A) A) (by decide) rfl (Nat.le_of_ble_eq_true rfl) ?_
  intro p e s m below meth c hx hb hr hml hts hown hlocks hname A hA hP hK hD hS ls hl
  have hown : s.vm.findClass RX0 = some m.cls := hown
  have hl : lv_has ls 7 [(0, .ref a), (1, .ref w)] := hl
  have nw : w ≠ a := fun e => by rw [e, ha.2] at hw; omega
  refine lv_iconst (v := nI 0) hx hb dX0_read_0 (by decide) ?_
  refine lv_istore_n (lv' := [(2, .int (nI 0)), (0, .ref a), (1, .ref w)]) hx hb dX0_read_1 rfl hl (by decide) rfl (fun ls hl => ?_)
  refine z_loop (fun i H locs ls => ∃ g : Nat → Int64, (∀ j, j < i → fI g j = (rl (q w) j : Int)) ∧ zH D A s.heap (X ++ PL cA L n (va_up q a g)) H locs ∧ lv_has ls 7 [(2, .int (nI i)), (0, .ref a), (1, .ref w)]) 10 ?_ ?_ ?_
  · exact ⟨q a, fun j h => by omega, by rw [up_id]; exact ⟨hP, hD, hS⟩, hl⟩
  · rintro i H locs ls hi ⟨g, hI, ⟨hP, hD, hS⟩, hl⟩ ih
    refine lv_iload_n hx hb dX0_read_2 rfl (lv_at hl 0 rfl) ?_
    refine lv_bipush (v := nI 10) hx hb dX0_read_3 (by decide) ?_
    refine lv_icmp_ge (tgt := 81) hx hb dX0_read_5 (by decide) (fun c5 => absurd ((nI_leI (by omega) (by omega)).mp c5) (by omega)) (fun c5 => ?_)
    refine lv_iload_n hx hb dX0_read_8 rfl (lv_at hl 0 rfl) ?_
    refine lv_bipush (v := nI 26) hx hb dX0_read_9 (by decide) ?_
    refine lv_imul hx hb dX0_read_11 ?_
    refine zi (pk_mul _ _) ?_
    refine lv_bipush (v := nI 6) hx hb dX0_read_12 (by decide) ?_
    refine lv_ishr hx hb dX0_read_14 ?_
    refine zi (y := nI (i * 26 / 64)) (pk_shrN (by omega) _ 6 (by decide)) ?_
    refine lv_istore_n (lv' := [(3, .int (nI (i * 26 / 64))), (2, .int (nI i)), (0, .ref a), (1, .ref w)]) hx hb dX0_read_15 rfl hl (by decide) rfl (fun ls hl => ?_)
    refine lv_iload_n hx hb dX0_read_16 rfl (lv_at hl 1 rfl) ?_
    refine lv_bipush (v := nI 26) hx hb dX0_read_17 (by decide) ?_
    refine lv_imul hx hb dX0_read_19 ?_
    refine zi (pk_mul _ _) ?_
    refine lv_bipush (v := nI 63) hx hb dX0_read_20 (by decide) ?_
    refine lv_iand hx hb dX0_read_22 ?_
    refine zi (y := nI (i * 26 % 64)) (pk_andN (by omega) 6 (by decide)) ?_
    refine lv_istore (lv' := [(4, .int (nI (i * 26 % 64))), (3, .int (nI (i * 26 / 64))), (2, .int (nI i)), (0, .ref a), (1, .ref w)]) hx hb dX0_read_23 hl (by decide) rfl (fun ls hl => ?_)
    refine lv_aload_n hx hb dX0_read_25 rfl (lv_at hl 4 rfl) ?_
    refine lv_iload_n hx hb dX0_read_26 rfl (lv_at hl 1 rfl) ?_
    refine z_ld hx hb hK hP hw (i * 26 / 64) rfl (by omega) (by omega) dX0_read_27 ?_
    refine lv_topl (fun v27 e27 => ?_)
    refine lv_iload hx hb dX0_read_28 (lv_at hl 0 rfl) ?_
    refine lv_lushr hx hb dX0_read_30 rfl ?_
    refine lv_topl (fun v30 e30 => ?_)
    refine lv_lstore (lv' := [(5, .long v30), (4, .int (nI (i * 26 % 64))), (3, .int (nI (i * 26 / 64))), (2, .int (nI i)), (0, .ref a), (1, .ref w)]) hx hb dX0_read_31 hl (by decide) rfl (fun ls hl => ?_)
    refine lv_iload hx hb dX0_read_33 (lv_at hl 1 rfl) ?_
    refine lv_bipush (v := nI 26) hx hb dX0_read_35 (by decide) ?_
    refine lv_iadd hx hb dX0_read_37 ?_
    refine zi (nI_add _ _) ?_
    refine lv_bipush (v := nI 64) hx hb dX0_read_38 (by decide) ?_
    rw [va_up_ne _ _ nw] at e27
    refine lv_icmp_le (tgt := 66) hx hb dX0_read_40 (by decide) (fun c40 => ?_) (fun c40 => ?_)
    · have c := (nI_leI (by omega) (by omega)).mp c40
      refine lv_aload_n hx hb dX0_read_66 rfl (lv_at hl 4 rfl) ?_
      refine lv_iload_n hx hb dX0_read_67 rfl (lv_at hl 3 rfl) ?_
      refine lv_lload hx hb dX0_read_68 (lv_at hl 0 rfl) ?_
      refine lv_ldc2 (v := 67108863) hx hb hown (hts (.constantLong RX0 57 (67108863)) (by decide +kernel)) dX0_read_70 ?_
      refine lv_land hx hb dX0_read_73 ?_
      refine lv_topl (fun v73 e73 => ?_)
      refine z_st hx hb hK hP hD hS ha i rfl (by omega) (by omega) dX0_read_74 (fun H locs hP hD hS => ?_)
      rw [up_uu, va_up_self] at hP hD
      refine lv_iinc (v := nI (i + 1)) (lv' := [(2, .int (nI (i + 1))), (5, .long v30), (4, .int (nI (i * 26 % 64))), (3, .int (nI (i * 26 / 64))), (0, .ref a), (1, .ref w)]) hx hb dX0_read_75 hl (k := 3) rfl (by show nI _ + nI 1 = _; exact nI_add _ _) (by decide) rfl (fun ls hl => ?_)
      refine lv_goto (tgt := 2) hx hb dX0_read_78 (by decide) ?_
      exact ih _ _ _ ⟨_, rd_s (y := v73) hI (by rw [e73]; rw [rl_a (Or.inl c), ← e27]; exact rd_a (v := v30) (by omega) e30), ⟨hP, hD, hS⟩, lv_sub hl [0, 4, 5] rfl⟩
    · have c : 64 < i * 26 % 64 + 26 := Nat.lt_of_not_le fun h => c40 ((nI_leI (by omega) (by omega)).mpr h)
      refine lv_iload_n hx hb dX0_read_43 rfl (lv_at hl 2 rfl) ?_
      refine lv_iconst (v := nI 1) hx hb dX0_read_44 (by decide) ?_
      refine lv_iadd hx hb dX0_read_45 ?_
      refine zi (nI_add _ _) ?_
      refine lv_iconst (v := nI 4) hx hb dX0_read_46 (by decide) ?_
      refine lv_icmp_ge (tgt := 66) hx hb dX0_read_47 (by decide) (fun c47 => ?_) (fun c47 => ?_)
      · have c2 := (nI_leI (by omega) (by omega)).mp c47
        refine lv_aload_n hx hb dX0_read_66 rfl (lv_at hl 4 rfl) ?_
        refine lv_iload_n hx hb dX0_read_67 rfl (lv_at hl 3 rfl) ?_
        refine lv_lload hx hb dX0_read_68 (lv_at hl 0 rfl) ?_
        refine lv_ldc2 (v := 67108863) hx hb hown (hts (.constantLong RX0 57 (67108863)) (by decide +kernel)) dX0_read_70 ?_
        refine lv_land hx hb dX0_read_73 ?_
        refine lv_topl (fun v73 e73 => ?_)
        refine z_st hx hb hK hP hD hS ha i rfl (by omega) (by omega) dX0_read_74 (fun H locs hP hD hS => ?_)
        rw [up_uu, va_up_self] at hP hD
        refine lv_iinc (v := nI (i + 1)) (lv' := [(2, .int (nI (i + 1))), (5, .long v30), (4, .int (nI (i * 26 % 64))), (3, .int (nI (i * 26 / 64))), (0, .ref a), (1, .ref w)]) hx hb dX0_read_75 hl (k := 3) rfl (by show nI _ + nI 1 = _; exact nI_add _ _) (by decide) rfl (fun ls hl => ?_)
        refine lv_goto (tgt := 2) hx hb dX0_read_78 (by decide) ?_
        exact ih _ _ _ ⟨_, rd_s (y := v73) hI (by rw [e73]; rw [rl_a (Or.inr c2), ← e27]; exact rd_a (v := v30) (by omega) e30), ⟨hP, hD, hS⟩, lv_sub hl [0, 4, 5] rfl⟩
      · have c2 : i * 26 / 64 + 1 < 4 := Nat.lt_of_not_le fun h => c47 ((nI_leI (by omega) (by omega)).mpr h)
        refine lv_lload hx hb dX0_read_50 (lv_at hl 0 rfl) ?_
        refine lv_aload_n hx hb dX0_read_52 rfl (lv_at hl 5 rfl) ?_
        refine lv_iload_n hx hb dX0_read_53 rfl (lv_at hl 2 rfl) ?_
        refine lv_iconst (v := nI 1) hx hb dX0_read_54 (by decide) ?_
        refine lv_iadd hx hb dX0_read_55 ?_
        refine zi (nI_add _ _) ?_
        refine z_ld hx hb hK hP hw ((i * 26 / 64) + 1) rfl (by omega) (by omega) dX0_read_56 ?_
        refine lv_topl (fun v56 e56 => ?_)
        refine lv_bipush (v := nI 64) hx hb dX0_read_57 (by decide) ?_
        refine lv_iload hx hb dX0_read_59 (lv_at hl 1 rfl) ?_
        refine lv_isub hx hb dX0_read_61 ?_
        refine zi (pk_sub (by omega)) ?_
        refine lv_lshl hx hb dX0_read_62 rfl ?_
        refine lv_topl (fun v62 e62 => ?_)
        refine lv_lor hx hb dX0_read_63 ?_
        refine lv_topl (fun v63 e63 => ?_)
        refine lv_lstore (lv' := [(5, .long v63), (4, .int (nI (i * 26 % 64))), (3, .int (nI (i * 26 / 64))), (2, .int (nI i)), (0, .ref a), (1, .ref w)]) hx hb dX0_read_64 hl (by decide) rfl (fun ls hl => ?_)
        rw [va_up_ne _ _ nw] at e56
        refine lv_aload_n hx hb dX0_read_66 rfl (lv_at hl 4 rfl) ?_
        refine lv_iload_n hx hb dX0_read_67 rfl (lv_at hl 3 rfl) ?_
        refine lv_lload hx hb dX0_read_68 (lv_at hl 0 rfl) ?_
        refine lv_ldc2 (v := 67108863) hx hb hown (hts (.constantLong RX0 57 (67108863)) (by decide +kernel)) dX0_read_70 ?_
        refine lv_land hx hb dX0_read_73 ?_
        refine lv_topl (fun v73 e73 => ?_)
        refine z_st hx hb hK hP hD hS ha i rfl (by omega) (by omega) dX0_read_74 (fun H locs hP hD hS => ?_)
        rw [up_uu, va_up_self] at hP hD
        refine lv_iinc (v := nI (i + 1)) (lv' := [(2, .int (nI (i + 1))), (5, .long v63), (4, .int (nI (i * 26 % 64))), (3, .int (nI (i * 26 / 64))), (0, .ref a), (1, .ref w)]) hx hb dX0_read_75 hl (k := 3) rfl (by show nI _ + nI 1 = _; exact nI_add _ _) (by decide) rfl (fun ls hl => ?_)
        refine lv_goto (tgt := 2) hx hb dX0_read_78 (by decide) ?_
        exact ih _ _ _ ⟨_, rd_s (y := v73) hI (by rw [e73]; rw [rl_b c c2, ← e27, ← e56]; exact rd_b (v := v30) (w := v62) (z := v63) (by omega) (by omega) e30 e62 e63), ⟨hP, hD, hS⟩, lv_sub hl [0, 4, 5] rfl⟩
  · rintro H locs ls ⟨g, hI, ⟨hP, hD, hS⟩, hl⟩
    refine lv_iload_n hx hb dX0_read_2 rfl (lv_at hl 0 rfl) ?_
    refine lv_bipush (v := nI 10) hx hb dX0_read_3 (by decide) ?_
    refine lv_icmp_ge (tgt := 81) hx hb dX0_read_5 (by decide) (fun c5 => ?_) (fun c5 => absurd ((nI_leI (by omega) (by omega)).mpr (by omega)) c5)
    exact z_vret hx hb hr hlocks dX0_read_81 hK hP hD hS (⟨g, (read_fold hq hI).1, (read_fold hq hI).2, rfl⟩)
set_option maxRecDepth 100000 in
set_option maxHeartbeats 4000000 in
theorem c_join (l : Launch) (D : va_G) (cA : ClassId) (tys : List (ClassId × FieldType)) (X : va_W) (L : List Nat) (n : Nat → Nat) (q : Nat → Nat → Int64) (w a : Nat) (hw : w ∈ L ∧ n w = 4) (ha : a ∈ L ∧ n a = 10) (hq : ∀ j, j < 10 → 0 ≤ fI (q a) j ∧ fI (q a) j < 67108864) (hq9 : fI (q a) 9 < 2097152) : zCv l D ((cA, .long) :: tys) yX0_join wsX0_join ({ frames := 1, cells := 0, slots := 0, locals := 24 }) [.ref w, .ref a] (X ++ PL cA L n q) (fun u => ∃ g, (wv g : Int) = fv (q a) ∧ u = X ++ PL cA L n (va_up q w g)) := by
  refine z_met (fun A => va_Qv (fun u => ∃ g, (wv g : Int) = fv (q a) ∧ u = X ++ PL cA L n (va_up q w g)) (zB D ((cA, .long) :: tys) A) A) (by decide) rfl (Nat.le_of_ble_eq_true rfl) ?_
  intro p e s m below meth c hx hb hr hml hts hown hlocks hname A hA hP hK hD hS ls hl
  have hown : s.vm.findClass RX0 = some m.cls := hown
  have hl : lv_has ls 5 [(0, .ref w), (1, .ref a)] := hl
  have na : a ≠ w := fun e => by rw [e, hw.2] at ha; omega
  have hrr : ∀ j, j < 10 → uw (q a j) < 67108864 := fun j hj => by have h1 := hq j hj; have h2 := uw_nn (x := q a j) h1.1; rw [fI_at] at h1; omega
  have hr9 : uw (q a 9) < 2097152 := by have h1 := hq 9 (by omega); have h2 := uw_nn (x := q a 9) h1.1; rw [fI_at] at hq9; omega
  generalize hrd : (fun j => uw (q a j)) = r at *
  have hra : ∀ j, r j = uw (q a j) := fun j => by rw [← hrd]
  have hrr : ∀ j, j < 10 → r j < 67108864 := fun j hj => by rw [hra]; exact hrr j hj
  refine lv_aload_n hx hb dX0_join_0 rfl (lv_at hl 0 rfl) ?_
  refine lv_lconst (v := 0) hx hb dX0_join_1 (by decide) ?_
  refine z_callv (va_runS (As := [.ref w, .long 0]) (rest := []) ⟨hx, hb, hml, hown, hts⟩ (c_fill l D cA tys X L n q w 0 4 hw (by decide) _) (va_cwS 2 hts gX0_join_J7_fill_d0a16 rfl rfl rfl (by decide +kernel) ⟨Nat.le_of_ble_eq_true rfl, Nat.le_of_ble_eq_true rfl⟩) (z_preS _ hK hP hD) rfl rfl hl.1 rfl (lv_room (Nat.le_of_ble_eq_true rfl)) dX0_join_2 ⟨Nat.le_of_ble_eq_true rfl, Nat.le_of_ble_eq_true rfl⟩) hD hS hA (fun u H locs hu hP hD hS => ?_)
  subst hu
  refine lv_iconst (v := nI 0) hx hb dX0_join_5 (by decide) ?_
  refine lv_istore_n (lv' := [(2, .int (nI 0)), (0, .ref w), (1, .ref a)]) hx hb dX0_join_6 rfl hl (by decide) rfl (fun ls hl => ?_)
  refine z_loop (fun i H locs ls => ∃ g : Nat → Int64, (∀ k, k < 4 → g k = lN (jw r k i)) ∧ zH D A s.heap (X ++ PL cA L n (va_up q w g)) H locs ∧ lv_has ls 5 [(2, .int (nI i)), (0, .ref w), (1, .ref a)]) 10 ?_ ?_ ?_
  · exact ⟨_, fun k hk => if_pos hk, ⟨hP, hD, hS⟩, hl⟩
  · rintro i H locs ls hi ⟨g, hI, ⟨hP, hD, hS⟩, hl⟩ ih
    refine lv_iload_n hx hb dX0_join_7 rfl (lv_at hl 0 rfl) ?_
    refine lv_bipush (v := nI 10) hx hb dX0_join_8 (by decide) ?_
    refine lv_icmp_ge (tgt := 82) hx hb dX0_join_10 (by decide) (fun c10 => absurd ((nI_leI (by omega) (by omega)).mp c10) (by omega)) (fun c10 => ?_)
    refine lv_iload_n hx hb dX0_join_13 rfl (lv_at hl 0 rfl) ?_
    refine lv_bipush (v := nI 26) hx hb dX0_join_14 (by decide) ?_
    refine lv_imul hx hb dX0_join_16 ?_
    refine zi (pk_mul _ _) ?_
    refine lv_bipush (v := nI 6) hx hb dX0_join_17 (by decide) ?_
    refine lv_ishr hx hb dX0_join_19 ?_
    refine zi (y := nI (i * 26 / 64)) (pk_shrN (by omega) _ 6 (by decide)) ?_
    refine lv_istore_n (lv' := [(3, .int (nI (i * 26 / 64))), (2, .int (nI i)), (0, .ref w), (1, .ref a)]) hx hb dX0_join_20 rfl hl (by decide) rfl (fun ls hl => ?_)
    refine lv_iload_n hx hb dX0_join_21 rfl (lv_at hl 1 rfl) ?_
    refine lv_bipush (v := nI 26) hx hb dX0_join_22 (by decide) ?_
    refine lv_imul hx hb dX0_join_24 ?_
    refine zi (pk_mul _ _) ?_
    refine lv_bipush (v := nI 63) hx hb dX0_join_25 (by decide) ?_
    refine lv_iand hx hb dX0_join_27 ?_
    refine zi (y := nI (i * 26 % 64)) (pk_andN (by omega) 6 (by decide)) ?_
    refine lv_istore (lv' := [(4, .int (nI (i * 26 % 64))), (3, .int (nI (i * 26 / 64))), (2, .int (nI i)), (0, .ref w), (1, .ref a)]) hx hb dX0_join_28 hl (by decide) rfl (fun ls hl => ?_)
    refine lv_aload_n hx hb dX0_join_30 rfl (lv_at hl 3 rfl) ?_
    refine lv_iload_n hx hb dX0_join_31 rfl (lv_at hl 1 rfl) ?_
    refine lv_dup2_11 hx hb dX0_join_32 rfl rfl ?_
    refine z_ld hx hb hK hP hw (i * 26 / 64) rfl (by omega) (by omega) dX0_join_33 ?_
    refine lv_topl (fun v33 e33 => ?_)
    refine lv_aload_n hx hb dX0_join_34 rfl (lv_at hl 4 rfl) ?_
    refine lv_iload_n hx hb dX0_join_35 rfl (lv_at hl 2 rfl) ?_
    refine z_ld hx hb hK hP ha i rfl (by omega) (by omega) dX0_join_36 ?_
    refine lv_topl (fun v36 e36 => ?_)
    refine lv_iload hx hb dX0_join_37 (lv_at hl 0 rfl) ?_
    refine lv_lshl hx hb dX0_join_39 rfl ?_
    refine lv_topl (fun v39 e39 => ?_)
    refine lv_lor hx hb dX0_join_40 ?_
    refine lv_topl (fun v40 e40 => ?_)
    refine z_st hx hb hK hP hD hS hw (i * 26 / 64) rfl (by omega) (by omega) dX0_join_41 (fun H locs hP hD hS => ?_)
    rw [up_uu, va_up_self] at hP hD
    rw [va_up_self, hI _ (by omega)] at e33
    rw [va_up_ne _ _ na] at e36
    have k1 := jn_a (y := v36) (z := v39) hrr hi e33 (by rw [e36, hra]) e39 e40
    refine lv_iload hx hb dX0_join_42 (lv_at hl 0 rfl) ?_
    refine lv_bipush (v := nI 26) hx hb dX0_join_44 (by decide) ?_
    refine lv_iadd hx hb dX0_join_46 ?_
    refine zi (nI_add _ _) ?_
    refine lv_bipush (v := nI 64) hx hb dX0_join_47 (by decide) ?_
    refine lv_icmp_le (tgt := 76) hx hb dX0_join_49 (by decide) (fun c49 => ?_) (fun c49 => ?_)
    · have c := (nI_leI (by omega) (by omega)).mp c49
      refine lv_iinc (v := nI (i + 1)) (lv' := [(2, .int (nI (i + 1))), (4, .int (nI (i * 26 % 64))), (3, .int (nI (i * 26 / 64))), (0, .ref w), (1, .ref a)]) hx hb dX0_join_76 hl (k := 2) rfl (by show nI _ + nI 1 = _; exact nI_add _ _) (by decide) rfl (fun ls hl => ?_)
      refine lv_goto (tgt := 7) hx hb dX0_join_79 (by decide) ?_
      exact ih _ _ _ ⟨_, jn_s1 hI k1 (Or.inl (by omega)), ⟨hP, hD, hS⟩, lv_sub hl [0, 3, 4] rfl⟩
    · have c : 64 < i * 26 % 64 + 26 := Nat.lt_of_not_le fun h => c49 ((nI_leI (by omega) (by omega)).mpr h)
      refine lv_iload_n hx hb dX0_join_52 rfl (lv_at hl 1 rfl) ?_
      refine lv_iconst (v := nI 1) hx hb dX0_join_53 (by decide) ?_
      refine lv_iadd hx hb dX0_join_54 ?_
      refine zi (nI_add _ _) ?_
      refine lv_iconst (v := nI 4) hx hb dX0_join_55 (by decide) ?_
      refine lv_icmp_ge (tgt := 76) hx hb dX0_join_56 (by decide) (fun c56 => ?_) (fun c56 => ?_)
      · have c2 := (nI_leI (by omega) (by omega)).mp c56
        refine lv_iinc (v := nI (i + 1)) (lv' := [(2, .int (nI (i + 1))), (4, .int (nI (i * 26 % 64))), (3, .int (nI (i * 26 / 64))), (0, .ref w), (1, .ref a)]) hx hb dX0_join_76 hl (k := 2) rfl (by show nI _ + nI 1 = _; exact nI_add _ _) (by decide) rfl (fun ls hl => ?_)
        refine lv_goto (tgt := 7) hx hb dX0_join_79 (by decide) ?_
        exact ih _ _ _ ⟨_, jn_s1 hI k1 (Or.inr c2), ⟨hP, hD, hS⟩, lv_sub hl [0, 3, 4] rfl⟩
      · have c2 : i * 26 / 64 + 1 < 4 := Nat.lt_of_not_le fun h => c56 ((nI_leI (by omega) (by omega)).mpr h)
        refine lv_aload_n hx hb dX0_join_59 rfl (lv_at hl 3 rfl) ?_
        refine lv_iload_n hx hb dX0_join_60 rfl (lv_at hl 1 rfl) ?_
        refine lv_iconst (v := nI 1) hx hb dX0_join_61 (by decide) ?_
        refine lv_iadd hx hb dX0_join_62 ?_
        refine zi (nI_add _ _) ?_
        refine lv_dup2_11 hx hb dX0_join_63 rfl rfl ?_
        refine z_ld hx hb hK hP hw ((i * 26 / 64) + 1) rfl (by omega) (by omega) dX0_join_64 ?_
        refine lv_topl (fun v64 e64 => ?_)
        refine lv_aload_n hx hb dX0_join_65 rfl (lv_at hl 4 rfl) ?_
        refine lv_iload_n hx hb dX0_join_66 rfl (lv_at hl 2 rfl) ?_
        refine z_ld hx hb hK hP ha i rfl (by omega) (by omega) dX0_join_67 ?_
        refine lv_topl (fun v67 e67 => ?_)
        refine lv_bipush (v := nI 64) hx hb dX0_join_68 (by decide) ?_
        refine lv_iload hx hb dX0_join_70 (lv_at hl 0 rfl) ?_
        refine lv_isub hx hb dX0_join_72 ?_
        refine zi (pk_sub (by omega)) ?_
        refine lv_lushr hx hb dX0_join_73 rfl ?_
        refine lv_topl (fun v73 e73 => ?_)
        refine lv_lor hx hb dX0_join_74 ?_
        refine lv_topl (fun v74 e74 => ?_)
        refine z_st hx hb hK hP hD hS hw ((i * 26 / 64) + 1) rfl (by omega) (by omega) dX0_join_75 (fun H locs hP hD hS => ?_)
        rw [up_uu, va_up_self] at hP hD
        rw [va_up_self] at e64
        rw [va_up_ne _ _ na] at e67
        have e64 : v64 = lN (jw r (i * 26 / 64 + 1) i) := by rw [e64]; unfold vp_updL; rw [if_neg (by omega), hI _ c2]
        have k2 := jn_b (y := v67) (z := v73) hrr hi c e64 (by rw [e67, hra]) e73 e74
        refine lv_iinc (v := nI (i + 1)) (lv' := [(2, .int (nI (i + 1))), (4, .int (nI (i * 26 % 64))), (3, .int (nI (i * 26 / 64))), (0, .ref w), (1, .ref a)]) hx hb dX0_join_76 hl (k := 2) rfl (by show nI _ + nI 1 = _; exact nI_add _ _) (by decide) rfl (fun ls hl => ?_)
        refine lv_goto (tgt := 7) hx hb dX0_join_79 (by decide) ?_
        exact ih _ _ _ ⟨_, jn_s2 hI k1 k2, ⟨hP, hD, hS⟩, lv_sub hl [0, 3, 4] rfl⟩
  · rintro H locs ls ⟨g, hI, ⟨hP, hD, hS⟩, hl⟩
    refine lv_iload_n hx hb dX0_join_7 rfl (lv_at hl 0 rfl) ?_
    refine lv_bipush (v := nI 10) hx hb dX0_join_8 (by decide) ?_
    refine lv_icmp_ge (tgt := 82) hx hb dX0_join_10 (by decide) (fun c10 => ?_) (fun c10 => absurd ((nI_leI (by omega) (by omega)).mpr (by omega)) c10)
    have hj := join_fold hrr (by rw [hra]; exact hr9) hI
    rw [sv_congr (g := fI (q a)) (fun j hj => by rw [hra, fI_at]; exact uw_nn (hq j hj).1)] at hj
    exact z_vret hx hb hr hlocks dX0_join_82 hK hP hD hS (⟨g, hj, rfl⟩)
end
section
set_option maxRecDepth 100000 in
set_option maxHeartbeats 4000000 in
theorem c_takeRest (l : Launch) (D : va_G) (cA : ClassId) (tys : List (ClassId × FieldType)) (X : va_W) (L : List Nat) (n : Nat → Nat) (q : Nat → Nat → Int64) (w : Nat) (hw : w ∈ L ∧ n w = 4) (hq : uw (q w 3) < 9223372036854775808) : zCv l D ((cA, .long) :: tys) yX0_takeRest wsX0_takeRest ({ frames := 0, cells := 0, slots := 0, locals := 0 }) [.ref w] (X ++ PL cA L n q) (fun u => ∃ g, wv g = wv (q w) % nP ∧ u = X ++ PL cA L n (va_up q w g)) := by
  refine z_met (fun A => va_Qv (fun u => ∃ g, wv g = wv (q w) % nP ∧ u = X ++ PL cA L n (va_up q w g)) (zB D ((cA, .long) :: tys) A) A) (by decide) rfl (Nat.le_of_ble_eq_true rfl) ?_
  intro p e s m below meth c hx hb hr hml hts hown hlocks hname A hA hP hK hD hS ls hl
  have hown : s.vm.findClass RX0 = some m.cls := hown
  have hl : lv_has ls 2 [(0, .ref w)] := hl
  refine lv_aload_n hx hb dX0_takeRest_0 rfl (lv_at hl 0 rfl) ?_
  refine lv_iconst (v := nI 3) hx hb dX0_takeRest_1 (by decide) ?_
  refine z_ld hx hb hK hP hw 3 rfl (by omega) (by omega) dX0_takeRest_2 ?_
  refine lv_topl (fun v2 e2 => ?_)
  refine lv_ldc2 (v := 9223372036854775807) hx hb hown (hts (.constantLong RX0 68 (9223372036854775807)) (by decide +kernel)) dX0_takeRest_3 ?_
  refine W.lcmp hx hb dX0_takeRest_6 ?_
  refine lv_if_ne (tgt := 34) hx hb dX0_takeRest_7 (by decide) (fun c7 => ?_) (fun c7 => ?_)
  · have hc := cmp_ne c7
    refine lv_iconst (v := nI 0) hx hb dX0_takeRest_34 (by decide) ?_
    refine lv_istore_n (lv' := [(1, .int (nI 0)), (0, .ref w)]) hx hb dX0_takeRest_35 rfl hl (by decide) rfl (fun ls hl => ?_)
    refine lv_iload_n hx hb dX0_takeRest_36 rfl (lv_at hl 0 rfl) ?_
    refine lv_if_eq (tgt := 79) hx hb dX0_takeRest_37 (by decide) (fun c37 => ?_) (fun c37 => absurd rfl c37)
    exact z_vret hx hb hr hlocks dX0_takeRest_79 hK hP hD hS (⟨q w, rest_lo hq (fun h => hc (by rw [e2]; exact h.1)), by rw [up_id]⟩)
  · have k3 := (lg_cmp_eq _ _).mp c7
    refine lv_aload_n hx hb dX0_takeRest_10 rfl (lv_at hl 0 rfl) ?_
    refine lv_iconst (v := nI 2) hx hb dX0_takeRest_11 (by decide) ?_
    refine z_ld hx hb hK hP hw 2 rfl (by omega) (by omega) dX0_takeRest_12 ?_
    refine lv_topl (fun v12 e12 => ?_)
    refine lv_ldc2 (v := (-1)) hx hb hown (hts (.constantLong RX0 70 (-1)) (by decide +kernel)) dX0_takeRest_13 ?_
    refine W.lcmp hx hb dX0_takeRest_16 ?_
    refine lv_if_ne (tgt := 34) hx hb dX0_takeRest_17 (by decide) (fun c17 => ?_) (fun c17 => ?_)
    · have hc := cmp_ne c17
      refine lv_iconst (v := nI 0) hx hb dX0_takeRest_34 (by decide) ?_
      refine lv_istore_n (lv' := [(1, .int (nI 0)), (0, .ref w)]) hx hb dX0_takeRest_35 rfl hl (by decide) rfl (fun ls hl => ?_)
      refine lv_iload_n hx hb dX0_takeRest_36 rfl (lv_at hl 0 rfl) ?_
      refine lv_if_eq (tgt := 79) hx hb dX0_takeRest_37 (by decide) (fun c37 => ?_) (fun c37 => absurd rfl c37)
      exact z_vret hx hb hr hlocks dX0_takeRest_79 hK hP hD hS (⟨q w, rest_lo hq (fun h => hc (by rw [e12]; exact h.2.1)), by rw [up_id]⟩)
    · have k2 := (lg_cmp_eq _ _).mp c17
      refine lv_aload_n hx hb dX0_takeRest_20 rfl (lv_at hl 0 rfl) ?_
      refine lv_iconst (v := nI 1) hx hb dX0_takeRest_21 (by decide) ?_
      refine z_ld hx hb hK hP hw 1 rfl (by omega) (by omega) dX0_takeRest_22 ?_
      refine lv_topl (fun v22 e22 => ?_)
      refine lv_ldc2 (v := (-1)) hx hb hown (hts (.constantLong RX0 70 (-1)) (by decide +kernel)) dX0_takeRest_23 ?_
      refine W.lcmp hx hb dX0_takeRest_26 ?_
      refine lv_if_ne (tgt := 34) hx hb dX0_takeRest_27 (by decide) (fun c27 => ?_) (fun c27 => ?_)
      · have hc := cmp_ne c27
        refine lv_iconst (v := nI 0) hx hb dX0_takeRest_34 (by decide) ?_
        refine lv_istore_n (lv' := [(1, .int (nI 0)), (0, .ref w)]) hx hb dX0_takeRest_35 rfl hl (by decide) rfl (fun ls hl => ?_)
        refine lv_iload_n hx hb dX0_takeRest_36 rfl (lv_at hl 0 rfl) ?_
        refine lv_if_eq (tgt := 79) hx hb dX0_takeRest_37 (by decide) (fun c37 => ?_) (fun c37 => absurd rfl c37)
        exact z_vret hx hb hr hlocks dX0_takeRest_79 hK hP hD hS (⟨q w, rest_lo hq (fun h => hc (by rw [e22]; exact h.2.2.1)), by rw [up_id]⟩)
      · have k1 := (lg_cmp_eq _ _).mp c27
        refine lv_iconst (v := nI 1) hx hb dX0_takeRest_30 (by decide) ?_
        refine lv_goto (tgt := 35) hx hb dX0_takeRest_31 (by decide) ?_
        refine lv_istore_n (lv' := [(1, .int (nI 1)), (0, .ref w)]) hx hb dX0_takeRest_35 rfl hl (by decide) rfl (fun ls hl => ?_)
        refine lv_iload_n hx hb dX0_takeRest_36 rfl (lv_at hl 0 rfl) ?_
        refine lv_if_eq (tgt := 79) hx hb dX0_takeRest_37 (by decide) (fun c37 => absurd c37 (by decide)) (fun c37 => ?_)
        refine lv_aload_n hx hb dX0_takeRest_40 rfl (lv_at hl 1 rfl) ?_
        refine lv_iconst (v := nI 0) hx hb dX0_takeRest_41 (by decide) ?_
        refine z_ld hx hb hK hP hw 0 rfl (by omega) (by omega) dX0_takeRest_42 ?_
        refine lv_topl (fun v42 e42 => ?_)
        refine lv_ldc2 (v := (-19)) hx hb hown (hts (.constantLong RX0 72 (-19)) (by decide +kernel)) dX0_takeRest_43 ?_
        refine W.lcmp hx hb dX0_takeRest_46 ?_
        refine lv_if_lt (tgt := 79) hx hb dX0_takeRest_47 (by decide) (fun c47 => ?_) (fun c47 => ?_)
        · have hc := (lg_cmp_lt _ _).mp c47
          exact z_vret hx hb hr hlocks dX0_takeRest_79 hK hP hD hS (⟨q w, rest_lo hq (fun h => h.2.2.2.1 (by rw [← e42]; exact hc)), by rw [up_id]⟩)
        · have k0 := fun h => c47 ((lg_cmp_lt _ _).mpr h)
          refine lv_aload_n hx hb dX0_takeRest_50 rfl (lv_at hl 1 rfl) ?_
          refine lv_iconst (v := nI 0) hx hb dX0_takeRest_51 (by decide) ?_
          refine z_ld hx hb hK hP hw 0 rfl (by omega) (by omega) dX0_takeRest_52 ?_
          refine lv_topl (fun v52 e52 => ?_)
          refine lv_lconst (v := 0) hx hb dX0_takeRest_53 (by decide) ?_
          refine W.lcmp hx hb dX0_takeRest_54 ?_
          refine lv_if_ge (tgt := 79) hx hb dX0_takeRest_55 (by decide) (fun c55 => ?_) (fun c55 => ?_)
          · have hc := (lg_cmp_ge _ _).mp c55
            exact z_vret hx hb hr hlocks dX0_takeRest_79 hK hP hD hS (⟨q w, rest_lo hq (fun h => absurd h.2.2.2.2 (by rw [← e52]; exact Int64.not_lt.mpr hc)), by rw [up_id]⟩)
          · have k00 : v52 < 0 := Int64.not_le.mp fun h => c55 ((lg_cmp_ge _ _).mpr h)
            refine lv_aload_n hx hb dX0_takeRest_58 rfl (lv_at hl 1 rfl) ?_
            refine lv_iconst (v := nI 0) hx hb dX0_takeRest_59 (by decide) ?_
            refine lv_dup2_11 hx hb dX0_takeRest_60 rfl rfl ?_
            refine z_ld hx hb hK hP hw 0 rfl (by omega) (by omega) dX0_takeRest_61 ?_
            refine lv_topl (fun v61 e61 => ?_)
            refine lv_ldc2 (v := 19) hx hb hown (hts (.constantLong RX0 74 (19)) (by decide +kernel)) dX0_takeRest_62 ?_
            refine lv_ladd hx hb dX0_takeRest_65 ?_
            refine lv_topl (fun v65 e65 => ?_)
            refine z_st hx hb hK hP hD hS hw 0 rfl (by omega) (by omega) dX0_takeRest_66 (fun H locs hP hD hS => ?_)
            refine lv_aload_n hx hb dX0_takeRest_67 rfl (lv_at hl 1 rfl) ?_
            refine lv_iconst (v := nI 1) hx hb dX0_takeRest_68 (by decide) ?_
            refine lv_lconst (v := 0) hx hb dX0_takeRest_69 (by decide) ?_
            refine z_st hx hb hK hP hD hS hw 1 rfl (by omega) (by omega) dX0_takeRest_70 (fun H locs hP hD hS => ?_)
            refine lv_aload_n hx hb dX0_takeRest_71 rfl (lv_at hl 1 rfl) ?_
            refine lv_iconst (v := nI 2) hx hb dX0_takeRest_72 (by decide) ?_
            refine lv_lconst (v := 0) hx hb dX0_takeRest_73 (by decide) ?_
            refine z_st hx hb hK hP hD hS hw 2 rfl (by omega) (by omega) dX0_takeRest_74 (fun H locs hP hD hS => ?_)
            refine lv_aload_n hx hb dX0_takeRest_75 rfl (lv_at hl 1 rfl) ?_
            refine lv_iconst (v := nI 3) hx hb dX0_takeRest_76 (by decide) ?_
            refine lv_lconst (v := 0) hx hb dX0_takeRest_77 (by decide) ?_
            refine z_st hx hb hK hP hD hS hw 3 rfl (by omega) (by omega) dX0_takeRest_78 (fun H locs hP hD hS => ?_)
            simp only [up_uu, va_up_self] at hP hD
            have hz := rest_hi (f := q w) (y := v65) (by rw [← e2]; exact k3) (by rw [← e12]; exact k2) (by rw [← e22]; exact k1) (by rw [← e42]; exact k0) (by rw [← e52]; exact k00) (by rw [e65, e61])
            exact z_vret hx hb hr hlocks dX0_takeRest_79 hK hP hD hS (⟨_, by rw [← hz]; exact wv_congr (fun k hk => by rcases (show k = 0 ∨ k = 1 ∨ k = 2 ∨ k = 3 by omega) with rfl | rfl | rfl | rfl <;> simp [vp_updL]), rfl⟩)
set_option maxRecDepth 100000 in
set_option maxHeartbeats 4000000 in
theorem c_write (l : Launch) (D : va_G) (cA : ClassId) (tys : List (ClassId × FieldType)) (d0 l0 : Nat × va_E) (hf wd wh : Nat) (L : List Nat) (n : Nat → Nat) (q : Nat → Nat → Int64) (w a : Nat) (hwh : wh ∈ L ∧ n wh = 10) (hw : w ∈ L ∧ n w = 4) (ha : a ∈ L ∧ n a = 10) (hq : settled (q a)) : zCv l D ((cA, .long) :: tys) yX0_write wsX0_write ({ frames := 2, cells := 0, slots := 0, locals := 48 }) [.ref hf, .ref w, .ref a] ([d0, l0, (hf, .inr (0, [.ref wd, .ref wh]))] ++ PL cA L n q) (fun u => ∃ q' : Nat → Nat → Int64, (∀ b, b ≠ w → b ≠ wh → q' b = q b) ∧ (wv (q' w) : Int) = fv (q a) % pP ∧ u = [d0, l0, (hf, .inr (0, [.ref wd, .ref wh]))] ++ PL cA L n q') := by
  refine z_met (fun A => va_Qv (fun u => ∃ q' : Nat → Nat → Int64, (∀ b, b ≠ w → b ≠ wh → q' b = q b) ∧ (wv (q' w) : Int) = fv (q a) % pP ∧ u = [d0, l0, (hf, .inr (0, [.ref wd, .ref wh]))] ++ PL cA L n q') (zB D ((cA, .long) :: tys) A) A) (by decide) rfl (Nat.le_of_ble_eq_true rfl) ?_
  intro p e s m below meth c hx hb hr hml hts hown hlocks hname A hA hP hK hD hS ls hl
  have hown : s.vm.findClass RX0 = some m.cls := hown
  have hl : lv_has ls 3 [(0, .ref hf), (1, .ref w), (2, .ref a)] := hl
  have nw : wh ≠ w := fun e => by rw [e, hw.2] at hwh; omega
  refine lv_aload_n hx hb dX0_write_0 rfl (lv_at hl 2 rfl) ?_
  refine lv_iconst (v := nI 0) hx hb dX0_write_1 (by decide) ?_
  refine lv_aload_n hx hb dX0_write_2 rfl (lv_at hl 0 rfl) ?_
  refine va_get (D := D) (ci := 0) (v := .ref wh) (C := RX0) (T := TX0) (N := 2) hx hb hts (by decide +kernel) hown hK hP 2 rfl rfl 1 (by decide) (hts (.fieldLink RX0 19 "LadderDesk$Field" "whole" "[J") (by decide +kernel)) (fun _ h9 => h9) rfl dX0_write_3 ?_
  refine lv_iconst (v := nI 0) hx hb dX0_write_6 (by decide) ?_
  refine lv_bipush (v := nI 10) hx hb dX0_write_7 (by decide) ?_
  refine z_cp hx hb (hml.trans hl.1.symm) hown (hts (.methodLink RX0 47 arraycopyName) (by decide +kernel)) (hts (.native arraycopyName) (by decide +kernel)) (hts (.static arraycopyName) (by decide +kernel)) (hts (.initialized "java/lang/System") (by decide +kernel)) hK hP hD hS ha hwh 10 (by decide) (by decide) (by decide) (Nat.le_of_ble_eq_true rfl) (Nat.le_of_ble_eq_true rfl) dX0_write_9 (fun H locs hP hD hS => ?_)
  have s1 : settled (mpq q wh (q a) 10 wh) := settled_congr (fun j hj => by rw [mpq_to, if_pos hj]) hq
  have f1 : fv (mpq q wh (q a) 10 wh) = fv (q a) := fv_congr (fun j hj => by rw [mpq_to, if_pos hj])
  refine lv_aload_n hx hb dX0_write_12 rfl (lv_at hl 0 rfl) ?_
  refine va_get (D := D) (ci := 0) (v := .ref wh) (C := RX0) (T := TX0) (N := 2) hx hb hts (by decide +kernel) hown hK hP 2 rfl rfl 1 (by decide) (hts (.fieldLink RX0 19 "LadderDesk$Field" "whole" "[J") (by decide +kernel)) (fun _ h9 => h9) rfl dX0_write_13 ?_
  refine z_callv (va_runS (As := [.ref wh]) (rest := []) ⟨hx, hb, hml, hown, hts⟩ (c_foldTop l D cA tys [d0, l0, (hf, .inr (0, [.ref wd, .ref wh]))] L n (mpq q wh (q a) 10) wh hwh (fun j hj => by have := settled_at s1 hj; omega) _) (va_cwS 1 hts gX0_write_X0_foldTop rfl rfl rfl (by decide +kernel) ⟨Nat.le_of_ble_eq_true rfl, Nat.le_of_ble_eq_true rfl⟩) (z_preS _ hK hP hD) rfl rfl hl.1 rfl (lv_room (Nat.le_of_ble_eq_true rfl)) dX0_write_16 ⟨Nat.le_of_ble_eq_true rfl, Nat.le_of_ble_eq_true rfl⟩) hD hS hA (fun u H locs hu hP hD hS => ?_)
  obtain ⟨g1, hg1, rfl⟩ := hu
  refine lv_aload_n hx hb dX0_write_19 rfl (lv_at hl 0 rfl) ?_
  refine va_get (D := D) (ci := 0) (v := .ref wh) (C := RX0) (T := TX0) (N := 2) hx hb hts (by decide +kernel) hown hK hP 2 rfl rfl 1 (by decide) (hts (.fieldLink RX0 19 "LadderDesk$Field" "whole" "[J") (by decide +kernel)) (fun _ h9 => h9) rfl dX0_write_20 ?_
  refine z_callv (va_runS (As := [.ref wh]) (rest := []) ⟨hx, hb, hml, hown, hts⟩ (c_foldTop l D cA tys [d0, l0, (hf, .inr (0, [.ref wd, .ref wh]))] L n (va_up (mpq q wh (q a) 10) wh g1) wh hwh (fun j hj => by rw [va_up_self]; exact FoldP_lim s1 hg1 hj) _) (va_cwS 1 hts gX0_write_X0_foldTop rfl rfl rfl (by decide +kernel) ⟨Nat.le_of_ble_eq_true rfl, Nat.le_of_ble_eq_true rfl⟩) (z_preS _ hK hP hD) rfl rfl hl.1 rfl (lv_room (Nat.le_of_ble_eq_true rfl)) dX0_write_23 ⟨Nat.le_of_ble_eq_true rfl, Nat.le_of_ble_eq_true rfl⟩) hD hS hA (fun u H locs hu hP hD hS => ?_)
  obtain ⟨g2, hg2, rfl⟩ := hu
  rw [up_uu] at hP hD
  rw [va_up_self] at hg2
  obtain ⟨k1, k2, k3, k4, k5⟩ := fold_2 s1 hg1 hg2
  refine lv_aload_n hx hb dX0_write_26 rfl (lv_at hl 1 rfl) ?_
  refine lv_aload_n hx hb dX0_write_27 rfl (lv_at hl 0 rfl) ?_
  refine va_get (D := D) (ci := 0) (v := .ref wh) (C := RX0) (T := TX0) (N := 2) hx hb hts (by decide +kernel) hown hK hP 2 rfl rfl 1 (by decide) (hts (.fieldLink RX0 19 "LadderDesk$Field" "whole" "[J") (by decide +kernel)) (fun _ h9 => h9) rfl dX0_write_28 ?_
  refine z_callv (va_runS (As := [.ref w, .ref wh]) (rest := []) ⟨hx, hb, hml, hown, hts⟩ (c_join l D cA tys [d0, l0, (hf, .inr (0, [.ref wd, .ref wh]))] L n (va_up (mpq q wh (q a) 10) wh g2) w wh hw hwh (by rw [va_up_self]; exact k1) (by rw [va_up_self]; exact k2) _) (va_cwS 2 hts gX0_write_X0_join rfl rfl rfl (by decide +kernel) ⟨Nat.le_of_ble_eq_true rfl, Nat.le_of_ble_eq_true rfl⟩) (z_preS _ hK hP hD) rfl rfl hl.1 rfl (lv_room (Nat.le_of_ble_eq_true rfl)) dX0_write_31 ⟨Nat.le_of_ble_eq_true rfl, Nat.le_of_ble_eq_true rfl⟩) hD hS hA (fun u H locs hu hP hD hS => ?_)
  obtain ⟨g3, hg3, rfl⟩ := hu
  rw [va_up_self] at hg3
  refine lv_aload_n hx hb dX0_write_34 rfl (lv_at hl 1 rfl) ?_
  refine z_callv (va_runS (As := [.ref w]) (rest := []) ⟨hx, hb, hml, hown, hts⟩ (c_takeRest l D cA tys [d0, l0, (hf, .inr (0, [.ref wd, .ref wh]))] L n (va_up (va_up (mpq q wh (q a) 10) wh g2) w g3) w hw (by rw [va_up_self]; exact wv_lt255 (by omega)) _) (va_cwS 1 hts gX0_write_X0_takeRest rfl rfl rfl (by decide +kernel) ⟨Nat.le_of_ble_eq_true rfl, Nat.le_of_ble_eq_true rfl⟩) (z_preS _ hK hP hD) rfl rfl hl.1 rfl (lv_room (Nat.le_of_ble_eq_true rfl)) dX0_write_35 ⟨Nat.le_of_ble_eq_true rfl, Nat.le_of_ble_eq_true rfl⟩) hD hS hA (fun u H locs hu hP hD hS => ?_)
  obtain ⟨g4, hg4, rfl⟩ := hu
  rw [up_uu] at hP hD
  rw [va_up_self] at hg4
  exact z_vret hx hb hr hlocks dX0_write_38 hK hP hD hS (⟨_, fun b h1 h2 => by rw [va_up_ne _ _ h1, va_up_ne _ _ h2, mpq_ne h2], by rw [va_up_self, hg4, Int.natCast_emod, nP_pP, hg3, cg_emod k3, f1], rfl⟩)
set_option maxRecDepth 100000 in
set_option maxHeartbeats 4000000 in
theorem c_invert (l : Launch) (D : va_G) (cA : ClassId) (tys : List (ClassId × FieldType)) (d0 l0 : Nat × va_E) (hf wd wh : Nat) (L : List Nat) (n : Nat → Nat) (q : Nat → Nat → Int64) (to f : Nat) (z : Int) (hw : wd ∈ L ∧ n wd = 20) (hto : to ∈ L ∧ n to = 10) (hf1 : f ∈ L ∧ n f = 10) (hne : f ≠ to) (hf2 : settled (q f)) (hz : cg (fv (q f)) z) : zCv l D ((cA, .long) :: tys) yX0_invert wsX0_invert ({ frames := 3, cells := 0, slots := 0, locals := 74 }) [.ref hf, .ref to, .ref f] ([d0, l0, (hf, .inr (0, [.ref wd, .ref wh]))] ++ PL cA L n q) (fun u => ∃ q' : Nat → Nat → Int64, (∀ b, b ≠ to → b ≠ wd → q' b = q b) ∧ settled (q' to) ∧ cg (fv (q' to)) (pw z 255) ∧ u = [d0, l0, (hf, .inr (0, [.ref wd, .ref wh]))] ++ PL cA L n q') := by
  refine z_met (fun A => va_Qv (fun u => ∃ q' : Nat → Nat → Int64, (∀ b, b ≠ to → b ≠ wd → q' b = q b) ∧ settled (q' to) ∧ cg (fv (q' to)) (pw z 255) ∧ u = [d0, l0, (hf, .inr (0, [.ref wd, .ref wh]))] ++ PL cA L n q') (zB D ((cA, .long) :: tys) A) A) (by decide) rfl (Nat.le_of_ble_eq_true rfl) ?_
  intro p e s m below meth c hx hb hr hml hts hown hlocks hname A hA hP hK hD hS ls hl
  have hown : s.vm.findClass RX0 = some m.cls := hown
  have hl : lv_has ls 4 [(0, .ref hf), (1, .ref to), (2, .ref f)] := hl
  have nf : f ≠ wd := fun e => by rw [e, hw.2] at hf1; omega
  refine lv_aload_n hx hb dX0_invert_0 rfl (lv_at hl 2 rfl) ?_
  refine lv_iconst (v := nI 0) hx hb dX0_invert_1 (by decide) ?_
  refine lv_aload_n hx hb dX0_invert_2 rfl (lv_at hl 1 rfl) ?_
  refine lv_iconst (v := nI 0) hx hb dX0_invert_3 (by decide) ?_
  refine lv_bipush (v := nI 10) hx hb dX0_invert_4 (by decide) ?_
  refine z_cp hx hb (hml.trans hl.1.symm) hown (hts (.methodLink RX0 47 arraycopyName) (by decide +kernel)) (hts (.native arraycopyName) (by decide +kernel)) (hts (.static arraycopyName) (by decide +kernel)) (hts (.initialized "java/lang/System") (by decide +kernel)) hK hP hD hS hf1 hto 10 (by decide) (by decide) (by decide) (Nat.le_of_ble_eq_true rfl) (Nat.le_of_ble_eq_true rfl) dX0_invert_6 (fun H locs hP hD hS => ?_)
  refine lv_sipush (v := nI 253) hx hb dX0_invert_9 (by decide) ?_
  refine lv_istore_n (lv' := [(3, .int (nI 253)), (0, .ref hf), (1, .ref to), (2, .ref f)]) hx hb dX0_invert_12 rfl hl (by decide) rfl (fun ls hl => ?_)
  refine z_loop (fun i H locs ls => ∃ q' : Nat → Nat → Int64, (∀ b, b ≠ to → b ≠ wd → q' b = q b) ∧ settled (q' to) ∧ cg (fv (q' to)) (pw z (i + 1)) ∧ zH D A s.heap ([d0, l0, (hf, .inr (0, [.ref wd, .ref wh]))] ++ PL cA L n q') H locs ∧ lv_has ls 4 [(3, .int (nI 253 - nI i)), (0, .ref hf), (1, .ref to), (2, .ref f)]) 254 ?_ ?_ ?_
  · exact ⟨_, fun b h1 h2 => mpq_ne h1, settled_congr (fun j hj => by rw [mpq_to, if_pos hj]) hf2, by rw [pw_1, ← fv_congr (f := q f) (fun j hj => by rw [mpq_to, if_pos hj])]; exact hz, ⟨hP, hD, hS⟩, lv_eq (by rw [show nI 253 - nI 0 = nI 253 from by decide]) hl⟩
  · rintro i H locs ls hi ⟨q1, h1, h2, h3, ⟨hP, hD, hS⟩, hl⟩ ih
    have hl : lv_has ls 4 [(3, .int (nI (253 - i))), (0, .ref hf), (1, .ref to), (2, .ref f)] := by rw [← pk_sub (show i ≤ 253 by omega)]; exact hl
    refine lv_iload_n hx hb dX0_invert_13 rfl (lv_at hl 0 rfl) ?_
    refine lv_if_lt (tgt := 47) hx hb dX0_invert_14 (by decide) (fun c14 => absurd c14 (nI_pos (by omega))) (fun c14 => ?_)
    refine lv_aload_n hx hb dX0_invert_17 rfl (lv_at hl 1 rfl) ?_
    refine lv_aload_n hx hb dX0_invert_18 rfl (lv_at hl 2 rfl) ?_
    refine lv_aload_n hx hb dX0_invert_19 rfl (lv_at hl 2 rfl) ?_
    refine lv_aload_n hx hb dX0_invert_20 rfl (lv_at hl 2 rfl) ?_
    refine z_callv (va_runV (As := [.ref to, .ref to, .ref to]) (rest := []) ⟨hx, hb, hml, hown, hts⟩ (c_multiply l D cA tys d0 l0 hf wd wh L n q1 to to to hw hto hto hto (settled_loose h2) (settled_loose h2) _) (cwV 3 hts gX0_invert_X0_multiply rfl rfl rfl (by decide +kernel) ⟨Nat.le_of_ble_eq_true rfl, Nat.le_of_ble_eq_true rfl⟩) (z_preV _ hK hP hD (ci := 0) (q0 := 2) rfl rfl) rfl rfl hl.1 rfl (lv_room (Nat.le_of_ble_eq_true rfl)) dX0_invert_21 ⟨Nat.le_of_ble_eq_true rfl, Nat.le_of_ble_eq_true rfl⟩) hD hS hA (fun u H locs hu hP hD hS => ?_)
    obtain ⟨q2, j1, j2, j3, rfl⟩ := hu
    have j3 := cg_trans j3 (cg_mul h3 h3)
    have jf : q2 f = q f := by rw [j1 f hne nf, h1 f hne nf]
    refine lv_iload_n hx hb dX0_invert_24 rfl (lv_at hl 0 rfl) ?_
    refine lv_iconst (v := nI 4) hx hb dX0_invert_25 (by decide) ?_
    refine lv_icmp_eq (tgt := 41) hx hb dX0_invert_26 (by decide) (fun c26 => ?_) (fun c26 => ?_)
    · have c := (nI_eq (by omega) (by omega)).mp c26
      refine lv_iinc (v := nI 253 - nI (i + 1)) (lv' := [(3, .int (nI 253 - nI (i + 1))), (0, .ref hf), (1, .ref to), (2, .ref f)]) hx hb dX0_invert_41 hl (k := 0) rfl (dn_step i hi) (by decide) rfl (fun ls hl => ?_)
      refine lv_goto (tgt := 13) hx hb dX0_invert_44 (by decide) ?_
      exact ih _ _ _ ⟨q2, fun b k1 k2 => by rw [j1 b k1 k2, h1 b k1 k2], j2, by rw [pw_a (Or.inl (by omega))]; exact j3, ⟨hP, hD, hS⟩, hl⟩
    · have c : ¬ 253 - i = 4 := fun h => c26 (by rw [h])
      refine lv_iload_n hx hb dX0_invert_29 rfl (lv_at hl 0 rfl) ?_
      refine lv_iconst (v := nI 2) hx hb dX0_invert_30 (by decide) ?_
      refine lv_icmp_eq (tgt := 41) hx hb dX0_invert_31 (by decide) (fun c31 => ?_) (fun c31 => ?_)
      · have c2 := (nI_eq (by omega) (by omega)).mp c31
        refine lv_iinc (v := nI 253 - nI (i + 1)) (lv' := [(3, .int (nI 253 - nI (i + 1))), (0, .ref hf), (1, .ref to), (2, .ref f)]) hx hb dX0_invert_41 hl (k := 0) rfl (dn_step i hi) (by decide) rfl (fun ls hl => ?_)
        refine lv_goto (tgt := 13) hx hb dX0_invert_44 (by decide) ?_
        exact ih _ _ _ ⟨q2, fun b k1 k2 => by rw [j1 b k1 k2, h1 b k1 k2], j2, by rw [pw_a (Or.inr (by omega))]; exact j3, ⟨hP, hD, hS⟩, hl⟩
      · have c2 : ¬ 253 - i = 2 := fun h => c31 (by rw [h])
        refine lv_aload_n hx hb dX0_invert_34 rfl (lv_at hl 1 rfl) ?_
        refine lv_aload_n hx hb dX0_invert_35 rfl (lv_at hl 2 rfl) ?_
        refine lv_aload_n hx hb dX0_invert_36 rfl (lv_at hl 2 rfl) ?_
        refine lv_aload_n hx hb dX0_invert_37 rfl (lv_at hl 3 rfl) ?_
        refine z_callv (va_runV (As := [.ref to, .ref to, .ref f]) (rest := []) ⟨hx, hb, hml, hown, hts⟩ (c_multiply l D cA tys d0 l0 hf wd wh L n q2 to to f hw hto hto hf1 (settled_loose j2) (by rw [jf]; exact settled_loose hf2) _) (cwV 3 hts gX0_invert_X0_multiply rfl rfl rfl (by decide +kernel) ⟨Nat.le_of_ble_eq_true rfl, Nat.le_of_ble_eq_true rfl⟩) (z_preV _ hK hP hD (ci := 0) (q0 := 2) rfl rfl) rfl rfl hl.1 rfl (lv_room (Nat.le_of_ble_eq_true rfl)) dX0_invert_38 ⟨Nat.le_of_ble_eq_true rfl, Nat.le_of_ble_eq_true rfl⟩) hD hS hA (fun u H locs hu hP hD hS => ?_)
        obtain ⟨q3, m1, m2, m3, rfl⟩ := hu
        rw [jf] at m3
        have m3 := cg_trans m3 (cg_mul j3 hz)
        refine lv_iinc (v := nI 253 - nI (i + 1)) (lv' := [(3, .int (nI 253 - nI (i + 1))), (0, .ref hf), (1, .ref to), (2, .ref f)]) hx hb dX0_invert_41 hl (k := 0) rfl (dn_step i hi) (by decide) rfl (fun ls hl => ?_)
        refine lv_goto (tgt := 13) hx hb dX0_invert_44 (by decide) ?_
        exact ih _ _ _ ⟨q3, fun b k1 k2 => by rw [m1 b k1 k2, j1 b k1 k2, h1 b k1 k2], m2, by rw [pw_b (by omega)]; exact m3, ⟨hP, hD, hS⟩, hl⟩
  · rintro H locs ls ⟨q1, h1, h2, h3, ⟨hP, hD, hS⟩, hl⟩
    refine lv_iload_n hx hb dX0_invert_13 rfl (lv_at hl 0 rfl) ?_
    refine lv_if_lt (tgt := 47) hx hb dX0_invert_14 (by decide) (fun c14 => ?_) (fun c14 => absurd (by decide) c14)
    exact z_vret hx hb hr hlocks dX0_invert_47 hK hP hD hS (⟨q1, h1, h2, h3, rfl⟩)
end
section
/-! one step of the ladder, over the integers (rests by P are taken where a number is kept) -/
def nX2 (x z : Int) : Int := ((x + z) * (x + z)) * ((x - z) * (x - z))
def nE (x z : Int) : Int := (x + z) * (x + z) - (x - z) * (x - z)
def nZ2 (x z : Int) : Int := nE x z * ((x + z) * (x + z) + 121665 * nE x z)
def nDA (x2 z2 x3 z3 : Int) : Int := (x3 - z3) * (x2 + z2)
def nCB (x2 z2 x3 z3 : Int) : Int := (x3 + z3) * (x2 - z2)
def nX3 (x2 z2 x3 z3 : Int) : Int := (nDA x2 z2 x3 z3 + nCB x2 z2 x3 z3) * (nDA x2 z2 x3 z3 + nCB x2 z2 x3 z3)
def nZ3 (u x2 z2 x3 z3 : Int) : Int := u * ((nDA x2 z2 x3 z3 - nCB x2 z2 x3 z3) * (nDA x2 z2 x3 z3 - nCB x2 z2 x3 z3))
def wX2 (b : Bool) (x2 z2 x3 z3 : Int) : Int := if b then nX3 x3 z3 x2 z2 else nX2 x2 z2
def wZ2 (b : Bool) (u x2 z2 x3 z3 : Int) : Int := if b then nZ3 u x3 z3 x2 z2 else nZ2 x2 z2
def wX3 (b : Bool) (x2 z2 x3 z3 : Int) : Int := if b then nX2 x3 z3 else nX3 x2 z2 x3 z3
def wZ3 (b : Bool) (u x2 z2 x3 z3 : Int) : Int := if b then nZ2 x3 z3 else nZ3 u x2 z2 x3 z3
/-- a settled row that stands for v -/
def holds (f : Nat → Int64) (v : Int) : Prop := settled f ∧ cg (fv f) v
theorem holds_mod {f : Nat → Int64} {v : Int} (h : holds f v) : holds f (v % pP) := ⟨h.1, cg_trans h.2 (cg_symm (cg_mod v))⟩
/-- the rows of a ladder: where they lie, how long they are, and that they are apart (by a number t for each) -/
def LW (L : List Nat) (n t : Nat → Nat) (wd wh aU aA aB aC aD aE aAA aBB aDA aCB aSP aLE aRI x2 z2 x3 z3 : Nat) : Prop :=
  ((wd ∈ L ∧ n wd = 20) ∧ (wh ∈ L ∧ n wh = 10) ∧ (aU ∈ L ∧ n aU = 10) ∧ (aA ∈ L ∧ n aA = 10) ∧ (aB ∈ L ∧ n aB = 10) ∧ (aC ∈ L ∧ n aC = 10) ∧ (aD ∈ L ∧ n aD = 10) ∧ (aE ∈ L ∧ n aE = 10) ∧ (aAA ∈ L ∧ n aAA = 10) ∧ (aBB ∈ L ∧ n aBB = 10) ∧ (aDA ∈ L ∧ n aDA = 10) ∧ (aCB ∈ L ∧ n aCB = 10) ∧ (aSP ∈ L ∧ n aSP = 10) ∧ (aLE ∈ L ∧ n aLE = 4) ∧ (aRI ∈ L ∧ n aRI = 4) ∧ (x2 ∈ L ∧ n x2 = 10) ∧ (z2 ∈ L ∧ n z2 = 10) ∧ (x3 ∈ L ∧ n x3 = 10) ∧ (z3 ∈ L ∧ n z3 = 10)) ∧
  (t wd = 0 ∧ t wh = 1 ∧ t aU = 2 ∧ t aA = 3 ∧ t aB = 4 ∧ t aC = 5 ∧ t aD = 6 ∧ t aE = 7 ∧ t aAA = 8 ∧ t aBB = 9 ∧ t aDA = 10 ∧ t aCB = 11 ∧ t aSP = 12 ∧ t aLE = 13 ∧ t aRI = 14 ∧ 20 ≤ t x2 ∧ 20 ≤ t z2 ∧ 20 ≤ t x3 ∧ 20 ≤ t z3) ∧
  (t x2 ≠ t z2 ∧ t x2 ≠ t x3 ∧ t x2 ≠ t z3 ∧ t z2 ≠ t x3 ∧ t z2 ≠ t z3 ∧ t x3 ≠ t z3)
theorem LW_swap {L : List Nat} {n t : Nat → Nat} {wd wh aU aA aB aC aD aE aAA aBB aDA aCB aSP aLE aRI x2 z2 x3 z3 : Nat} (h : LW L n t wd wh aU aA aB aC aD aE aAA aBB aDA aCB aSP aLE aRI x2 z2 x3 z3) : LW L n t wd wh aU aA aB aC aD aE aAA aBB aDA aCB aSP aLE aRI x3 z3 x2 z2 := by
  obtain ⟨⟨h0, h1, h2, h3, h4, h5, h6, h7, h8, h9, h10, h11, h12, h13, h14, h15, h16, h17, h18⟩, ⟨t0, t1, t2, t3, t4, t5, t6, t7, t8, t9, t10, t11, t12, t13, t14, t15, t16, t17, t18⟩, d1, d2, d3, d4, d5, d6⟩ := h
  exact ⟨⟨h0, h1, h2, h3, h4, h5, h6, h7, h8, h9, h10, h11, h12, h13, h14, h17, h18, h15, h16⟩, ⟨t0, t1, t2, t3, t4, t5, t6, t7, t8, t9, t10, t11, t12, t13, t14, t17, t18, t15, t16⟩, d6, fun e => d2 e.symm, fun e => d4 e.symm, fun e => d3 e.symm, fun e => d5 e.symm, d1⟩
end
section
set_option maxRecDepth 100000 in
set_option maxHeartbeats 4000000 in
theorem c_changePlaces (l : Launch) (D : va_G) (cA : ClassId) (tys : List (ClassId × FieldType)) (d0 : Nat × va_E) (ol hf : Nat) (L : List Nat) (n t : Nat → Nat) (q : Nat → Nat → Int64) (wd wh aU aA aB aC aD aE aAA aBB aDA aCB aSP aLE aRI x2 z2 x3 z3 : Nat) (hLW : LW L n t wd wh aU aA aB aC aD aE aAA aBB aDA aCB aSP aLE aRI x2 z2 x3 z3) : zCv l D ((cA, .long) :: tys) yX1_changePlaces wsX1_changePlaces ({ frames := 0, cells := 0, slots := 0, locals := 0 }) [.ref ol] ([d0, (ol, .inr (1, [.ref hf, .ref aU, .ref x2, .ref z2, .ref x3, .ref z3, .ref aA, .ref aB, .ref aC, .ref aD, .ref aE, .ref aAA, .ref aBB, .ref aDA, .ref aCB, .ref aSP, .ref aLE, .ref aRI])), (hf, .inr (0, [.ref wd, .ref wh]))] ++ PL cA L n q) (fun u => u = [d0, (ol, .inr (1, [.ref hf, .ref aU, .ref x3, .ref z3, .ref x2, .ref z2, .ref aA, .ref aB, .ref aC, .ref aD, .ref aE, .ref aAA, .ref aBB, .ref aDA, .ref aCB, .ref aSP, .ref aLE, .ref aRI])), (hf, .inr (0, [.ref wd, .ref wh]))] ++ PL cA L n q) := by
  refine z_met (fun A => va_Qv (fun u => u = [d0, (ol, .inr (1, [.ref hf, .ref aU, .ref x3, .ref z3, .ref x2, .ref z2, .ref aA, .ref aB, .ref aC, .ref aD, .ref aE, .ref aAA, .ref aBB, .ref aDA, .ref aCB, .ref aSP, .ref aLE, .ref aRI])), (hf, .inr (0, [.ref wd, .ref wh]))] ++ PL cA L n q) (zB D ((cA, .long) :: tys) A) A) (by decide) rfl (Nat.le_of_ble_eq_true rfl) ?_
  intro p e s m below meth c hx hb hr hml hts hown hlocks hname A hA hP hK hD hS ls hl
  have hown : s.vm.findClass RX1 = some m.cls := hown
  have hl : lv_has ls 3 [(0, .ref ol)] := hl
  obtain ⟨⟨m_wd, m_wh, m_aU, m_aA, m_aB, m_aC, m_aD, m_aE, m_aAA, m_aBB, m_aDA, m_aCB, m_aSP, m_aLE, m_aRI, m_x2, m_z2, m_x3, m_z3⟩, ⟨t_wd, t_wh, t_aU, t_aA, t_aB, t_aC, t_aD, t_aE, t_aAA, t_aBB, t_aDA, t_aCB, t_aSP, t_aLE, t_aRI, t_x2, t_z2, t_x3, t_z3⟩, ⟨d_0, d_1, d_2, d_3, d_4, d_5⟩⟩ := id hLW
  refine lv_aload_n hx hb dX1_changePlaces_0 rfl (lv_at hl 0 rfl) ?_
  refine va_get (D := D) (ci := 1) (v := .ref x2) (C := RX1) (T := TX1) (N := 18) hx hb hts (by decide +kernel) hown hK hP 1 rfl rfl 2 (by decide) (hts (.fieldLink RX1 26 "LadderDesk$Ladder" "x2" "[J") (by decide +kernel)) (fun _ h9 => h9) rfl dX1_changePlaces_1 ?_
  refine lv_astore_n (lv' := [(1, .ref x2), (0, .ref ol)]) hx hb dX1_changePlaces_4 rfl hl (by decide) rfl (fun ls hl => ?_)
  refine lv_aload_n hx hb dX1_changePlaces_5 rfl (lv_at hl 1 rfl) ?_
  refine lv_aload_n hx hb dX1_changePlaces_6 rfl (lv_at hl 1 rfl) ?_
  refine va_get (D := D) (ci := 1) (v := .ref x3) (C := RX1) (T := TX1) (N := 18) hx hb hts (by decide +kernel) hown hK hP 1 rfl rfl 4 (by decide) (hts (.fieldLink RX1 32 "LadderDesk$Ladder" "x3" "[J") (by decide +kernel)) (fun _ h9 => h9) rfl dX1_changePlaces_7 ?_
  refine va_put (D := D) (ci := 1) (v := .ref x3) (ty := .array .long) (C := RX1) (T := TX1) (N := 18) hx hb hts (by decide +kernel) tyX1 tyX1_ok nmX1 hown hK hP hD hS 1 rfl rfl 2 (by decide) (hts (.fieldLink RX1 26 "LadderDesk$Ladder" "x2" "[J") (by decide +kernel)) (fun _ h9 => h9) rfl (by decide +kernel) rfl rfl (Nat.le_of_ble_eq_true rfl) dX1_changePlaces_10 (fun H locs hP hD hS => ?_)
  refine lv_aload_n hx hb dX1_changePlaces_13 rfl (lv_at hl 1 rfl) ?_
  refine lv_aload_n hx hb dX1_changePlaces_14 rfl (lv_at hl 0 rfl) ?_
  refine va_put (D := D) (ci := 1) (v := .ref x2) (ty := .array .long) (C := RX1) (T := TX1) (N := 18) hx hb hts (by decide +kernel) tyX1 tyX1_ok nmX1 hown hK hP hD hS 1 rfl rfl 4 (by decide) (hts (.fieldLink RX1 32 "LadderDesk$Ladder" "x3" "[J") (by decide +kernel)) (fun _ h9 => h9) rfl (by decide +kernel) rfl rfl (Nat.le_of_ble_eq_true rfl) dX1_changePlaces_15 (fun H locs hP hD hS => ?_)
  refine lv_aload_n hx hb dX1_changePlaces_18 rfl (lv_at hl 1 rfl) ?_
  refine va_get (D := D) (ci := 1) (v := .ref z2) (C := RX1) (T := TX1) (N := 18) hx hb hts (by decide +kernel) hown hK hP 1 rfl rfl 3 (by decide) (hts (.fieldLink RX1 29 "LadderDesk$Ladder" "z2" "[J") (by decide +kernel)) (fun _ h9 => h9) rfl dX1_changePlaces_19 ?_
  refine lv_astore_n (lv' := [(2, .ref z2), (1, .ref x2), (0, .ref ol)]) hx hb dX1_changePlaces_22 rfl hl (by decide) rfl (fun ls hl => ?_)
  refine lv_aload_n hx hb dX1_changePlaces_23 rfl (lv_at hl 2 rfl) ?_
  refine lv_aload_n hx hb dX1_changePlaces_24 rfl (lv_at hl 2 rfl) ?_
  refine va_get (D := D) (ci := 1) (v := .ref z3) (C := RX1) (T := TX1) (N := 18) hx hb hts (by decide +kernel) hown hK hP 1 rfl rfl 5 (by decide) (hts (.fieldLink RX1 35 "LadderDesk$Ladder" "z3" "[J") (by decide +kernel)) (fun _ h9 => h9) rfl dX1_changePlaces_25 ?_
  refine va_put (D := D) (ci := 1) (v := .ref z3) (ty := .array .long) (C := RX1) (T := TX1) (N := 18) hx hb hts (by decide +kernel) tyX1 tyX1_ok nmX1 hown hK hP hD hS 1 rfl rfl 3 (by decide) (hts (.fieldLink RX1 29 "LadderDesk$Ladder" "z2" "[J") (by decide +kernel)) (fun _ h9 => h9) rfl (by decide +kernel) rfl rfl (Nat.le_of_ble_eq_true rfl) dX1_changePlaces_28 (fun H locs hP hD hS => ?_)
  refine lv_aload_n hx hb dX1_changePlaces_31 rfl (lv_at hl 2 rfl) ?_
  refine lv_aload_n hx hb dX1_changePlaces_32 rfl (lv_at hl 0 rfl) ?_
  refine va_put (D := D) (ci := 1) (v := .ref z2) (ty := .array .long) (C := RX1) (T := TX1) (N := 18) hx hb hts (by decide +kernel) tyX1 tyX1_ok nmX1 hown hK hP hD hS 1 rfl rfl 5 (by decide) (hts (.fieldLink RX1 35 "LadderDesk$Ladder" "z3" "[J") (by decide +kernel)) (fun _ h9 => h9) rfl (by decide +kernel) rfl rfl (Nat.le_of_ble_eq_true rfl) dX1_changePlaces_33 (fun H locs hP hD hS => ?_)
  have hP : va_P D vwCl ([d0, (ol, .inr (1, [.ref hf, .ref aU, .ref x3, .ref z3, .ref x2, .ref z2, .ref aA, .ref aB, .ref aC, .ref aD, .ref aE, .ref aAA, .ref aBB, .ref aDA, .ref aCB, .ref aSP, .ref aLE, .ref aRI])), (hf, .inr (0, [.ref wd, .ref wh]))] ++ PL cA L n q) H := hP
  have hD : va_D A ([d0, (ol, .inr (1, [.ref hf, .ref aU, .ref x3, .ref z3, .ref x2, .ref z2, .ref aA, .ref aB, .ref aC, .ref aD, .ref aE, .ref aAA, .ref aBB, .ref aDA, .ref aCB, .ref aSP, .ref aLE, .ref aRI])), (hf, .inr (0, [.ref wd, .ref wh]))] ++ PL cA L n q) := hD
  exact z_vret hx hb hr hlocks dX1_changePlaces_36 hK hP hD hS (rfl)
set_option maxRecDepth 100000 in
set_option maxHeartbeats 4000000 in
theorem c_makeSums (l : Launch) (D : va_G) (cA : ClassId) (tys : List (ClassId × FieldType)) (d0 : Nat × va_E) (ol hf : Nat) (L : List Nat) (n t : Nat → Nat) (q : Nat → Nat → Int64) (wd wh aU aA aB aC aD aE aAA aBB aDA aCB aSP aLE aRI x2 z2 x3 z3 : Nat) (hLW : LW L n t wd wh aU aA aB aC aD aE aAA aBB aDA aCB aSP aLE aRI x2 z2 x3 z3) (vx2 vz2 vx3 vz3 : Int) (hx2 : holds (q x2) vx2) (hz2 : holds (q z2) vz2) (hx3 : holds (q x3) vx3) (hz3 : holds (q z3) vz3) : zCv l D ((cA, .long) :: tys) yX1_makeSums wsX1_makeSums ({ frames := 1, cells := 0, slots := 0, locals := 23 }) [.ref ol] ([d0, (ol, .inr (1, [.ref hf, .ref aU, .ref x2, .ref z2, .ref x3, .ref z3, .ref aA, .ref aB, .ref aC, .ref aD, .ref aE, .ref aAA, .ref aBB, .ref aDA, .ref aCB, .ref aSP, .ref aLE, .ref aRI])), (hf, .inr (0, [.ref wd, .ref wh]))] ++ PL cA L n q) (fun u => ∃ q' : Nat → Nat → Int64, (∀ b, t b ≤ 2 ∨ 7 ≤ t b → q' b = q b) ∧ (loose (q' aA) ∧ cg (fv (q' aA)) (vx2 + vz2)) ∧ (loose (q' aB) ∧ cg (fv (q' aB)) (vx2 - vz2)) ∧ (loose (q' aC) ∧ cg (fv (q' aC)) (vx3 + vz3)) ∧ (loose (q' aD) ∧ cg (fv (q' aD)) (vx3 - vz3)) ∧ u = [d0, (ol, .inr (1, [.ref hf, .ref aU, .ref x2, .ref z2, .ref x3, .ref z3, .ref aA, .ref aB, .ref aC, .ref aD, .ref aE, .ref aAA, .ref aBB, .ref aDA, .ref aCB, .ref aSP, .ref aLE, .ref aRI])), (hf, .inr (0, [.ref wd, .ref wh]))] ++ PL cA L n q') := by
  refine z_met (fun A => va_Qv (fun u => ∃ q' : Nat → Nat → Int64, (∀ b, t b ≤ 2 ∨ 7 ≤ t b → q' b = q b) ∧ (loose (q' aA) ∧ cg (fv (q' aA)) (vx2 + vz2)) ∧ (loose (q' aB) ∧ cg (fv (q' aB)) (vx2 - vz2)) ∧ (loose (q' aC) ∧ cg (fv (q' aC)) (vx3 + vz3)) ∧ (loose (q' aD) ∧ cg (fv (q' aD)) (vx3 - vz3)) ∧ u = [d0, (ol, .inr (1, [.ref hf, .ref aU, .ref x2, .ref z2, .ref x3, .ref z3, .ref aA, .ref aB, .ref aC, .ref aD, .ref aE, .ref aAA, .ref aBB, .ref aDA, .ref aCB, .ref aSP, .ref aLE, .ref aRI])), (hf, .inr (0, [.ref wd, .ref wh]))] ++ PL cA L n q') (zB D ((cA, .long) :: tys) A) A) (by decide) rfl (Nat.le_of_ble_eq_true rfl) ?_
  intro p e s m below meth c hx hb hr hml hts hown hlocks hname A hA hP hK hD hS ls hl
  have hown : s.vm.findClass RX1 = some m.cls := hown
  have hl : lv_has ls 1 [(0, .ref ol)] := hl
  obtain ⟨⟨m_wd, m_wh, m_aU, m_aA, m_aB, m_aC, m_aD, m_aE, m_aAA, m_aBB, m_aDA, m_aCB, m_aSP, m_aLE, m_aRI, m_x2, m_z2, m_x3, m_z3⟩, ⟨t_wd, t_wh, t_aU, t_aA, t_aB, t_aC, t_aD, t_aE, t_aAA, t_aBB, t_aDA, t_aCB, t_aSP, t_aLE, t_aRI, t_x2, t_z2, t_x3, t_z3⟩, ⟨d_0, d_1, d_2, d_3, d_4, d_5⟩⟩ := id hLW
  refine lv_aload_n hx hb dX1_makeSums_0 rfl (lv_at hl 0 rfl) ?_
  refine va_get (D := D) (ci := 1) (v := .ref aA) (C := RX1) (T := TX1) (N := 18) hx hb hts (by decide +kernel) hown hK hP 1 rfl rfl 6 (by decide) (hts (.fieldLink RX1 38 "LadderDesk$Ladder" "a" "[J") (by decide +kernel)) (fun _ h9 => h9) rfl dX1_makeSums_1 ?_
  refine lv_aload_n hx hb dX1_makeSums_4 rfl (lv_at hl 0 rfl) ?_
  refine va_get (D := D) (ci := 1) (v := .ref x2) (C := RX1) (T := TX1) (N := 18) hx hb hts (by decide +kernel) hown hK hP 1 rfl rfl 2 (by decide) (hts (.fieldLink RX1 26 "LadderDesk$Ladder" "x2" "[J") (by decide +kernel)) (fun _ h9 => h9) rfl dX1_makeSums_5 ?_
  refine lv_aload_n hx hb dX1_makeSums_8 rfl (lv_at hl 0 rfl) ?_
  refine va_get (D := D) (ci := 1) (v := .ref z2) (C := RX1) (T := TX1) (N := 18) hx hb hts (by decide +kernel) hown hK hP 1 rfl rfl 3 (by decide) (hts (.fieldLink RX1 29 "LadderDesk$Ladder" "z2" "[J") (by decide +kernel)) (fun _ h9 => h9) rfl dX1_makeSums_9 ?_
  refine z_callv (va_runS (As := [.ref aA, .ref x2, .ref z2]) (rest := []) ⟨hx, hb, hml, hown, hts⟩ (c_add l D cA tys [d0, (ol, .inr (1, [.ref hf, .ref aU, .ref x2, .ref z2, .ref x3, .ref z3, .ref aA, .ref aB, .ref aC, .ref aD, .ref aE, .ref aAA, .ref aBB, .ref aDA, .ref aCB, .ref aSP, .ref aLE, .ref aRI])), (hf, .inr (0, [.ref wd, .ref wh]))] L n q aA x2 z2 m_aA m_x2 m_z2 _) (va_cwS 3 hts gX1_makeSums_X0_add rfl rfl rfl (by decide +kernel) ⟨Nat.le_of_ble_eq_true rfl, Nat.le_of_ble_eq_true rfl⟩) (z_preS _ hK hP hD) rfl rfl hl.1 rfl (lv_room (Nat.le_of_ble_eq_true rfl)) dX1_makeSums_12 ⟨Nat.le_of_ble_eq_true rfl, Nat.le_of_ble_eq_true rfl⟩) hD hS hA (fun u H locs hu hP hD hS => ?_)
  subst hu
  obtain ⟨q1, hq1⟩ : ∃ z, z = mpq q aA (fun j => q x2 j + q z2 j) 10 := ⟨_, rfl⟩
  rw [← hq1] at hP hD
  have k1 : ∀ b, b ≠ aA → q1 b = q b := fun b h => by rw [hq1, mpq_ne h]
  have s1 := add_fold (t := q1 aA) hx2.1 (fun j hj => settled_363 hz2.1 hj) (fun j hj => by rw [hq1, mpq_to, if_pos hj])
  refine lv_aload_n hx hb dX1_makeSums_15 rfl (lv_at hl 0 rfl) ?_
  refine va_get (D := D) (ci := 1) (v := .ref aB) (C := RX1) (T := TX1) (N := 18) hx hb hts (by decide +kernel) hown hK hP 1 rfl rfl 7 (by decide) (hts (.fieldLink RX1 41 "LadderDesk$Ladder" "b" "[J") (by decide +kernel)) (fun _ h9 => h9) rfl dX1_makeSums_16 ?_
  refine lv_aload_n hx hb dX1_makeSums_19 rfl (lv_at hl 0 rfl) ?_
  refine va_get (D := D) (ci := 1) (v := .ref x2) (C := RX1) (T := TX1) (N := 18) hx hb hts (by decide +kernel) hown hK hP 1 rfl rfl 2 (by decide) (hts (.fieldLink RX1 26 "LadderDesk$Ladder" "x2" "[J") (by decide +kernel)) (fun _ h9 => h9) rfl dX1_makeSums_20 ?_
  refine lv_aload_n hx hb dX1_makeSums_23 rfl (lv_at hl 0 rfl) ?_
  refine va_get (D := D) (ci := 1) (v := .ref z2) (C := RX1) (T := TX1) (N := 18) hx hb hts (by decide +kernel) hown hK hP 1 rfl rfl 3 (by decide) (hts (.fieldLink RX1 29 "LadderDesk$Ladder" "z2" "[J") (by decide +kernel)) (fun _ h9 => h9) rfl dX1_makeSums_24 ?_
  refine z_callv (va_runS (As := [.ref aB, .ref x2, .ref z2]) (rest := []) ⟨hx, hb, hml, hown, hts⟩ (c_subtract l D cA tys [d0, (ol, .inr (1, [.ref hf, .ref aU, .ref x2, .ref z2, .ref x3, .ref z3, .ref aA, .ref aB, .ref aC, .ref aD, .ref aE, .ref aAA, .ref aBB, .ref aDA, .ref aCB, .ref aSP, .ref aLE, .ref aRI])), (hf, .inr (0, [.ref wd, .ref wh]))] L n q1 aB x2 z2 m_aB m_x2 m_z2 _) (va_cwS 3 hts gX1_makeSums_X0_subtract rfl rfl rfl (by decide +kernel) ⟨Nat.le_of_ble_eq_true rfl, Nat.le_of_ble_eq_true rfl⟩) (z_preS _ hK hP hD) rfl rfl hl.1 rfl (lv_room (Nat.le_of_ble_eq_true rfl)) dX1_makeSums_27 ⟨Nat.le_of_ble_eq_true rfl, Nat.le_of_ble_eq_true rfl⟩) hD hS hA (fun u H locs hu hP hD hS => ?_)
  subst hu
  obtain ⟨q2, hq2⟩ : ∃ z, z = mpq q1 aB (fun j => q1 x2 j + (if j = 0 then 134216512 else 134217726) - q1 z2 j) 10 := ⟨_, rfl⟩
  rw [← hq2] at hP hD
  have k2 : ∀ b, b ≠ aB → q2 b = q1 b := fun b h => by rw [hq2, mpq_ne h]
  have s2 := sub_fold (t := q2 aB) hx2.1 hz2.1 (fun j hj => by rw [hq2, mpq_to, if_pos hj, k1 x2 (show x2 ≠ aA from fun h => by have := congrArg t h; omega), k1 z2 (show z2 ≠ aA from fun h => by have := congrArg t h; omega)])
  refine lv_aload_n hx hb dX1_makeSums_30 rfl (lv_at hl 0 rfl) ?_
  refine va_get (D := D) (ci := 1) (v := .ref aC) (C := RX1) (T := TX1) (N := 18) hx hb hts (by decide +kernel) hown hK hP 1 rfl rfl 8 (by decide) (hts (.fieldLink RX1 44 "LadderDesk$Ladder" "c" "[J") (by decide +kernel)) (fun _ h9 => h9) rfl dX1_makeSums_31 ?_
  refine lv_aload_n hx hb dX1_makeSums_34 rfl (lv_at hl 0 rfl) ?_
  refine va_get (D := D) (ci := 1) (v := .ref x3) (C := RX1) (T := TX1) (N := 18) hx hb hts (by decide +kernel) hown hK hP 1 rfl rfl 4 (by decide) (hts (.fieldLink RX1 32 "LadderDesk$Ladder" "x3" "[J") (by decide +kernel)) (fun _ h9 => h9) rfl dX1_makeSums_35 ?_
  refine lv_aload_n hx hb dX1_makeSums_38 rfl (lv_at hl 0 rfl) ?_
  refine va_get (D := D) (ci := 1) (v := .ref z3) (C := RX1) (T := TX1) (N := 18) hx hb hts (by decide +kernel) hown hK hP 1 rfl rfl 5 (by decide) (hts (.fieldLink RX1 35 "LadderDesk$Ladder" "z3" "[J") (by decide +kernel)) (fun _ h9 => h9) rfl dX1_makeSums_39 ?_
  refine z_callv (va_runS (As := [.ref aC, .ref x3, .ref z3]) (rest := []) ⟨hx, hb, hml, hown, hts⟩ (c_add l D cA tys [d0, (ol, .inr (1, [.ref hf, .ref aU, .ref x2, .ref z2, .ref x3, .ref z3, .ref aA, .ref aB, .ref aC, .ref aD, .ref aE, .ref aAA, .ref aBB, .ref aDA, .ref aCB, .ref aSP, .ref aLE, .ref aRI])), (hf, .inr (0, [.ref wd, .ref wh]))] L n q2 aC x3 z3 m_aC m_x3 m_z3 _) (va_cwS 3 hts gX1_makeSums_X0_add rfl rfl rfl (by decide +kernel) ⟨Nat.le_of_ble_eq_true rfl, Nat.le_of_ble_eq_true rfl⟩) (z_preS _ hK hP hD) rfl rfl hl.1 rfl (lv_room (Nat.le_of_ble_eq_true rfl)) dX1_makeSums_42 ⟨Nat.le_of_ble_eq_true rfl, Nat.le_of_ble_eq_true rfl⟩) hD hS hA (fun u H locs hu hP hD hS => ?_)
  subst hu
  obtain ⟨q3, hq3⟩ : ∃ z, z = mpq q2 aC (fun j => q2 x3 j + q2 z3 j) 10 := ⟨_, rfl⟩
  rw [← hq3] at hP hD
  have k3 : ∀ b, b ≠ aC → q3 b = q2 b := fun b h => by rw [hq3, mpq_ne h]
  have s3 := add_fold (t := q3 aC) hx3.1 (fun j hj => settled_363 hz3.1 hj) (fun j hj => by rw [hq3, mpq_to, if_pos hj, k2 x3 (show x3 ≠ aB from fun h => by have := congrArg t h; omega), k2 z3 (show z3 ≠ aB from fun h => by have := congrArg t h; omega), k1 x3 (show x3 ≠ aA from fun h => by have := congrArg t h; omega), k1 z3 (show z3 ≠ aA from fun h => by have := congrArg t h; omega)])
  refine lv_aload_n hx hb dX1_makeSums_45 rfl (lv_at hl 0 rfl) ?_
  refine va_get (D := D) (ci := 1) (v := .ref aD) (C := RX1) (T := TX1) (N := 18) hx hb hts (by decide +kernel) hown hK hP 1 rfl rfl 9 (by decide) (hts (.fieldLink RX1 47 "LadderDesk$Ladder" "d" "[J") (by decide +kernel)) (fun _ h9 => h9) rfl dX1_makeSums_46 ?_
  refine lv_aload_n hx hb dX1_makeSums_49 rfl (lv_at hl 0 rfl) ?_
  refine va_get (D := D) (ci := 1) (v := .ref x3) (C := RX1) (T := TX1) (N := 18) hx hb hts (by decide +kernel) hown hK hP 1 rfl rfl 4 (by decide) (hts (.fieldLink RX1 32 "LadderDesk$Ladder" "x3" "[J") (by decide +kernel)) (fun _ h9 => h9) rfl dX1_makeSums_50 ?_
  refine lv_aload_n hx hb dX1_makeSums_53 rfl (lv_at hl 0 rfl) ?_
  refine va_get (D := D) (ci := 1) (v := .ref z3) (C := RX1) (T := TX1) (N := 18) hx hb hts (by decide +kernel) hown hK hP 1 rfl rfl 5 (by decide) (hts (.fieldLink RX1 35 "LadderDesk$Ladder" "z3" "[J") (by decide +kernel)) (fun _ h9 => h9) rfl dX1_makeSums_54 ?_
  refine z_callv (va_runS (As := [.ref aD, .ref x3, .ref z3]) (rest := []) ⟨hx, hb, hml, hown, hts⟩ (c_subtract l D cA tys [d0, (ol, .inr (1, [.ref hf, .ref aU, .ref x2, .ref z2, .ref x3, .ref z3, .ref aA, .ref aB, .ref aC, .ref aD, .ref aE, .ref aAA, .ref aBB, .ref aDA, .ref aCB, .ref aSP, .ref aLE, .ref aRI])), (hf, .inr (0, [.ref wd, .ref wh]))] L n q3 aD x3 z3 m_aD m_x3 m_z3 _) (va_cwS 3 hts gX1_makeSums_X0_subtract rfl rfl rfl (by decide +kernel) ⟨Nat.le_of_ble_eq_true rfl, Nat.le_of_ble_eq_true rfl⟩) (z_preS _ hK hP hD) rfl rfl hl.1 rfl (lv_room (Nat.le_of_ble_eq_true rfl)) dX1_makeSums_57 ⟨Nat.le_of_ble_eq_true rfl, Nat.le_of_ble_eq_true rfl⟩) hD hS hA (fun u H locs hu hP hD hS => ?_)
  subst hu
  obtain ⟨q4, hq4⟩ : ∃ z, z = mpq q3 aD (fun j => q3 x3 j + (if j = 0 then 134216512 else 134217726) - q3 z3 j) 10 := ⟨_, rfl⟩
  rw [← hq4] at hP hD
  have k4 : ∀ b, b ≠ aD → q4 b = q3 b := fun b h => by rw [hq4, mpq_ne h]
  have s4 := sub_fold (t := q4 aD) hx3.1 hz3.1 (fun j hj => by rw [hq4, mpq_to, if_pos hj, k3 x3 (show x3 ≠ aC from fun h => by have := congrArg t h; omega), k3 z3 (show z3 ≠ aC from fun h => by have := congrArg t h; omega), k2 x3 (show x3 ≠ aB from fun h => by have := congrArg t h; omega), k2 z3 (show z3 ≠ aB from fun h => by have := congrArg t h; omega), k1 x3 (show x3 ≠ aA from fun h => by have := congrArg t h; omega), k1 z3 (show z3 ≠ aA from fun h => by have := congrArg t h; omega)])
  have eA : q4 aA = q1 aA := by rw [k4 aA (show aA ≠ aD from fun h => by have := congrArg t h; omega), k3 aA (show aA ≠ aC from fun h => by have := congrArg t h; omega), k2 aA (show aA ≠ aB from fun h => by have := congrArg t h; omega)]
  have eB : q4 aB = q2 aB := by rw [k4 aB (show aB ≠ aD from fun h => by have := congrArg t h; omega), k3 aB (show aB ≠ aC from fun h => by have := congrArg t h; omega)]
  have eC : q4 aC = q3 aC := by rw [k4 aC (show aC ≠ aD from fun h => by have := congrArg t h; omega)]
  exact z_vret hx hb hr hlocks dX1_makeSums_60 hK hP hD hS (⟨q4, fun b hb => by rw [k4 b (show b ≠ aD from fun h => by have := congrArg t h; omega), k3 b (show b ≠ aC from fun h => by have := congrArg t h; omega), k2 b (show b ≠ aB from fun h => by have := congrArg t h; omega), k1 b (show b ≠ aA from fun h => by have := congrArg t h; omega)], ⟨by rw [eA]; exact s1.1, by rw [eA, s1.2]; exact cg_add hx2.2 hz2.2⟩, ⟨by rw [eB]; exact lo_of28 s2.1, by rw [eB]; exact cg_trans s2.2 (cg_sub hx2.2 hz2.2)⟩, ⟨by rw [eC]; exact s3.1, by rw [eC, s3.2]; exact cg_add hx3.2 hz3.2⟩, ⟨lo_of28 s4.1, cg_trans s4.2 (cg_sub hx3.2 hz3.2)⟩, rfl⟩)
set_option maxRecDepth 100000 in
set_option maxHeartbeats 4000000 in
theorem c_makeDouble (l : Launch) (D : va_G) (cA : ClassId) (tys : List (ClassId × FieldType)) (d0 : Nat × va_E) (ol hf : Nat) (L : List Nat) (n t : Nat → Nat) (q : Nat → Nat → Int64) (wd wh aU aA aB aC aD aE aAA aBB aDA aCB aSP aLE aRI x2 z2 x3 z3 : Nat) (hLW : LW L n t wd wh aU aA aB aC aD aE aAA aBB aDA aCB aSP aLE aRI x2 z2 x3 z3) (vx2 vz2 : Int) (hA1 : loose (q aA)) (hA2 : cg (fv (q aA)) (vx2 + vz2)) (hB1 : loose (q aB)) (hB2 : cg (fv (q aB)) (vx2 - vz2)) : zCv l D ((cA, .long) :: tys) yX1_makeDouble wsX1_makeDouble ({ frames := 3, cells := 0, slots := 0, locals := 74 }) [.ref ol] ([d0, (ol, .inr (1, [.ref hf, .ref aU, .ref x2, .ref z2, .ref x3, .ref z3, .ref aA, .ref aB, .ref aC, .ref aD, .ref aE, .ref aAA, .ref aBB, .ref aDA, .ref aCB, .ref aSP, .ref aLE, .ref aRI])), (hf, .inr (0, [.ref wd, .ref wh]))] ++ PL cA L n q) (fun u => ∃ q' : Nat → Nat → Int64, (∀ b, t b ≠ 0 → ¬ (7 ≤ t b ∧ t b ≤ 12) → b ≠ x2 → b ≠ z2 → q' b = q b) ∧ holds (q' x2) (nX2 vx2 vz2) ∧ holds (q' z2) (nZ2 vx2 vz2) ∧ u = [d0, (ol, .inr (1, [.ref hf, .ref aU, .ref x2, .ref z2, .ref x3, .ref z3, .ref aA, .ref aB, .ref aC, .ref aD, .ref aE, .ref aAA, .ref aBB, .ref aDA, .ref aCB, .ref aSP, .ref aLE, .ref aRI])), (hf, .inr (0, [.ref wd, .ref wh]))] ++ PL cA L n q') := by
  refine z_met (fun A => va_Qv (fun u => ∃ q' : Nat → Nat → Int64, (∀ b, t b ≠ 0 → ¬ (7 ≤ t b ∧ t b ≤ 12) → b ≠ x2 → b ≠ z2 → q' b = q b) ∧ holds (q' x2) (nX2 vx2 vz2) ∧ holds (q' z2) (nZ2 vx2 vz2) ∧ u = [d0, (ol, .inr (1, [.ref hf, .ref aU, .ref x2, .ref z2, .ref x3, .ref z3, .ref aA, .ref aB, .ref aC, .ref aD, .ref aE, .ref aAA, .ref aBB, .ref aDA, .ref aCB, .ref aSP, .ref aLE, .ref aRI])), (hf, .inr (0, [.ref wd, .ref wh]))] ++ PL cA L n q') (zB D ((cA, .long) :: tys) A) A) (by decide) rfl (Nat.le_of_ble_eq_true rfl) ?_
  intro p e s m below meth c hx hb hr hml hts hown hlocks hname A hA hP hK hD hS ls hl
  have hown : s.vm.findClass RX1 = some m.cls := hown
  have hl : lv_has ls 1 [(0, .ref ol)] := hl
  obtain ⟨⟨m_wd, m_wh, m_aU, m_aA, m_aB, m_aC, m_aD, m_aE, m_aAA, m_aBB, m_aDA, m_aCB, m_aSP, m_aLE, m_aRI, m_x2, m_z2, m_x3, m_z3⟩, ⟨t_wd, t_wh, t_aU, t_aA, t_aB, t_aC, t_aD, t_aE, t_aAA, t_aBB, t_aDA, t_aCB, t_aSP, t_aLE, t_aRI, t_x2, t_z2, t_x3, t_z3⟩, ⟨d_0, d_1, d_2, d_3, d_4, d_5⟩⟩ := id hLW
  refine lv_aload_n hx hb dX1_makeDouble_0 rfl (lv_at hl 0 rfl) ?_
  refine va_get (D := D) (ci := 1) (v := .ref hf) (C := RX1) (T := TX1) (N := 18) hx hb hts (by decide +kernel) hown hK hP 1 rfl rfl 0 (by decide) (hts (.fieldLink RX1 12 "LadderDesk$Ladder" "field" "LLadderDesk$Field;") (by decide +kernel)) (fun _ h9 => h9) rfl dX1_makeDouble_1 ?_
  refine lv_aload_n hx hb dX1_makeDouble_4 rfl (lv_at hl 0 rfl) ?_
  refine va_get (D := D) (ci := 1) (v := .ref aAA) (C := RX1) (T := TX1) (N := 18) hx hb hts (by decide +kernel) hown hK hP 1 rfl rfl 11 (by decide) (hts (.fieldLink RX1 53 "LadderDesk$Ladder" "aa" "[J") (by decide +kernel)) (fun _ h9 => h9) rfl dX1_makeDouble_5 ?_
  refine lv_aload_n hx hb dX1_makeDouble_8 rfl (lv_at hl 0 rfl) ?_
  refine va_get (D := D) (ci := 1) (v := .ref aA) (C := RX1) (T := TX1) (N := 18) hx hb hts (by decide +kernel) hown hK hP 1 rfl rfl 6 (by decide) (hts (.fieldLink RX1 38 "LadderDesk$Ladder" "a" "[J") (by decide +kernel)) (fun _ h9 => h9) rfl dX1_makeDouble_9 ?_
  refine lv_aload_n hx hb dX1_makeDouble_12 rfl (lv_at hl 0 rfl) ?_
  refine va_get (D := D) (ci := 1) (v := .ref aA) (C := RX1) (T := TX1) (N := 18) hx hb hts (by decide +kernel) hown hK hP 1 rfl rfl 6 (by decide) (hts (.fieldLink RX1 38 "LadderDesk$Ladder" "a" "[J") (by decide +kernel)) (fun _ h9 => h9) rfl dX1_makeDouble_13 ?_
  refine z_callv (va_runV (As := [.ref aAA, .ref aA, .ref aA]) (rest := []) ⟨hx, hb, hml, hown, hts⟩ (c_multiply l D cA tys d0 (ol, .inr (1, [.ref hf, .ref aU, .ref x2, .ref z2, .ref x3, .ref z3, .ref aA, .ref aB, .ref aC, .ref aD, .ref aE, .ref aAA, .ref aBB, .ref aDA, .ref aCB, .ref aSP, .ref aLE, .ref aRI])) hf wd wh L n q aAA aA aA m_wd m_aAA m_aA m_aA hA1 hA1 _) (cwV 3 hts gX1_makeDouble_X0_multiply rfl rfl rfl (by decide +kernel) ⟨Nat.le_of_ble_eq_true rfl, Nat.le_of_ble_eq_true rfl⟩) (z_preV _ hK hP hD (ci := 0) (q0 := 2) rfl rfl) rfl rfl hl.1 rfl (lv_room (Nat.le_of_ble_eq_true rfl)) dX1_makeDouble_16 ⟨Nat.le_of_ble_eq_true rfl, Nat.le_of_ble_eq_true rfl⟩) hD hS hA (fun u H locs hu hP hD hS => ?_)
  obtain ⟨q1, k1, s1, v1, rfl⟩ := hu
  have v1 := cg_trans v1 (cg_mul hA2 hA2)
  have eB : q1 aB = q aB := k1 aB (show aB ≠ aAA from fun h => by have := congrArg t h; omega) (show aB ≠ wd from fun h => by have := congrArg t h; omega)
  refine lv_aload_n hx hb dX1_makeDouble_19 rfl (lv_at hl 0 rfl) ?_
  refine va_get (D := D) (ci := 1) (v := .ref hf) (C := RX1) (T := TX1) (N := 18) hx hb hts (by decide +kernel) hown hK hP 1 rfl rfl 0 (by decide) (hts (.fieldLink RX1 12 "LadderDesk$Ladder" "field" "LLadderDesk$Field;") (by decide +kernel)) (fun _ h9 => h9) rfl dX1_makeDouble_20 ?_
  refine lv_aload_n hx hb dX1_makeDouble_23 rfl (lv_at hl 0 rfl) ?_
  refine va_get (D := D) (ci := 1) (v := .ref aBB) (C := RX1) (T := TX1) (N := 18) hx hb hts (by decide +kernel) hown hK hP 1 rfl rfl 12 (by decide) (hts (.fieldLink RX1 56 "LadderDesk$Ladder" "bb" "[J") (by decide +kernel)) (fun _ h9 => h9) rfl dX1_makeDouble_24 ?_
  refine lv_aload_n hx hb dX1_makeDouble_27 rfl (lv_at hl 0 rfl) ?_
  refine va_get (D := D) (ci := 1) (v := .ref aB) (C := RX1) (T := TX1) (N := 18) hx hb hts (by decide +kernel) hown hK hP 1 rfl rfl 7 (by decide) (hts (.fieldLink RX1 41 "LadderDesk$Ladder" "b" "[J") (by decide +kernel)) (fun _ h9 => h9) rfl dX1_makeDouble_28 ?_
  refine lv_aload_n hx hb dX1_makeDouble_31 rfl (lv_at hl 0 rfl) ?_
  refine va_get (D := D) (ci := 1) (v := .ref aB) (C := RX1) (T := TX1) (N := 18) hx hb hts (by decide +kernel) hown hK hP 1 rfl rfl 7 (by decide) (hts (.fieldLink RX1 41 "LadderDesk$Ladder" "b" "[J") (by decide +kernel)) (fun _ h9 => h9) rfl dX1_makeDouble_32 ?_
  refine z_callv (va_runV (As := [.ref aBB, .ref aB, .ref aB]) (rest := []) ⟨hx, hb, hml, hown, hts⟩ (c_multiply l D cA tys d0 (ol, .inr (1, [.ref hf, .ref aU, .ref x2, .ref z2, .ref x3, .ref z3, .ref aA, .ref aB, .ref aC, .ref aD, .ref aE, .ref aAA, .ref aBB, .ref aDA, .ref aCB, .ref aSP, .ref aLE, .ref aRI])) hf wd wh L n q1 aBB aB aB m_wd m_aBB m_aB m_aB (by rw [eB]; exact hB1) (by rw [eB]; exact hB1) _) (cwV 3 hts gX1_makeDouble_X0_multiply rfl rfl rfl (by decide +kernel) ⟨Nat.le_of_ble_eq_true rfl, Nat.le_of_ble_eq_true rfl⟩) (z_preV _ hK hP hD (ci := 0) (q0 := 2) rfl rfl) rfl rfl hl.1 rfl (lv_room (Nat.le_of_ble_eq_true rfl)) dX1_makeDouble_35 ⟨Nat.le_of_ble_eq_true rfl, Nat.le_of_ble_eq_true rfl⟩) hD hS hA (fun u H locs hu hP hD hS => ?_)
  obtain ⟨q2, k2, s2, v2, rfl⟩ := hu
  rw [eB] at v2
  have v2 := cg_trans v2 (cg_mul hB2 hB2)
  have e1 : q2 aAA = q1 aAA := k2 aAA (show aAA ≠ aBB from fun h => by have := congrArg t h; omega) (show aAA ≠ wd from fun h => by have := congrArg t h; omega)
  refine lv_aload_n hx hb dX1_makeDouble_38 rfl (lv_at hl 0 rfl) ?_
  refine va_get (D := D) (ci := 1) (v := .ref aE) (C := RX1) (T := TX1) (N := 18) hx hb hts (by decide +kernel) hown hK hP 1 rfl rfl 10 (by decide) (hts (.fieldLink RX1 50 "LadderDesk$Ladder" "e" "[J") (by decide +kernel)) (fun _ h9 => h9) rfl dX1_makeDouble_39 ?_
  refine lv_aload_n hx hb dX1_makeDouble_42 rfl (lv_at hl 0 rfl) ?_
  refine va_get (D := D) (ci := 1) (v := .ref aAA) (C := RX1) (T := TX1) (N := 18) hx hb hts (by decide +kernel) hown hK hP 1 rfl rfl 11 (by decide) (hts (.fieldLink RX1 53 "LadderDesk$Ladder" "aa" "[J") (by decide +kernel)) (fun _ h9 => h9) rfl dX1_makeDouble_43 ?_
  refine lv_aload_n hx hb dX1_makeDouble_46 rfl (lv_at hl 0 rfl) ?_
  refine va_get (D := D) (ci := 1) (v := .ref aBB) (C := RX1) (T := TX1) (N := 18) hx hb hts (by decide +kernel) hown hK hP 1 rfl rfl 12 (by decide) (hts (.fieldLink RX1 56 "LadderDesk$Ladder" "bb" "[J") (by decide +kernel)) (fun _ h9 => h9) rfl dX1_makeDouble_47 ?_
  refine z_callv (va_runS (As := [.ref aE, .ref aAA, .ref aBB]) (rest := []) ⟨hx, hb, hml, hown, hts⟩ (c_subtract l D cA tys [d0, (ol, .inr (1, [.ref hf, .ref aU, .ref x2, .ref z2, .ref x3, .ref z3, .ref aA, .ref aB, .ref aC, .ref aD, .ref aE, .ref aAA, .ref aBB, .ref aDA, .ref aCB, .ref aSP, .ref aLE, .ref aRI])), (hf, .inr (0, [.ref wd, .ref wh]))] L n q2 aE aAA aBB m_aE m_aAA m_aBB _) (va_cwS 3 hts gX1_makeDouble_X0_subtract rfl rfl rfl (by decide +kernel) ⟨Nat.le_of_ble_eq_true rfl, Nat.le_of_ble_eq_true rfl⟩) (z_preS _ hK hP hD) rfl rfl hl.1 rfl (lv_room (Nat.le_of_ble_eq_true rfl)) dX1_makeDouble_50 ⟨Nat.le_of_ble_eq_true rfl, Nat.le_of_ble_eq_true rfl⟩) hD hS hA (fun u H locs hu hP hD hS => ?_)
  subst hu
  obtain ⟨q3, hq3⟩ : ∃ z, z = mpq q2 aE (fun j => q2 aAA j + (if j = 0 then 134216512 else 134217726) - q2 aBB j) 10 := ⟨_, rfl⟩
  rw [← hq3] at hP hD
  have k3 : ∀ b, b ≠ aE → q3 b = q2 b := fun b h => by rw [hq3, mpq_ne h]
  have s3 := sub_fold (f := q1 aAA) (h := q2 aBB) (t := q3 aE) s1 s2 (fun j hj => by rw [hq3, mpq_to, if_pos hj, e1])
  have v3 : cg (fv (q3 aE)) (nE vx2 vz2) := cg_trans s3.2 (cg_sub v1 v2)
  have e2 : q3 aAA = q1 aAA := by rw [k3 aAA (show aAA ≠ aE from fun h => by have := congrArg t h; omega), e1]
  have e3 : q3 aBB = q2 aBB := k3 aBB (show aBB ≠ aE from fun h => by have := congrArg t h; omega)
  refine lv_aload_n hx hb dX1_makeDouble_53 rfl (lv_at hl 0 rfl) ?_
  refine va_get (D := D) (ci := 1) (v := .ref hf) (C := RX1) (T := TX1) (N := 18) hx hb hts (by decide +kernel) hown hK hP 1 rfl rfl 0 (by decide) (hts (.fieldLink RX1 12 "LadderDesk$Ladder" "field" "LLadderDesk$Field;") (by decide +kernel)) (fun _ h9 => h9) rfl dX1_makeDouble_54 ?_
  refine lv_aload_n hx hb dX1_makeDouble_57 rfl (lv_at hl 0 rfl) ?_
  refine va_get (D := D) (ci := 1) (v := .ref x2) (C := RX1) (T := TX1) (N := 18) hx hb hts (by decide +kernel) hown hK hP 1 rfl rfl 2 (by decide) (hts (.fieldLink RX1 26 "LadderDesk$Ladder" "x2" "[J") (by decide +kernel)) (fun _ h9 => h9) rfl dX1_makeDouble_58 ?_
  refine lv_aload_n hx hb dX1_makeDouble_61 rfl (lv_at hl 0 rfl) ?_
  refine va_get (D := D) (ci := 1) (v := .ref aAA) (C := RX1) (T := TX1) (N := 18) hx hb hts (by decide +kernel) hown hK hP 1 rfl rfl 11 (by decide) (hts (.fieldLink RX1 53 "LadderDesk$Ladder" "aa" "[J") (by decide +kernel)) (fun _ h9 => h9) rfl dX1_makeDouble_62 ?_
  refine lv_aload_n hx hb dX1_makeDouble_65 rfl (lv_at hl 0 rfl) ?_
  refine va_get (D := D) (ci := 1) (v := .ref aBB) (C := RX1) (T := TX1) (N := 18) hx hb hts (by decide +kernel) hown hK hP 1 rfl rfl 12 (by decide) (hts (.fieldLink RX1 56 "LadderDesk$Ladder" "bb" "[J") (by decide +kernel)) (fun _ h9 => h9) rfl dX1_makeDouble_66 ?_
  refine z_callv (va_runV (As := [.ref x2, .ref aAA, .ref aBB]) (rest := []) ⟨hx, hb, hml, hown, hts⟩ (c_multiply l D cA tys d0 (ol, .inr (1, [.ref hf, .ref aU, .ref x2, .ref z2, .ref x3, .ref z3, .ref aA, .ref aB, .ref aC, .ref aD, .ref aE, .ref aAA, .ref aBB, .ref aDA, .ref aCB, .ref aSP, .ref aLE, .ref aRI])) hf wd wh L n q3 x2 aAA aBB m_wd m_x2 m_aAA m_aBB (by rw [e2]; exact settled_loose s1) (by rw [e3]; exact settled_loose s2) _) (cwV 3 hts gX1_makeDouble_X0_multiply rfl rfl rfl (by decide +kernel) ⟨Nat.le_of_ble_eq_true rfl, Nat.le_of_ble_eq_true rfl⟩) (z_preV _ hK hP hD (ci := 0) (q0 := 2) rfl rfl) rfl rfl hl.1 rfl (lv_room (Nat.le_of_ble_eq_true rfl)) dX1_makeDouble_69 ⟨Nat.le_of_ble_eq_true rfl, Nat.le_of_ble_eq_true rfl⟩) hD hS hA (fun u H locs hu hP hD hS => ?_)
  obtain ⟨q4, k4, s4, v4, rfl⟩ := hu
  rw [e2, e3] at v4
  have v4 : cg (fv (q4 x2)) (nX2 vx2 vz2) := cg_trans v4 (cg_mul v1 v2)
  have e4 : q4 aE = q3 aE := k4 aE (show aE ≠ x2 from fun h => by have := congrArg t h; omega) (show aE ≠ wd from fun h => by have := congrArg t h; omega)
  have e5 : q4 aAA = q1 aAA := by rw [k4 aAA (show aAA ≠ x2 from fun h => by have := congrArg t h; omega) (show aAA ≠ wd from fun h => by have := congrArg t h; omega), e2]
  refine lv_aload_n hx hb dX1_makeDouble_72 rfl (lv_at hl 0 rfl) ?_
  refine va_get (D := D) (ci := 1) (v := .ref aSP) (C := RX1) (T := TX1) (N := 18) hx hb hts (by decide +kernel) hown hK hP 1 rfl rfl 15 (by decide) (hts (.fieldLink RX1 65 "LadderDesk$Ladder" "spare" "[J") (by decide +kernel)) (fun _ h9 => h9) rfl dX1_makeDouble_73 ?_
  refine lv_aload_n hx hb dX1_makeDouble_76 rfl (lv_at hl 0 rfl) ?_
  refine va_get (D := D) (ci := 1) (v := .ref aE) (C := RX1) (T := TX1) (N := 18) hx hb hts (by decide +kernel) hown hK hP 1 rfl rfl 10 (by decide) (hts (.fieldLink RX1 50 "LadderDesk$Ladder" "e" "[J") (by decide +kernel)) (fun _ h9 => h9) rfl dX1_makeDouble_77 ?_
  refine z_callv (va_runS (As := [.ref aSP, .ref aE]) (rest := []) ⟨hx, hb, hml, hown, hts⟩ (c_scale l D cA tys [d0, (ol, .inr (1, [.ref hf, .ref aU, .ref x2, .ref z2, .ref x3, .ref z3, .ref aA, .ref aB, .ref aC, .ref aD, .ref aE, .ref aAA, .ref aBB, .ref aDA, .ref aCB, .ref aSP, .ref aLE, .ref aRI])), (hf, .inr (0, [.ref wd, .ref wh]))] L n q4 aSP aE m_aSP m_aE (by rw [e4]; exact s3.1) _) (va_cwS 2 hts gX1_makeDouble_X0_scale rfl rfl rfl (by decide +kernel) ⟨Nat.le_of_ble_eq_true rfl, Nat.le_of_ble_eq_true rfl⟩) (z_preS _ hK hP hD) rfl rfl hl.1 rfl (lv_room (Nat.le_of_ble_eq_true rfl)) dX1_makeDouble_80 ⟨Nat.le_of_ble_eq_true rfl, Nat.le_of_ble_eq_true rfl⟩) hD hS hA (fun u H locs hu hP hD hS => ?_)
  obtain ⟨g5, s5, v5, rfl⟩ := hu
  rw [e4] at v5
  obtain ⟨q5, hq5⟩ : ∃ z, z = va_up q4 aSP g5 := ⟨_, rfl⟩
  rw [← hq5] at hP hD
  have k5 : ∀ b, b ≠ aSP → q5 b = q4 b := fun b h => by rw [hq5, va_up_ne _ _ h]
  have e6 : q5 aSP = g5 := by rw [hq5, va_up_self]
  have e7 : q5 aAA = q1 aAA := by rw [k5 aAA (show aAA ≠ aSP from fun h => by have := congrArg t h; omega), e5]
  refine lv_aload_n hx hb dX1_makeDouble_83 rfl (lv_at hl 0 rfl) ?_
  refine va_get (D := D) (ci := 1) (v := .ref aSP) (C := RX1) (T := TX1) (N := 18) hx hb hts (by decide +kernel) hown hK hP 1 rfl rfl 15 (by decide) (hts (.fieldLink RX1 65 "LadderDesk$Ladder" "spare" "[J") (by decide +kernel)) (fun _ h9 => h9) rfl dX1_makeDouble_84 ?_
  refine lv_aload_n hx hb dX1_makeDouble_87 rfl (lv_at hl 0 rfl) ?_
  refine va_get (D := D) (ci := 1) (v := .ref aAA) (C := RX1) (T := TX1) (N := 18) hx hb hts (by decide +kernel) hown hK hP 1 rfl rfl 11 (by decide) (hts (.fieldLink RX1 53 "LadderDesk$Ladder" "aa" "[J") (by decide +kernel)) (fun _ h9 => h9) rfl dX1_makeDouble_88 ?_
  refine lv_aload_n hx hb dX1_makeDouble_91 rfl (lv_at hl 0 rfl) ?_
  refine va_get (D := D) (ci := 1) (v := .ref aSP) (C := RX1) (T := TX1) (N := 18) hx hb hts (by decide +kernel) hown hK hP 1 rfl rfl 15 (by decide) (hts (.fieldLink RX1 65 "LadderDesk$Ladder" "spare" "[J") (by decide +kernel)) (fun _ h9 => h9) rfl dX1_makeDouble_92 ?_
  refine z_callv (va_runS (As := [.ref aSP, .ref aAA, .ref aSP]) (rest := []) ⟨hx, hb, hml, hown, hts⟩ (c_add l D cA tys [d0, (ol, .inr (1, [.ref hf, .ref aU, .ref x2, .ref z2, .ref x3, .ref z3, .ref aA, .ref aB, .ref aC, .ref aD, .ref aE, .ref aAA, .ref aBB, .ref aDA, .ref aCB, .ref aSP, .ref aLE, .ref aRI])), (hf, .inr (0, [.ref wd, .ref wh]))] L n q5 aSP aAA aSP m_aSP m_aAA m_aSP _) (va_cwS 3 hts gX1_makeDouble_X0_add rfl rfl rfl (by decide +kernel) ⟨Nat.le_of_ble_eq_true rfl, Nat.le_of_ble_eq_true rfl⟩) (z_preS _ hK hP hD) rfl rfl hl.1 rfl (lv_room (Nat.le_of_ble_eq_true rfl)) dX1_makeDouble_95 ⟨Nat.le_of_ble_eq_true rfl, Nat.le_of_ble_eq_true rfl⟩) hD hS hA (fun u H locs hu hP hD hS => ?_)
  subst hu
  obtain ⟨q6, hq6⟩ : ∃ z, z = mpq q5 aSP (fun j => q5 aAA j + q5 aSP j) 10 := ⟨_, rfl⟩
  rw [← hq6] at hP hD
  have k6 : ∀ b, b ≠ aSP → q6 b = q5 b := fun b h => by rw [hq6, mpq_ne h]
  have s6 := add_fold (f := q1 aAA) (h := g5) (t := q6 aSP) s1 (fun j hj => scaled_at s5 hj) (fun j hj => by rw [hq6, mpq_to, if_pos hj, e7, e6])
  have v6 : cg (fv (q6 aSP)) ((vx2 + vz2) * (vx2 + vz2) + 121665 * nE vx2 vz2) := by rw [s6.2]; exact cg_add v1 (cg_trans v5 (cg_mul (cg_refl 121665) v3))
  have e8 : q6 aE = q3 aE := by rw [k6 aE (show aE ≠ aSP from fun h => by have := congrArg t h; omega), k5 aE (show aE ≠ aSP from fun h => by have := congrArg t h; omega), e4]
  refine lv_aload_n hx hb dX1_makeDouble_98 rfl (lv_at hl 0 rfl) ?_
  refine va_get (D := D) (ci := 1) (v := .ref hf) (C := RX1) (T := TX1) (N := 18) hx hb hts (by decide +kernel) hown hK hP 1 rfl rfl 0 (by decide) (hts (.fieldLink RX1 12 "LadderDesk$Ladder" "field" "LLadderDesk$Field;") (by decide +kernel)) (fun _ h9 => h9) rfl dX1_makeDouble_99 ?_
  refine lv_aload_n hx hb dX1_makeDouble_102 rfl (lv_at hl 0 rfl) ?_
  refine va_get (D := D) (ci := 1) (v := .ref z2) (C := RX1) (T := TX1) (N := 18) hx hb hts (by decide +kernel) hown hK hP 1 rfl rfl 3 (by decide) (hts (.fieldLink RX1 29 "LadderDesk$Ladder" "z2" "[J") (by decide +kernel)) (fun _ h9 => h9) rfl dX1_makeDouble_103 ?_
  refine lv_aload_n hx hb dX1_makeDouble_106 rfl (lv_at hl 0 rfl) ?_
  refine va_get (D := D) (ci := 1) (v := .ref aE) (C := RX1) (T := TX1) (N := 18) hx hb hts (by decide +kernel) hown hK hP 1 rfl rfl 10 (by decide) (hts (.fieldLink RX1 50 "LadderDesk$Ladder" "e" "[J") (by decide +kernel)) (fun _ h9 => h9) rfl dX1_makeDouble_107 ?_
  refine lv_aload_n hx hb dX1_makeDouble_110 rfl (lv_at hl 0 rfl) ?_
  refine va_get (D := D) (ci := 1) (v := .ref aSP) (C := RX1) (T := TX1) (N := 18) hx hb hts (by decide +kernel) hown hK hP 1 rfl rfl 15 (by decide) (hts (.fieldLink RX1 65 "LadderDesk$Ladder" "spare" "[J") (by decide +kernel)) (fun _ h9 => h9) rfl dX1_makeDouble_111 ?_
  refine z_callv (va_runV (As := [.ref z2, .ref aE, .ref aSP]) (rest := []) ⟨hx, hb, hml, hown, hts⟩ (c_multiply l D cA tys d0 (ol, .inr (1, [.ref hf, .ref aU, .ref x2, .ref z2, .ref x3, .ref z3, .ref aA, .ref aB, .ref aC, .ref aD, .ref aE, .ref aAA, .ref aBB, .ref aDA, .ref aCB, .ref aSP, .ref aLE, .ref aRI])) hf wd wh L n q6 z2 aE aSP m_wd m_z2 m_aE m_aSP (by rw [e8]; exact lo_of28 s3.1) s6.1 _) (cwV 3 hts gX1_makeDouble_X0_multiply rfl rfl rfl (by decide +kernel) ⟨Nat.le_of_ble_eq_true rfl, Nat.le_of_ble_eq_true rfl⟩) (z_preV _ hK hP hD (ci := 0) (q0 := 2) rfl rfl) rfl rfl hl.1 rfl (lv_room (Nat.le_of_ble_eq_true rfl)) dX1_makeDouble_114 ⟨Nat.le_of_ble_eq_true rfl, Nat.le_of_ble_eq_true rfl⟩) hD hS hA (fun u H locs hu hP hD hS => ?_)
  obtain ⟨q7, k7, s7, v7, rfl⟩ := hu
  rw [e8] at v7
  have v7 : cg (fv (q7 z2)) (nZ2 vx2 vz2) := cg_trans v7 (cg_mul v3 v6)
  have e9 : q7 x2 = q4 x2 := by rw [k7 x2 (show x2 ≠ z2 from fun h => by have := congrArg t h; omega) (show x2 ≠ wd from fun h => by have := congrArg t h; omega), k6 x2 (show x2 ≠ aSP from fun h => by have := congrArg t h; omega), k5 x2 (show x2 ≠ aSP from fun h => by have := congrArg t h; omega)]
  exact z_vret hx hb hr hlocks dX1_makeDouble_117 hK hP hD hS (⟨q7, fun b hb0 hb1 hb2 hb3 => by rw [k7 b hb3 (show b ≠ wd from fun h => by have := congrArg t h; omega), k6 b (show b ≠ aSP from fun h => by have := congrArg t h; omega), k5 b (show b ≠ aSP from fun h => by have := congrArg t h; omega), k4 b hb2 (show b ≠ wd from fun h => by have := congrArg t h; omega), k3 b (show b ≠ aE from fun h => by have := congrArg t h; omega), k2 b (show b ≠ aBB from fun h => by have := congrArg t h; omega) (show b ≠ wd from fun h => by have := congrArg t h; omega), k1 b (show b ≠ aAA from fun h => by have := congrArg t h; omega) (show b ≠ wd from fun h => by have := congrArg t h; omega)], ⟨by rw [e9]; exact s4, by rw [e9]; exact v4⟩, ⟨s7, v7⟩, rfl⟩)
set_option maxRecDepth 100000 in
set_option maxHeartbeats 4000000 in
theorem c_makeOther (l : Launch) (D : va_G) (cA : ClassId) (tys : List (ClassId × FieldType)) (d0 : Nat × va_E) (ol hf : Nat) (L : List Nat) (n t : Nat → Nat) (q : Nat → Nat → Int64) (wd wh aU aA aB aC aD aE aAA aBB aDA aCB aSP aLE aRI x2 z2 x3 z3 : Nat) (hLW : LW L n t wd wh aU aA aB aC aD aE aAA aBB aDA aCB aSP aLE aRI x2 z2 x3 z3) (vu vx2 vz2 vx3 vz3 : Int) (hU : holds (q aU) vu) (hA1 : loose (q aA)) (hA2 : cg (fv (q aA)) (vx2 + vz2)) (hB1 : loose (q aB)) (hB2 : cg (fv (q aB)) (vx2 - vz2)) (hC1 : loose (q aC)) (hC2 : cg (fv (q aC)) (vx3 + vz3)) (hD1 : loose (q aD)) (hD2 : cg (fv (q aD)) (vx3 - vz3)) : zCv l D ((cA, .long) :: tys) yX1_makeOther wsX1_makeOther ({ frames := 3, cells := 0, slots := 0, locals := 74 }) [.ref ol] ([d0, (ol, .inr (1, [.ref hf, .ref aU, .ref x2, .ref z2, .ref x3, .ref z3, .ref aA, .ref aB, .ref aC, .ref aD, .ref aE, .ref aAA, .ref aBB, .ref aDA, .ref aCB, .ref aSP, .ref aLE, .ref aRI])), (hf, .inr (0, [.ref wd, .ref wh]))] ++ PL cA L n q) (fun u => ∃ q' : Nat → Nat → Int64, (∀ b, t b ≠ 0 → ¬ (7 ≤ t b ∧ t b ≤ 12) → b ≠ x3 → b ≠ z3 → q' b = q b) ∧ holds (q' x3) (nX3 vx2 vz2 vx3 vz3) ∧ holds (q' z3) (nZ3 vu vx2 vz2 vx3 vz3) ∧ u = [d0, (ol, .inr (1, [.ref hf, .ref aU, .ref x2, .ref z2, .ref x3, .ref z3, .ref aA, .ref aB, .ref aC, .ref aD, .ref aE, .ref aAA, .ref aBB, .ref aDA, .ref aCB, .ref aSP, .ref aLE, .ref aRI])), (hf, .inr (0, [.ref wd, .ref wh]))] ++ PL cA L n q') := by
  refine z_met (fun A => va_Qv (fun u => ∃ q' : Nat → Nat → Int64, (∀ b, t b ≠ 0 → ¬ (7 ≤ t b ∧ t b ≤ 12) → b ≠ x3 → b ≠ z3 → q' b = q b) ∧ holds (q' x3) (nX3 vx2 vz2 vx3 vz3) ∧ holds (q' z3) (nZ3 vu vx2 vz2 vx3 vz3) ∧ u = [d0, (ol, .inr (1, [.ref hf, .ref aU, .ref x2, .ref z2, .ref x3, .ref z3, .ref aA, .ref aB, .ref aC, .ref aD, .ref aE, .ref aAA, .ref aBB, .ref aDA, .ref aCB, .ref aSP, .ref aLE, .ref aRI])), (hf, .inr (0, [.ref wd, .ref wh]))] ++ PL cA L n q') (zB D ((cA, .long) :: tys) A) A) (by decide) rfl (Nat.le_of_ble_eq_true rfl) ?_
  intro p e s m below meth c hx hb hr hml hts hown hlocks hname A hA hP hK hD hS ls hl
  have hown : s.vm.findClass RX1 = some m.cls := hown
  have hl : lv_has ls 1 [(0, .ref ol)] := hl
  obtain ⟨⟨m_wd, m_wh, m_aU, m_aA, m_aB, m_aC, m_aD, m_aE, m_aAA, m_aBB, m_aDA, m_aCB, m_aSP, m_aLE, m_aRI, m_x2, m_z2, m_x3, m_z3⟩, ⟨t_wd, t_wh, t_aU, t_aA, t_aB, t_aC, t_aD, t_aE, t_aAA, t_aBB, t_aDA, t_aCB, t_aSP, t_aLE, t_aRI, t_x2, t_z2, t_x3, t_z3⟩, ⟨d_0, d_1, d_2, d_3, d_4, d_5⟩⟩ := id hLW
  refine lv_aload_n hx hb dX1_makeOther_0 rfl (lv_at hl 0 rfl) ?_
  refine va_get (D := D) (ci := 1) (v := .ref hf) (C := RX1) (T := TX1) (N := 18) hx hb hts (by decide +kernel) hown hK hP 1 rfl rfl 0 (by decide) (hts (.fieldLink RX1 12 "LadderDesk$Ladder" "field" "LLadderDesk$Field;") (by decide +kernel)) (fun _ h9 => h9) rfl dX1_makeOther_1 ?_
  refine lv_aload_n hx hb dX1_makeOther_4 rfl (lv_at hl 0 rfl) ?_
  refine va_get (D := D) (ci := 1) (v := .ref aDA) (C := RX1) (T := TX1) (N := 18) hx hb hts (by decide +kernel) hown hK hP 1 rfl rfl 13 (by decide) (hts (.fieldLink RX1 59 "LadderDesk$Ladder" "da" "[J") (by decide +kernel)) (fun _ h9 => h9) rfl dX1_makeOther_5 ?_
  refine lv_aload_n hx hb dX1_makeOther_8 rfl (lv_at hl 0 rfl) ?_
  refine va_get (D := D) (ci := 1) (v := .ref aD) (C := RX1) (T := TX1) (N := 18) hx hb hts (by decide +kernel) hown hK hP 1 rfl rfl 9 (by decide) (hts (.fieldLink RX1 47 "LadderDesk$Ladder" "d" "[J") (by decide +kernel)) (fun _ h9 => h9) rfl dX1_makeOther_9 ?_
  refine lv_aload_n hx hb dX1_makeOther_12 rfl (lv_at hl 0 rfl) ?_
  refine va_get (D := D) (ci := 1) (v := .ref aA) (C := RX1) (T := TX1) (N := 18) hx hb hts (by decide +kernel) hown hK hP 1 rfl rfl 6 (by decide) (hts (.fieldLink RX1 38 "LadderDesk$Ladder" "a" "[J") (by decide +kernel)) (fun _ h9 => h9) rfl dX1_makeOther_13 ?_
  refine z_callv (va_runV (As := [.ref aDA, .ref aD, .ref aA]) (rest := []) ⟨hx, hb, hml, hown, hts⟩ (c_multiply l D cA tys d0 (ol, .inr (1, [.ref hf, .ref aU, .ref x2, .ref z2, .ref x3, .ref z3, .ref aA, .ref aB, .ref aC, .ref aD, .ref aE, .ref aAA, .ref aBB, .ref aDA, .ref aCB, .ref aSP, .ref aLE, .ref aRI])) hf wd wh L n q aDA aD aA m_wd m_aDA m_aD m_aA hD1 hA1 _) (cwV 3 hts gX1_makeOther_X0_multiply rfl rfl rfl (by decide +kernel) ⟨Nat.le_of_ble_eq_true rfl, Nat.le_of_ble_eq_true rfl⟩) (z_preV _ hK hP hD (ci := 0) (q0 := 2) rfl rfl) rfl rfl hl.1 rfl (lv_room (Nat.le_of_ble_eq_true rfl)) dX1_makeOther_16 ⟨Nat.le_of_ble_eq_true rfl, Nat.le_of_ble_eq_true rfl⟩) hD hS hA (fun u H locs hu hP hD hS => ?_)
  obtain ⟨q1, k1, s1, v1, rfl⟩ := hu
  have v1 : cg (fv (q1 aDA)) (nDA vx2 vz2 vx3 vz3) := cg_trans v1 (cg_mul hD2 hA2)
  have eB : q1 aB = q aB := k1 aB (show aB ≠ aDA from fun h => by have := congrArg t h; omega) (show aB ≠ wd from fun h => by have := congrArg t h; omega)
  have eC : q1 aC = q aC := k1 aC (show aC ≠ aDA from fun h => by have := congrArg t h; omega) (show aC ≠ wd from fun h => by have := congrArg t h; omega)
  refine lv_aload_n hx hb dX1_makeOther_19 rfl (lv_at hl 0 rfl) ?_
  refine va_get (D := D) (ci := 1) (v := .ref hf) (C := RX1) (T := TX1) (N := 18) hx hb hts (by decide +kernel) hown hK hP 1 rfl rfl 0 (by decide) (hts (.fieldLink RX1 12 "LadderDesk$Ladder" "field" "LLadderDesk$Field;") (by decide +kernel)) (fun _ h9 => h9) rfl dX1_makeOther_20 ?_
  refine lv_aload_n hx hb dX1_makeOther_23 rfl (lv_at hl 0 rfl) ?_
  refine va_get (D := D) (ci := 1) (v := .ref aCB) (C := RX1) (T := TX1) (N := 18) hx hb hts (by decide +kernel) hown hK hP 1 rfl rfl 14 (by decide) (hts (.fieldLink RX1 62 "LadderDesk$Ladder" "cb" "[J") (by decide +kernel)) (fun _ h9 => h9) rfl dX1_makeOther_24 ?_
  refine lv_aload_n hx hb dX1_makeOther_27 rfl (lv_at hl 0 rfl) ?_
  refine va_get (D := D) (ci := 1) (v := .ref aC) (C := RX1) (T := TX1) (N := 18) hx hb hts (by decide +kernel) hown hK hP 1 rfl rfl 8 (by decide) (hts (.fieldLink RX1 44 "LadderDesk$Ladder" "c" "[J") (by decide +kernel)) (fun _ h9 => h9) rfl dX1_makeOther_28 ?_
  refine lv_aload_n hx hb dX1_makeOther_31 rfl (lv_at hl 0 rfl) ?_
  refine va_get (D := D) (ci := 1) (v := .ref aB) (C := RX1) (T := TX1) (N := 18) hx hb hts (by decide +kernel) hown hK hP 1 rfl rfl 7 (by decide) (hts (.fieldLink RX1 41 "LadderDesk$Ladder" "b" "[J") (by decide +kernel)) (fun _ h9 => h9) rfl dX1_makeOther_32 ?_
  refine z_callv (va_runV (As := [.ref aCB, .ref aC, .ref aB]) (rest := []) ⟨hx, hb, hml, hown, hts⟩ (c_multiply l D cA tys d0 (ol, .inr (1, [.ref hf, .ref aU, .ref x2, .ref z2, .ref x3, .ref z3, .ref aA, .ref aB, .ref aC, .ref aD, .ref aE, .ref aAA, .ref aBB, .ref aDA, .ref aCB, .ref aSP, .ref aLE, .ref aRI])) hf wd wh L n q1 aCB aC aB m_wd m_aCB m_aC m_aB (by rw [eC]; exact hC1) (by rw [eB]; exact hB1) _) (cwV 3 hts gX1_makeOther_X0_multiply rfl rfl rfl (by decide +kernel) ⟨Nat.le_of_ble_eq_true rfl, Nat.le_of_ble_eq_true rfl⟩) (z_preV _ hK hP hD (ci := 0) (q0 := 2) rfl rfl) rfl rfl hl.1 rfl (lv_room (Nat.le_of_ble_eq_true rfl)) dX1_makeOther_35 ⟨Nat.le_of_ble_eq_true rfl, Nat.le_of_ble_eq_true rfl⟩) hD hS hA (fun u H locs hu hP hD hS => ?_)
  obtain ⟨q2, k2, s2, v2, rfl⟩ := hu
  rw [eC, eB] at v2
  have v2 : cg (fv (q2 aCB)) (nCB vx2 vz2 vx3 vz3) := cg_trans v2 (cg_mul hC2 hB2)
  have e1 : q2 aDA = q1 aDA := k2 aDA (show aDA ≠ aCB from fun h => by have := congrArg t h; omega) (show aDA ≠ wd from fun h => by have := congrArg t h; omega)
  refine lv_aload_n hx hb dX1_makeOther_38 rfl (lv_at hl 0 rfl) ?_
  refine va_get (D := D) (ci := 1) (v := .ref aSP) (C := RX1) (T := TX1) (N := 18) hx hb hts (by decide +kernel) hown hK hP 1 rfl rfl 15 (by decide) (hts (.fieldLink RX1 65 "LadderDesk$Ladder" "spare" "[J") (by decide +kernel)) (fun _ h9 => h9) rfl dX1_makeOther_39 ?_
  refine lv_aload_n hx hb dX1_makeOther_42 rfl (lv_at hl 0 rfl) ?_
  refine va_get (D := D) (ci := 1) (v := .ref aDA) (C := RX1) (T := TX1) (N := 18) hx hb hts (by decide +kernel) hown hK hP 1 rfl rfl 13 (by decide) (hts (.fieldLink RX1 59 "LadderDesk$Ladder" "da" "[J") (by decide +kernel)) (fun _ h9 => h9) rfl dX1_makeOther_43 ?_
  refine lv_aload_n hx hb dX1_makeOther_46 rfl (lv_at hl 0 rfl) ?_
  refine va_get (D := D) (ci := 1) (v := .ref aCB) (C := RX1) (T := TX1) (N := 18) hx hb hts (by decide +kernel) hown hK hP 1 rfl rfl 14 (by decide) (hts (.fieldLink RX1 62 "LadderDesk$Ladder" "cb" "[J") (by decide +kernel)) (fun _ h9 => h9) rfl dX1_makeOther_47 ?_
  refine z_callv (va_runS (As := [.ref aSP, .ref aDA, .ref aCB]) (rest := []) ⟨hx, hb, hml, hown, hts⟩ (c_add l D cA tys [d0, (ol, .inr (1, [.ref hf, .ref aU, .ref x2, .ref z2, .ref x3, .ref z3, .ref aA, .ref aB, .ref aC, .ref aD, .ref aE, .ref aAA, .ref aBB, .ref aDA, .ref aCB, .ref aSP, .ref aLE, .ref aRI])), (hf, .inr (0, [.ref wd, .ref wh]))] L n q2 aSP aDA aCB m_aSP m_aDA m_aCB _) (va_cwS 3 hts gX1_makeOther_X0_add rfl rfl rfl (by decide +kernel) ⟨Nat.le_of_ble_eq_true rfl, Nat.le_of_ble_eq_true rfl⟩) (z_preS _ hK hP hD) rfl rfl hl.1 rfl (lv_room (Nat.le_of_ble_eq_true rfl)) dX1_makeOther_50 ⟨Nat.le_of_ble_eq_true rfl, Nat.le_of_ble_eq_true rfl⟩) hD hS hA (fun u H locs hu hP hD hS => ?_)
  subst hu
  obtain ⟨q3, hq3⟩ : ∃ z, z = mpq q2 aSP (fun j => q2 aDA j + q2 aCB j) 10 := ⟨_, rfl⟩
  rw [← hq3] at hP hD
  have k3 : ∀ b, b ≠ aSP → q3 b = q2 b := fun b h => by rw [hq3, mpq_ne h]
  have s3 := add_fold (f := q1 aDA) (h := q2 aCB) (t := q3 aSP) s1 (fun j hj => settled_363 s2 hj) (fun j hj => by rw [hq3, mpq_to, if_pos hj, e1])
  have v3 : cg (fv (q3 aSP)) (nDA vx2 vz2 vx3 vz3 + nCB vx2 vz2 vx3 vz3) := by rw [s3.2]; exact cg_add v1 v2
  refine lv_aload_n hx hb dX1_makeOther_53 rfl (lv_at hl 0 rfl) ?_
  refine va_get (D := D) (ci := 1) (v := .ref hf) (C := RX1) (T := TX1) (N := 18) hx hb hts (by decide +kernel) hown hK hP 1 rfl rfl 0 (by decide) (hts (.fieldLink RX1 12 "LadderDesk$Ladder" "field" "LLadderDesk$Field;") (by decide +kernel)) (fun _ h9 => h9) rfl dX1_makeOther_54 ?_
  refine lv_aload_n hx hb dX1_makeOther_57 rfl (lv_at hl 0 rfl) ?_
  refine va_get (D := D) (ci := 1) (v := .ref x3) (C := RX1) (T := TX1) (N := 18) hx hb hts (by decide +kernel) hown hK hP 1 rfl rfl 4 (by decide) (hts (.fieldLink RX1 32 "LadderDesk$Ladder" "x3" "[J") (by decide +kernel)) (fun _ h9 => h9) rfl dX1_makeOther_58 ?_
  refine lv_aload_n hx hb dX1_makeOther_61 rfl (lv_at hl 0 rfl) ?_
  refine va_get (D := D) (ci := 1) (v := .ref aSP) (C := RX1) (T := TX1) (N := 18) hx hb hts (by decide +kernel) hown hK hP 1 rfl rfl 15 (by decide) (hts (.fieldLink RX1 65 "LadderDesk$Ladder" "spare" "[J") (by decide +kernel)) (fun _ h9 => h9) rfl dX1_makeOther_62 ?_
  refine lv_aload_n hx hb dX1_makeOther_65 rfl (lv_at hl 0 rfl) ?_
  refine va_get (D := D) (ci := 1) (v := .ref aSP) (C := RX1) (T := TX1) (N := 18) hx hb hts (by decide +kernel) hown hK hP 1 rfl rfl 15 (by decide) (hts (.fieldLink RX1 65 "LadderDesk$Ladder" "spare" "[J") (by decide +kernel)) (fun _ h9 => h9) rfl dX1_makeOther_66 ?_
  refine z_callv (va_runV (As := [.ref x3, .ref aSP, .ref aSP]) (rest := []) ⟨hx, hb, hml, hown, hts⟩ (c_multiply l D cA tys d0 (ol, .inr (1, [.ref hf, .ref aU, .ref x2, .ref z2, .ref x3, .ref z3, .ref aA, .ref aB, .ref aC, .ref aD, .ref aE, .ref aAA, .ref aBB, .ref aDA, .ref aCB, .ref aSP, .ref aLE, .ref aRI])) hf wd wh L n q3 x3 aSP aSP m_wd m_x3 m_aSP m_aSP s3.1 s3.1 _) (cwV 3 hts gX1_makeOther_X0_multiply rfl rfl rfl (by decide +kernel) ⟨Nat.le_of_ble_eq_true rfl, Nat.le_of_ble_eq_true rfl⟩) (z_preV _ hK hP hD (ci := 0) (q0 := 2) rfl rfl) rfl rfl hl.1 rfl (lv_room (Nat.le_of_ble_eq_true rfl)) dX1_makeOther_69 ⟨Nat.le_of_ble_eq_true rfl, Nat.le_of_ble_eq_true rfl⟩) hD hS hA (fun u H locs hu hP hD hS => ?_)
  obtain ⟨q4, k4, s4, v4, rfl⟩ := hu
  have v4 : cg (fv (q4 x3)) (nX3 vx2 vz2 vx3 vz3) := cg_trans v4 (cg_mul v3 v3)
  have e2 : q4 aDA = q1 aDA := by rw [k4 aDA (show aDA ≠ x3 from fun h => by have := congrArg t h; omega) (show aDA ≠ wd from fun h => by have := congrArg t h; omega), k3 aDA (show aDA ≠ aSP from fun h => by have := congrArg t h; omega), e1]
  have e3 : q4 aCB = q2 aCB := by rw [k4 aCB (show aCB ≠ x3 from fun h => by have := congrArg t h; omega) (show aCB ≠ wd from fun h => by have := congrArg t h; omega), k3 aCB (show aCB ≠ aSP from fun h => by have := congrArg t h; omega)]
  refine lv_aload_n hx hb dX1_makeOther_72 rfl (lv_at hl 0 rfl) ?_
  refine va_get (D := D) (ci := 1) (v := .ref aSP) (C := RX1) (T := TX1) (N := 18) hx hb hts (by decide +kernel) hown hK hP 1 rfl rfl 15 (by decide) (hts (.fieldLink RX1 65 "LadderDesk$Ladder" "spare" "[J") (by decide +kernel)) (fun _ h9 => h9) rfl dX1_makeOther_73 ?_
  refine lv_aload_n hx hb dX1_makeOther_76 rfl (lv_at hl 0 rfl) ?_
  refine va_get (D := D) (ci := 1) (v := .ref aDA) (C := RX1) (T := TX1) (N := 18) hx hb hts (by decide +kernel) hown hK hP 1 rfl rfl 13 (by decide) (hts (.fieldLink RX1 59 "LadderDesk$Ladder" "da" "[J") (by decide +kernel)) (fun _ h9 => h9) rfl dX1_makeOther_77 ?_
  refine lv_aload_n hx hb dX1_makeOther_80 rfl (lv_at hl 0 rfl) ?_
  refine va_get (D := D) (ci := 1) (v := .ref aCB) (C := RX1) (T := TX1) (N := 18) hx hb hts (by decide +kernel) hown hK hP 1 rfl rfl 14 (by decide) (hts (.fieldLink RX1 62 "LadderDesk$Ladder" "cb" "[J") (by decide +kernel)) (fun _ h9 => h9) rfl dX1_makeOther_81 ?_
  refine z_callv (va_runS (As := [.ref aSP, .ref aDA, .ref aCB]) (rest := []) ⟨hx, hb, hml, hown, hts⟩ (c_subtract l D cA tys [d0, (ol, .inr (1, [.ref hf, .ref aU, .ref x2, .ref z2, .ref x3, .ref z3, .ref aA, .ref aB, .ref aC, .ref aD, .ref aE, .ref aAA, .ref aBB, .ref aDA, .ref aCB, .ref aSP, .ref aLE, .ref aRI])), (hf, .inr (0, [.ref wd, .ref wh]))] L n q4 aSP aDA aCB m_aSP m_aDA m_aCB _) (va_cwS 3 hts gX1_makeOther_X0_subtract rfl rfl rfl (by decide +kernel) ⟨Nat.le_of_ble_eq_true rfl, Nat.le_of_ble_eq_true rfl⟩) (z_preS _ hK hP hD) rfl rfl hl.1 rfl (lv_room (Nat.le_of_ble_eq_true rfl)) dX1_makeOther_84 ⟨Nat.le_of_ble_eq_true rfl, Nat.le_of_ble_eq_true rfl⟩) hD hS hA (fun u H locs hu hP hD hS => ?_)
  subst hu
  obtain ⟨q5, hq5⟩ : ∃ z, z = mpq q4 aSP (fun j => q4 aDA j + (if j = 0 then 134216512 else 134217726) - q4 aCB j) 10 := ⟨_, rfl⟩
  rw [← hq5] at hP hD
  have k5 : ∀ b, b ≠ aSP → q5 b = q4 b := fun b h => by rw [hq5, mpq_ne h]
  have s5 := sub_fold (f := q1 aDA) (h := q2 aCB) (t := q5 aSP) s1 s2 (fun j hj => by rw [hq5, mpq_to, if_pos hj, e2, e3])
  have v5 : cg (fv (q5 aSP)) (nDA vx2 vz2 vx3 vz3 - nCB vx2 vz2 vx3 vz3) := cg_trans s5.2 (cg_sub v1 v2)
  refine lv_aload_n hx hb dX1_makeOther_87 rfl (lv_at hl 0 rfl) ?_
  refine va_get (D := D) (ci := 1) (v := .ref hf) (C := RX1) (T := TX1) (N := 18) hx hb hts (by decide +kernel) hown hK hP 1 rfl rfl 0 (by decide) (hts (.fieldLink RX1 12 "LadderDesk$Ladder" "field" "LLadderDesk$Field;") (by decide +kernel)) (fun _ h9 => h9) rfl dX1_makeOther_88 ?_
  refine lv_aload_n hx hb dX1_makeOther_91 rfl (lv_at hl 0 rfl) ?_
  refine va_get (D := D) (ci := 1) (v := .ref aSP) (C := RX1) (T := TX1) (N := 18) hx hb hts (by decide +kernel) hown hK hP 1 rfl rfl 15 (by decide) (hts (.fieldLink RX1 65 "LadderDesk$Ladder" "spare" "[J") (by decide +kernel)) (fun _ h9 => h9) rfl dX1_makeOther_92 ?_
  refine lv_aload_n hx hb dX1_makeOther_95 rfl (lv_at hl 0 rfl) ?_
  refine va_get (D := D) (ci := 1) (v := .ref aSP) (C := RX1) (T := TX1) (N := 18) hx hb hts (by decide +kernel) hown hK hP 1 rfl rfl 15 (by decide) (hts (.fieldLink RX1 65 "LadderDesk$Ladder" "spare" "[J") (by decide +kernel)) (fun _ h9 => h9) rfl dX1_makeOther_96 ?_
  refine lv_aload_n hx hb dX1_makeOther_99 rfl (lv_at hl 0 rfl) ?_
  refine va_get (D := D) (ci := 1) (v := .ref aSP) (C := RX1) (T := TX1) (N := 18) hx hb hts (by decide +kernel) hown hK hP 1 rfl rfl 15 (by decide) (hts (.fieldLink RX1 65 "LadderDesk$Ladder" "spare" "[J") (by decide +kernel)) (fun _ h9 => h9) rfl dX1_makeOther_100 ?_
  refine z_callv (va_runV (As := [.ref aSP, .ref aSP, .ref aSP]) (rest := []) ⟨hx, hb, hml, hown, hts⟩ (c_multiply l D cA tys d0 (ol, .inr (1, [.ref hf, .ref aU, .ref x2, .ref z2, .ref x3, .ref z3, .ref aA, .ref aB, .ref aC, .ref aD, .ref aE, .ref aAA, .ref aBB, .ref aDA, .ref aCB, .ref aSP, .ref aLE, .ref aRI])) hf wd wh L n q5 aSP aSP aSP m_wd m_aSP m_aSP m_aSP (lo_of28 s5.1) (lo_of28 s5.1) _) (cwV 3 hts gX1_makeOther_X0_multiply rfl rfl rfl (by decide +kernel) ⟨Nat.le_of_ble_eq_true rfl, Nat.le_of_ble_eq_true rfl⟩) (z_preV _ hK hP hD (ci := 0) (q0 := 2) rfl rfl) rfl rfl hl.1 rfl (lv_room (Nat.le_of_ble_eq_true rfl)) dX1_makeOther_103 ⟨Nat.le_of_ble_eq_true rfl, Nat.le_of_ble_eq_true rfl⟩) hD hS hA (fun u H locs hu hP hD hS => ?_)
  obtain ⟨q6, k6, s6, v6, rfl⟩ := hu
  have v6 := cg_trans v6 (cg_mul v5 v5)
  have eU : q6 aU = q aU := by rw [k6 aU (show aU ≠ aSP from fun h => by have := congrArg t h; omega) (show aU ≠ wd from fun h => by have := congrArg t h; omega), k5 aU (show aU ≠ aSP from fun h => by have := congrArg t h; omega), k4 aU (show aU ≠ x3 from fun h => by have := congrArg t h; omega) (show aU ≠ wd from fun h => by have := congrArg t h; omega), k3 aU (show aU ≠ aSP from fun h => by have := congrArg t h; omega), k2 aU (show aU ≠ aCB from fun h => by have := congrArg t h; omega) (show aU ≠ wd from fun h => by have := congrArg t h; omega), k1 aU (show aU ≠ aDA from fun h => by have := congrArg t h; omega) (show aU ≠ wd from fun h => by have := congrArg t h; omega)]
  refine lv_aload_n hx hb dX1_makeOther_106 rfl (lv_at hl 0 rfl) ?_
  refine va_get (D := D) (ci := 1) (v := .ref hf) (C := RX1) (T := TX1) (N := 18) hx hb hts (by decide +kernel) hown hK hP 1 rfl rfl 0 (by decide) (hts (.fieldLink RX1 12 "LadderDesk$Ladder" "field" "LLadderDesk$Field;") (by decide +kernel)) (fun _ h9 => h9) rfl dX1_makeOther_107 ?_
  refine lv_aload_n hx hb dX1_makeOther_110 rfl (lv_at hl 0 rfl) ?_
  refine va_get (D := D) (ci := 1) (v := .ref z3) (C := RX1) (T := TX1) (N := 18) hx hb hts (by decide +kernel) hown hK hP 1 rfl rfl 5 (by decide) (hts (.fieldLink RX1 35 "LadderDesk$Ladder" "z3" "[J") (by decide +kernel)) (fun _ h9 => h9) rfl dX1_makeOther_111 ?_
  refine lv_aload_n hx hb dX1_makeOther_114 rfl (lv_at hl 0 rfl) ?_
  refine va_get (D := D) (ci := 1) (v := .ref aU) (C := RX1) (T := TX1) (N := 18) hx hb hts (by decide +kernel) hown hK hP 1 rfl rfl 1 (by decide) (hts (.fieldLink RX1 22 "LadderDesk$Ladder" "u" "[J") (by decide +kernel)) (fun _ h9 => h9) rfl dX1_makeOther_115 ?_
  refine lv_aload_n hx hb dX1_makeOther_118 rfl (lv_at hl 0 rfl) ?_
  refine va_get (D := D) (ci := 1) (v := .ref aSP) (C := RX1) (T := TX1) (N := 18) hx hb hts (by decide +kernel) hown hK hP 1 rfl rfl 15 (by decide) (hts (.fieldLink RX1 65 "LadderDesk$Ladder" "spare" "[J") (by decide +kernel)) (fun _ h9 => h9) rfl dX1_makeOther_119 ?_
  refine z_callv (va_runV (As := [.ref z3, .ref aU, .ref aSP]) (rest := []) ⟨hx, hb, hml, hown, hts⟩ (c_multiply l D cA tys d0 (ol, .inr (1, [.ref hf, .ref aU, .ref x2, .ref z2, .ref x3, .ref z3, .ref aA, .ref aB, .ref aC, .ref aD, .ref aE, .ref aAA, .ref aBB, .ref aDA, .ref aCB, .ref aSP, .ref aLE, .ref aRI])) hf wd wh L n q6 z3 aU aSP m_wd m_z3 m_aU m_aSP (by rw [eU]; exact settled_loose hU.1) (settled_loose s6) _) (cwV 3 hts gX1_makeOther_X0_multiply rfl rfl rfl (by decide +kernel) ⟨Nat.le_of_ble_eq_true rfl, Nat.le_of_ble_eq_true rfl⟩) (z_preV _ hK hP hD (ci := 0) (q0 := 2) rfl rfl) rfl rfl hl.1 rfl (lv_room (Nat.le_of_ble_eq_true rfl)) dX1_makeOther_122 ⟨Nat.le_of_ble_eq_true rfl, Nat.le_of_ble_eq_true rfl⟩) hD hS hA (fun u H locs hu hP hD hS => ?_)
  obtain ⟨q7, k7, s7, v7, rfl⟩ := hu
  rw [eU] at v7
  have v7 : cg (fv (q7 z3)) (nZ3 vu vx2 vz2 vx3 vz3) := cg_trans v7 (cg_mul hU.2 v6)
  have e9 : q7 x3 = q4 x3 := by rw [k7 x3 (show x3 ≠ z3 from fun h => by have := congrArg t h; omega) (show x3 ≠ wd from fun h => by have := congrArg t h; omega), k6 x3 (show x3 ≠ aSP from fun h => by have := congrArg t h; omega) (show x3 ≠ wd from fun h => by have := congrArg t h; omega), k5 x3 (show x3 ≠ aSP from fun h => by have := congrArg t h; omega)]
  exact z_vret hx hb hr hlocks dX1_makeOther_125 hK hP hD hS (⟨q7, fun b hb0 hb1 hb2 hb3 => by rw [k7 b hb3 (show b ≠ wd from fun h => by have := congrArg t h; omega), k6 b (show b ≠ aSP from fun h => by have := congrArg t h; omega) (show b ≠ wd from fun h => by have := congrArg t h; omega), k5 b (show b ≠ aSP from fun h => by have := congrArg t h; omega), k4 b hb2 (show b ≠ wd from fun h => by have := congrArg t h; omega), k3 b (show b ≠ aSP from fun h => by have := congrArg t h; omega), k2 b (show b ≠ aCB from fun h => by have := congrArg t h; omega) (show b ≠ wd from fun h => by have := congrArg t h; omega), k1 b (show b ≠ aDA from fun h => by have := congrArg t h; omega) (show b ≠ wd from fun h => by have := congrArg t h; omega)], ⟨by rw [e9]; exact s4, by rw [e9]; exact v4⟩, ⟨s7, v7⟩, rfl⟩)
end
section
theorem small_holds {f : Nat → Int64} {v : Int} (h0 : (f 0).toInt = v) (hv : 0 ≤ v ∧ v < 100663296) (h : ∀ j, 1 ≤ j → j < 10 → f j = 0) : holds f v := by
  have hj : ∀ j, 1 ≤ j → j < 10 → fI f j = 0 := fun j h1 h2 => by rw [fI_at, h j h1 h2]; rfl
  refine ⟨⟨by rw [fI_at, h0]; exact hv, fun j h1 h2 => by rw [hj j h1 h2]; omega⟩, cg_of ?_⟩
  unfold fv
  rw [sv10, hj 1 (by omega) (by omega), hj 2 (by omega) (by omega), hj 3 (by omega) (by omega), hj 4 (by omega) (by omega), hj 5 (by omega) (by omega), hj 6 (by omega) (by omega), hj 7 (by omega) (by omega), hj 8 (by omega) (by omega), hj 9 (by omega) (by omega), fI_at, h0]
  omega
theorem or_0 {a b : Int64} : a ||| b = 0 ↔ a = 0 ∧ b = 0 := by
  constructor
  · intro h
    have h1 : a.toBitVec ||| b.toBitVec = 0#64 := by
      rw [← Int64.toBitVec_or, h]; rfl
    obtain ⟨h2, h3⟩ := BitVec.or_eq_zero_iff.mp h1
    exact ⟨wb_inj h2, wb_inj h3⟩
  · rintro ⟨rfl, rfl⟩
    decide
theorem uw_0 {x : Int64} : x = 0 ↔ uw x = 0 := ⟨fun h => by rw [h]; decide, fun h => uw_inj (by rw [h]; decide)⟩
theorem wv_0 {f : Nat → Int64} : (((f 0 ||| f 1) ||| f 2) ||| f 3) = 0 ↔ wv f = 0 := by
  rw [or_0, or_0, or_0, uw_0, uw_0, uw_0, uw_0]
  unfold wv
  omega
theorem wv_inj {f g : Nat → Int64} (h : wv f = wv g) : ∀ k, k < 4 → f k = g k := fun k hk => by rw [ow_wv f hk, ow_wv g hk, h]
/-- what an address of a ladder's number is -/
def rsel (k x2 z2 x3 z3 aU : Nat) : Nat := if k = 0 then x2 else if k = 1 then z2 else if k = 2 then x3 else if k = 3 then z3 else aU
end
section
set_option maxRecDepth 100000 in
set_option maxHeartbeats 4000000 in
theorem c_isPart (l : Launch) (D : va_G) (tys : List (ClassId × FieldType)) (ws : va_W) (k : Int32) : zCi l D tys yX1_isPart wsX1_isPart ({ frames := 0, cells := 0, slots := 0, locals := 0 }) [.int k] (ws) (fun r u => u = ws ∧ ((r = 1 ∧ ∃ j : Nat, j < 5 ∧ k = nI j) ∨ (r = 0 ∧ ¬ ∃ j : Nat, j < 5 ∧ k = nI j))) := by
  refine z_met (fun A => va_Qi (fun r u => u = ws ∧ ((r = 1 ∧ ∃ j : Nat, j < 5 ∧ k = nI j) ∨ (r = 0 ∧ ¬ ∃ j : Nat, j < 5 ∧ k = nI j))) (zB D tys A) A) (by decide) rfl (Nat.le_of_ble_eq_true rfl) ?_
  intro p e s m below meth c hx hb hr hml hts hown hlocks hname A hA hP hK hD hS ls hl
  have hown : s.vm.findClass RX1 = some m.cls := hown
  have hl : lv_has ls 1 [(0, .int k)] := hl
  refine lv_iload_n hx hb dX1_isPart_0 rfl (lv_at hl 0 rfl) ?_
  refine lv_if_lt (tgt := 13) hx hb dX1_isPart_1 (by decide) (fun c1 => ?_) (fun c1 => ?_)
  · have hc : ¬ ∃ j : Nat, j < 5 ∧ k = nI j := fun ⟨j, h1, h2⟩ => by rw [h2] at c1; exact nI_pos (by omega) c1
    refine lv_iconst (v := nI 0) hx hb dX1_isPart_13 (by decide) ?_
    exact z_zret hx hb hr hlocks dX1_isPart_14 rfl hK hP hD hS (⟨rfl, Or.inr ⟨rfl, hc⟩⟩)
  · obtain ⟨j, hj, rfl⟩ := nI_of c1
    refine lv_iload_n hx hb dX1_isPart_4 rfl (lv_at hl 0 rfl) ?_
    refine lv_iconst (v := nI 5) hx hb dX1_isPart_5 (by decide) ?_
    refine lv_icmp_ge (tgt := 13) hx hb dX1_isPart_6 (by decide) (fun c6 => ?_) (fun c6 => ?_)
    · have hc : ¬ ∃ i : Nat, i < 5 ∧ nI j = nI i := fun ⟨i, h1, h2⟩ => by have := (nI_eq hj (by omega)).mp h2; have := (nI_leI (by omega) hj).mp c6; omega
      refine lv_iconst (v := nI 0) hx hb dX1_isPart_13 (by decide) ?_
      exact z_zret hx hb hr hlocks dX1_isPart_14 rfl hK hP hD hS (⟨rfl, Or.inr ⟨rfl, hc⟩⟩)
    · have hc : j < 5 := Nat.lt_of_not_le fun h => c6 ((nI_leI (by omega) hj).mpr h)
      refine lv_iconst (v := nI 1) hx hb dX1_isPart_9 (by decide) ?_
      refine lv_goto (tgt := 14) hx hb dX1_isPart_10 (by decide) ?_
      exact z_zret hx hb hr hlocks dX1_isPart_14 rfl hK hP hD hS (⟨rfl, Or.inl ⟨rfl, j, hc, rfl⟩⟩)
set_option maxRecDepth 100000 in
set_option maxHeartbeats 4000000 in
theorem c_isLong (l : Launch) (D : va_G) (tys : List (ClassId × FieldType)) (ws : va_W) (k : Int32) : zCi l D tys yX2_isLong wsX2_isLong ({ frames := 0, cells := 0, slots := 0, locals := 0 }) [.int k] (ws) (fun r u => u = ws ∧ ((r = 1 ∧ ∃ j : Nat, j < 4 ∧ k = nI j) ∨ (r = 0 ∧ ¬ ∃ j : Nat, j < 4 ∧ k = nI j))) := by
  refine z_met (fun A => va_Qi (fun r u => u = ws ∧ ((r = 1 ∧ ∃ j : Nat, j < 4 ∧ k = nI j) ∨ (r = 0 ∧ ¬ ∃ j : Nat, j < 4 ∧ k = nI j))) (zB D tys A) A) (by decide) rfl (Nat.le_of_ble_eq_true rfl) ?_
  intro p e s m below meth c hx hb hr hml hts hown hlocks hname A hA hP hK hD hS ls hl
  have hown : s.vm.findClass RX2 = some m.cls := hown
  have hl : lv_has ls 1 [(0, .int k)] := hl
  refine lv_iload_n hx hb dX2_isLong_0 rfl (lv_at hl 0 rfl) ?_
  refine lv_if_lt (tgt := 13) hx hb dX2_isLong_1 (by decide) (fun c1 => ?_) (fun c1 => ?_)
  · have hc : ¬ ∃ j : Nat, j < 4 ∧ k = nI j := fun ⟨j, h1, h2⟩ => by rw [h2] at c1; exact nI_pos (by omega) c1
    refine lv_iconst (v := nI 0) hx hb dX2_isLong_13 (by decide) ?_
    exact z_zret hx hb hr hlocks dX2_isLong_14 rfl hK hP hD hS (⟨rfl, Or.inr ⟨rfl, hc⟩⟩)
  · obtain ⟨j, hj, rfl⟩ := nI_of c1
    refine lv_iload_n hx hb dX2_isLong_4 rfl (lv_at hl 0 rfl) ?_
    refine lv_iconst (v := nI 4) hx hb dX2_isLong_5 (by decide) ?_
    refine lv_icmp_ge (tgt := 13) hx hb dX2_isLong_6 (by decide) (fun c6 => ?_) (fun c6 => ?_)
    · have hc : ¬ ∃ i : Nat, i < 4 ∧ nI j = nI i := fun ⟨i, h1, h2⟩ => by have := (nI_eq hj (by omega)).mp h2; have := (nI_leI (by omega) hj).mp c6; omega
      refine lv_iconst (v := nI 0) hx hb dX2_isLong_13 (by decide) ?_
      exact z_zret hx hb hr hlocks dX2_isLong_14 rfl hK hP hD hS (⟨rfl, Or.inr ⟨rfl, hc⟩⟩)
    · have hc : j < 4 := Nat.lt_of_not_le fun h => c6 ((nI_leI (by omega) hj).mpr h)
      refine lv_iconst (v := nI 1) hx hb dX2_isLong_9 (by decide) ?_
      refine lv_goto (tgt := 14) hx hb dX2_isLong_10 (by decide) ?_
      exact z_zret hx hb hr hlocks dX2_isLong_14 rfl hK hP hD hS (⟨rfl, Or.inl ⟨rfl, j, hc, rfl⟩⟩)
set_option maxRecDepth 100000 in
set_option maxHeartbeats 4000000 in
theorem c_isLongM (l : Launch) (D : va_G) (tys : List (ClassId × FieldType)) (ws : va_W) (k : Int32) : zCi l D tys yX3_isLong wsX3_isLong ({ frames := 0, cells := 0, slots := 0, locals := 0 }) [.int k] (ws) (fun r u => u = ws ∧ ((r = 1 ∧ ∃ j : Nat, j < 4 ∧ k = nI j) ∨ (r = 0 ∧ ¬ ∃ j : Nat, j < 4 ∧ k = nI j))) := by
  refine z_met (fun A => va_Qi (fun r u => u = ws ∧ ((r = 1 ∧ ∃ j : Nat, j < 4 ∧ k = nI j) ∨ (r = 0 ∧ ¬ ∃ j : Nat, j < 4 ∧ k = nI j))) (zB D tys A) A) (by decide) rfl (Nat.le_of_ble_eq_true rfl) ?_
  intro p e s m below meth c hx hb hr hml hts hown hlocks hname A hA hP hK hD hS ls hl
  have hown : s.vm.findClass RX3 = some m.cls := hown
  have hl : lv_has ls 1 [(0, .int k)] := hl
  refine lv_iload_n hx hb dX3_isLong_0 rfl (lv_at hl 0 rfl) ?_
  refine lv_if_lt (tgt := 13) hx hb dX3_isLong_1 (by decide) (fun c1 => ?_) (fun c1 => ?_)
  · have hc : ¬ ∃ j : Nat, j < 4 ∧ k = nI j := fun ⟨j, h1, h2⟩ => by rw [h2] at c1; exact nI_pos (by omega) c1
    refine lv_iconst (v := nI 0) hx hb dX3_isLong_13 (by decide) ?_
    exact z_zret hx hb hr hlocks dX3_isLong_14 rfl hK hP hD hS (⟨rfl, Or.inr ⟨rfl, hc⟩⟩)
  · obtain ⟨j, hj, rfl⟩ := nI_of c1
    refine lv_iload_n hx hb dX3_isLong_4 rfl (lv_at hl 0 rfl) ?_
    refine lv_iconst (v := nI 4) hx hb dX3_isLong_5 (by decide) ?_
    refine lv_icmp_ge (tgt := 13) hx hb dX3_isLong_6 (by decide) (fun c6 => ?_) (fun c6 => ?_)
    · have hc : ¬ ∃ i : Nat, i < 4 ∧ nI j = nI i := fun ⟨i, h1, h2⟩ => by have := (nI_eq hj (by omega)).mp h2; have := (nI_leI (by omega) hj).mp c6; omega
      refine lv_iconst (v := nI 0) hx hb dX3_isLong_13 (by decide) ?_
      exact z_zret hx hb hr hlocks dX3_isLong_14 rfl hK hP hD hS (⟨rfl, Or.inr ⟨rfl, hc⟩⟩)
    · have hc : j < 4 := Nat.lt_of_not_le fun h => c6 ((nI_leI (by omega) hj).mpr h)
      refine lv_iconst (v := nI 1) hx hb dX3_isLong_9 (by decide) ?_
      refine lv_goto (tgt := 14) hx hb dX3_isLong_10 (by decide) ?_
      exact z_zret hx hb hr hlocks dX3_isLong_14 rfl hK hP hD hS (⟨rfl, Or.inl ⟨rfl, j, hc, rfl⟩⟩)
set_option maxRecDepth 100000 in
set_option maxHeartbeats 4000000 in
theorem c_begin (l : Launch) (D : va_G) (cA : ClassId) (tys : List (ClassId × FieldType)) (d0 : Nat × va_E) (ol hf : Nat) (L : List Nat) (n t : Nat → Nat) (q : Nat → Nat → Int64) (wd wh aU aA aB aC aD aE aAA aBB aDA aCB aSP aLE aRI x2 z2 x3 z3 : Nat) (hLW : LW L n t wd wh aU aA aB aC aD aE aAA aBB aDA aCB aSP aLE aRI x2 z2 x3 z3) (w : Nat) (hw : w ∈ L ∧ n w = 4) (hq : uw (q w 3) < 9223372036854775808) : zCv l D ((cA, .long) :: tys) yX1_begin wsX1_begin ({ frames := 2, cells := 0, slots := 0, locals := 46 }) [.ref ol, .ref w] ([d0, (ol, .inr (1, [.ref hf, .ref aU, .ref x2, .ref z2, .ref x3, .ref z3, .ref aA, .ref aB, .ref aC, .ref aD, .ref aE, .ref aAA, .ref aBB, .ref aDA, .ref aCB, .ref aSP, .ref aLE, .ref aRI])), (hf, .inr (0, [.ref wd, .ref wh]))] ++ PL cA L n q) (fun u => ∃ q' : Nat → Nat → Int64, (∀ b, t b < 20 → t b ≠ 2 → q' b = q b) ∧ holds (q' aU) (wv (q w)) ∧ holds (q' x2) 1 ∧ holds (q' z2) 0 ∧ holds (q' x3) (wv (q w)) ∧ holds (q' z3) 1 ∧ u = [d0, (ol, .inr (1, [.ref hf, .ref aU, .ref x2, .ref z2, .ref x3, .ref z3, .ref aA, .ref aB, .ref aC, .ref aD, .ref aE, .ref aAA, .ref aBB, .ref aDA, .ref aCB, .ref aSP, .ref aLE, .ref aRI])), (hf, .inr (0, [.ref wd, .ref wh]))] ++ PL cA L n q') := by
  refine z_met (fun A => va_Qv (fun u => ∃ q' : Nat → Nat → Int64, (∀ b, t b < 20 → t b ≠ 2 → q' b = q b) ∧ holds (q' aU) (wv (q w)) ∧ holds (q' x2) 1 ∧ holds (q' z2) 0 ∧ holds (q' x3) (wv (q w)) ∧ holds (q' z3) 1 ∧ u = [d0, (ol, .inr (1, [.ref hf, .ref aU, .ref x2, .ref z2, .ref x3, .ref z3, .ref aA, .ref aB, .ref aC, .ref aD, .ref aE, .ref aAA, .ref aBB, .ref aDA, .ref aCB, .ref aSP, .ref aLE, .ref aRI])), (hf, .inr (0, [.ref wd, .ref wh]))] ++ PL cA L n q') (zB D ((cA, .long) :: tys) A) A) (by decide) rfl (Nat.le_of_ble_eq_true rfl) ?_
  intro p e s m below meth c hx hb hr hml hts hown hlocks hname A hA hP hK hD hS ls hl
  have hown : s.vm.findClass RX1 = some m.cls := hown
  have hl : lv_has ls 2 [(0, .ref ol), (1, .ref w)] := hl
  obtain ⟨⟨m_wd, m_wh, m_aU, m_aA, m_aB, m_aC, m_aD, m_aE, m_aAA, m_aBB, m_aDA, m_aCB, m_aSP, m_aLE, m_aRI, m_x2, m_z2, m_x3, m_z3⟩, ⟨t_wd, t_wh, t_aU, t_aA, t_aB, t_aC, t_aD, t_aE, t_aAA, t_aBB, t_aDA, t_aCB, t_aSP, t_aLE, t_aRI, t_x2, t_z2, t_x3, t_z3⟩, ⟨d_0, d_1, d_2, d_3, d_4, d_5⟩⟩ := id hLW
  have w_aU : w ≠ aU := fun e => by rw [e, m_aU.2] at hw; omega
  have w_x2 : w ≠ x2 := fun e => by rw [e, m_x2.2] at hw; omega
  have w_z2 : w ≠ z2 := fun e => by rw [e, m_z2.2] at hw; omega
  have w_x3 : w ≠ x3 := fun e => by rw [e, m_x3.2] at hw; omega
  have w_z3 : w ≠ z3 := fun e => by rw [e, m_z3.2] at hw; omega
  refine lv_aload_n hx hb dX1_begin_0 rfl (lv_at hl 0 rfl) ?_
  refine va_get (D := D) (ci := 1) (v := .ref aU) (C := RX1) (T := TX1) (N := 18) hx hb hts (by decide +kernel) hown hK hP 1 rfl rfl 1 (by decide) (hts (.fieldLink RX1 22 "LadderDesk$Ladder" "u" "[J") (by decide +kernel)) (fun _ h9 => h9) rfl dX1_begin_1 ?_
  refine lv_aload_n hx hb dX1_begin_4 rfl (lv_at hl 1 rfl) ?_
  refine z_callv (va_runS (As := [.ref aU, .ref w]) (rest := []) ⟨hx, hb, hml, hown, hts⟩ (c_read l D cA tys [d0, (ol, .inr (1, [.ref hf, .ref aU, .ref x2, .ref z2, .ref x3, .ref z3, .ref aA, .ref aB, .ref aC, .ref aD, .ref aE, .ref aAA, .ref aBB, .ref aDA, .ref aCB, .ref aSP, .ref aLE, .ref aRI])), (hf, .inr (0, [.ref wd, .ref wh]))] L n q aU w m_aU hw hq _) (va_cwS 2 hts gX1_begin_X0_read rfl rfl rfl (by decide +kernel) ⟨Nat.le_of_ble_eq_true rfl, Nat.le_of_ble_eq_true rfl⟩) (z_preS _ hK hP hD) rfl rfl hl.1 rfl (lv_room (Nat.le_of_ble_eq_true rfl)) dX1_begin_5 ⟨Nat.le_of_ble_eq_true rfl, Nat.le_of_ble_eq_true rfl⟩) hD hS hA (fun u H locs hu hP hD hS => ?_)
  obtain ⟨g1, s1, v1, rfl⟩ := hu
  obtain ⟨q1, hq1⟩ : ∃ z, z = va_up q aU g1 := ⟨_, rfl⟩
  rw [← hq1] at hP hD
  refine lv_aload_n hx hb dX1_begin_8 rfl (lv_at hl 0 rfl) ?_
  refine va_get (D := D) (ci := 1) (v := .ref x2) (C := RX1) (T := TX1) (N := 18) hx hb hts (by decide +kernel) hown hK hP 1 rfl rfl 2 (by decide) (hts (.fieldLink RX1 26 "LadderDesk$Ladder" "x2" "[J") (by decide +kernel)) (fun _ h9 => h9) rfl dX1_begin_9 ?_
  refine lv_lconst (v := 1) hx hb dX1_begin_12 (by decide) ?_
  refine z_callv (va_runS (As := [.ref x2, .long 1]) (rest := []) ⟨hx, hb, hml, hown, hts⟩ (c_setSmall l D cA tys [d0, (ol, .inr (1, [.ref hf, .ref aU, .ref x2, .ref z2, .ref x3, .ref z3, .ref aA, .ref aB, .ref aC, .ref aD, .ref aE, .ref aAA, .ref aBB, .ref aDA, .ref aCB, .ref aSP, .ref aLE, .ref aRI])), (hf, .inr (0, [.ref wd, .ref wh]))] L n q1 x2 1 m_x2 _) (va_cwS 2 hts gX1_begin_X0_setSmall rfl rfl rfl (by decide +kernel) ⟨Nat.le_of_ble_eq_true rfl, Nat.le_of_ble_eq_true rfl⟩) (z_preS _ hK hP hD) rfl rfl hl.1 rfl (lv_room (Nat.le_of_ble_eq_true rfl)) dX1_begin_13 ⟨Nat.le_of_ble_eq_true rfl, Nat.le_of_ble_eq_true rfl⟩) hD hS hA (fun u H locs hu hP hD hS => ?_)
  subst hu
  obtain ⟨q2, hq2⟩ : ∃ z, z = (va_up q1 x2 (fun j => if j = 0 then 1 else if j < 10 then 0 else q1 x2 j)) := ⟨_, rfl⟩
  rw [← hq2] at hP hD
  refine lv_aload_n hx hb dX1_begin_16 rfl (lv_at hl 0 rfl) ?_
  refine va_get (D := D) (ci := 1) (v := .ref z2) (C := RX1) (T := TX1) (N := 18) hx hb hts (by decide +kernel) hown hK hP 1 rfl rfl 3 (by decide) (hts (.fieldLink RX1 29 "LadderDesk$Ladder" "z2" "[J") (by decide +kernel)) (fun _ h9 => h9) rfl dX1_begin_17 ?_
  refine lv_lconst (v := 0) hx hb dX1_begin_20 (by decide) ?_
  refine z_callv (va_runS (As := [.ref z2, .long 0]) (rest := []) ⟨hx, hb, hml, hown, hts⟩ (c_setSmall l D cA tys [d0, (ol, .inr (1, [.ref hf, .ref aU, .ref x2, .ref z2, .ref x3, .ref z3, .ref aA, .ref aB, .ref aC, .ref aD, .ref aE, .ref aAA, .ref aBB, .ref aDA, .ref aCB, .ref aSP, .ref aLE, .ref aRI])), (hf, .inr (0, [.ref wd, .ref wh]))] L n q2 z2 0 m_z2 _) (va_cwS 2 hts gX1_begin_X0_setSmall rfl rfl rfl (by decide +kernel) ⟨Nat.le_of_ble_eq_true rfl, Nat.le_of_ble_eq_true rfl⟩) (z_preS _ hK hP hD) rfl rfl hl.1 rfl (lv_room (Nat.le_of_ble_eq_true rfl)) dX1_begin_21 ⟨Nat.le_of_ble_eq_true rfl, Nat.le_of_ble_eq_true rfl⟩) hD hS hA (fun u H locs hu hP hD hS => ?_)
  subst hu
  obtain ⟨q3, hq3⟩ : ∃ z, z = (va_up q2 z2 (fun j => if j = 0 then 0 else if j < 10 then 0 else q2 z2 j)) := ⟨_, rfl⟩
  rw [← hq3] at hP hD
  have ew : q3 w = q w := by rw [hq3, va_up_ne _ _ w_z2, hq2, va_up_ne _ _ w_x2, hq1, va_up_ne _ _ w_aU]
  refine lv_aload_n hx hb dX1_begin_24 rfl (lv_at hl 0 rfl) ?_
  refine va_get (D := D) (ci := 1) (v := .ref x3) (C := RX1) (T := TX1) (N := 18) hx hb hts (by decide +kernel) hown hK hP 1 rfl rfl 4 (by decide) (hts (.fieldLink RX1 32 "LadderDesk$Ladder" "x3" "[J") (by decide +kernel)) (fun _ h9 => h9) rfl dX1_begin_25 ?_
  refine lv_aload_n hx hb dX1_begin_28 rfl (lv_at hl 1 rfl) ?_
  refine z_callv (va_runS (As := [.ref x3, .ref w]) (rest := []) ⟨hx, hb, hml, hown, hts⟩ (c_read l D cA tys [d0, (ol, .inr (1, [.ref hf, .ref aU, .ref x2, .ref z2, .ref x3, .ref z3, .ref aA, .ref aB, .ref aC, .ref aD, .ref aE, .ref aAA, .ref aBB, .ref aDA, .ref aCB, .ref aSP, .ref aLE, .ref aRI])), (hf, .inr (0, [.ref wd, .ref wh]))] L n q3 x3 w m_x3 hw (by rw [ew]; exact hq) _) (va_cwS 2 hts gX1_begin_X0_read rfl rfl rfl (by decide +kernel) ⟨Nat.le_of_ble_eq_true rfl, Nat.le_of_ble_eq_true rfl⟩) (z_preS _ hK hP hD) rfl rfl hl.1 rfl (lv_room (Nat.le_of_ble_eq_true rfl)) dX1_begin_29 ⟨Nat.le_of_ble_eq_true rfl, Nat.le_of_ble_eq_true rfl⟩) hD hS hA (fun u H locs hu hP hD hS => ?_)
  obtain ⟨g4, s4, v4, rfl⟩ := hu
  rw [ew] at v4
  obtain ⟨q4, hq4⟩ : ∃ z, z = va_up q3 x3 g4 := ⟨_, rfl⟩
  rw [← hq4] at hP hD
  refine lv_aload_n hx hb dX1_begin_32 rfl (lv_at hl 0 rfl) ?_
  refine va_get (D := D) (ci := 1) (v := .ref z3) (C := RX1) (T := TX1) (N := 18) hx hb hts (by decide +kernel) hown hK hP 1 rfl rfl 5 (by decide) (hts (.fieldLink RX1 35 "LadderDesk$Ladder" "z3" "[J") (by decide +kernel)) (fun _ h9 => h9) rfl dX1_begin_33 ?_
  refine lv_lconst (v := 1) hx hb dX1_begin_36 (by decide) ?_
  refine z_callv (va_runS (As := [.ref z3, .long 1]) (rest := []) ⟨hx, hb, hml, hown, hts⟩ (c_setSmall l D cA tys [d0, (ol, .inr (1, [.ref hf, .ref aU, .ref x2, .ref z2, .ref x3, .ref z3, .ref aA, .ref aB, .ref aC, .ref aD, .ref aE, .ref aAA, .ref aBB, .ref aDA, .ref aCB, .ref aSP, .ref aLE, .ref aRI])), (hf, .inr (0, [.ref wd, .ref wh]))] L n q4 z3 1 m_z3 _) (va_cwS 2 hts gX1_begin_X0_setSmall rfl rfl rfl (by decide +kernel) ⟨Nat.le_of_ble_eq_true rfl, Nat.le_of_ble_eq_true rfl⟩) (z_preS _ hK hP hD) rfl rfl hl.1 rfl (lv_room (Nat.le_of_ble_eq_true rfl)) dX1_begin_37 ⟨Nat.le_of_ble_eq_true rfl, Nat.le_of_ble_eq_true rfl⟩) hD hS hA (fun u H locs hu hP hD hS => ?_)
  subst hu
  obtain ⟨q5, hq5⟩ : ∃ z, z = (va_up q4 z3 (fun j => if j = 0 then 1 else if j < 10 then 0 else q4 z3 j)) := ⟨_, rfl⟩
  rw [← hq5] at hP hD
  have r1 : ∀ b, b ≠ aU → q1 b = q b := fun b h => by rw [hq1, va_up_ne _ _ h]
  have r2 : ∀ b, b ≠ x2 → q2 b = q1 b := fun b h => by rw [hq2, va_up_ne _ _ h]
  have r3 : ∀ b, b ≠ z2 → q3 b = q2 b := fun b h => by rw [hq3, va_up_ne _ _ h]
  have r4 : ∀ b, b ≠ x3 → q4 b = q3 b := fun b h => by rw [hq4, va_up_ne _ _ h]
  have r5 : ∀ b, b ≠ z3 → q5 b = q4 b := fun b h => by rw [hq5, va_up_ne _ _ h]
  have eU : q5 aU = g1 := by rw [r5 aU (show aU ≠ z3 from fun h => by have := congrArg t h; omega), r4 aU (show aU ≠ x3 from fun h => by have := congrArg t h; omega), r3 aU (show aU ≠ z2 from fun h => by have := congrArg t h; omega), r2 aU (show aU ≠ x2 from fun h => by have := congrArg t h; omega), hq1, va_up_self]
  have eX2 : q5 x2 = q2 x2 := by rw [r5 x2 (show x2 ≠ z3 from fun h => by have := congrArg t h; omega), r4 x2 (show x2 ≠ x3 from fun h => by have := congrArg t h; omega), r3 x2 (show x2 ≠ z2 from fun h => by have := congrArg t h; omega)]
  have eZ2 : q5 z2 = q3 z2 := by rw [r5 z2 (show z2 ≠ z3 from fun h => by have := congrArg t h; omega), r4 z2 (show z2 ≠ x3 from fun h => by have := congrArg t h; omega)]
  have eX3 : q5 x3 = g4 := by rw [r5 x3 (show x3 ≠ z3 from fun h => by have := congrArg t h; omega), hq4, va_up_self]
  exact z_vret hx hb hr hlocks dX1_begin_40 hK hP hD hS (⟨q5, fun b h1 h2 => by rw [r5 b (show b ≠ z3 from fun h => by have := congrArg t h; omega), r4 b (show b ≠ x3 from fun h => by have := congrArg t h; omega), r3 b (show b ≠ z2 from fun h => by have := congrArg t h; omega), r2 b (show b ≠ x2 from fun h => by have := congrArg t h; omega), r1 b (show b ≠ aU from fun h => by have := congrArg t h; omega)], by rw [eU]; exact ⟨s1, cg_of v1⟩, by rw [eX2]; exact small_holds (by rw [hq2, va_up_self]; rfl) (by decide) (fun j h1 h2 => by rw [hq2, va_up_self, if_neg (by omega), if_pos h2]), by rw [eZ2]; exact small_holds (by rw [hq3, va_up_self]; rfl) (by decide) (fun j h1 h2 => by rw [hq3, va_up_self, if_neg (by omega), if_pos h2]), by rw [eX3]; exact ⟨s4, cg_of v4⟩, small_holds (by rw [hq5, va_up_self]; rfl) (by decide) (fun j h1 h2 => by rw [hq5, va_up_self, if_neg (by omega), if_pos h2]), rfl⟩)
set_option maxRecDepth 100000 in
set_option maxHeartbeats 4000000 in
theorem c_walk (l : Launch) (D : va_G) (cA : ClassId) (tys : List (ClassId × FieldType)) (d0 : Nat × va_E) (ol hf : Nat) (L : List Nat) (n t : Nat → Nat) (q : Nat → Nat → Int64) (wd wh aU aA aB aC aD aE aAA aBB aDA aCB aSP aLE aRI x2 z2 x3 z3 : Nat) (hLW : LW L n t wd wh aU aA aB aC aD aE aAA aBB aDA aCB aSP aLE aRI x2 z2 x3 z3) (bv : Int32) (bt : Bool) (hbt : bt = true ↔ ¬ bv = 0) (vu : Int) (hU : holds (q aU) vu) (vx2 vz2 vx3 vz3 : Int) (hx2 : holds (q x2) vx2) (hz2 : holds (q z2) vz2) (hx3 : holds (q x3) vx3) (hz3 : holds (q z3) vz3) : zCv l D ((cA, .long) :: tys) yX1_walk wsX1_walk ({ frames := 4, cells := 0, slots := 0, locals := 94 }) [.ref ol, .int bv] ([d0, (ol, .inr (1, [.ref hf, .ref aU, .ref x2, .ref z2, .ref x3, .ref z3, .ref aA, .ref aB, .ref aC, .ref aD, .ref aE, .ref aAA, .ref aBB, .ref aDA, .ref aCB, .ref aSP, .ref aLE, .ref aRI])), (hf, .inr (0, [.ref wd, .ref wh]))] ++ PL cA L n q) (fun u => ∃ q' : Nat → Nat → Int64, (∀ b, t b = 2 ∨ (13 ≤ t b ∧ t b < 20) → q' b = q b) ∧ holds (q' x2) (wX2 bt vx2 vz2 vx3 vz3) ∧ holds (q' z2) (wZ2 bt vu vx2 vz2 vx3 vz3) ∧ holds (q' x3) (wX3 bt vx2 vz2 vx3 vz3) ∧ holds (q' z3) (wZ3 bt vu vx2 vz2 vx3 vz3) ∧ u = [d0, (ol, .inr (1, [.ref hf, .ref aU, .ref x2, .ref z2, .ref x3, .ref z3, .ref aA, .ref aB, .ref aC, .ref aD, .ref aE, .ref aAA, .ref aBB, .ref aDA, .ref aCB, .ref aSP, .ref aLE, .ref aRI])), (hf, .inr (0, [.ref wd, .ref wh]))] ++ PL cA L n q') := by
  refine z_met (fun A => va_Qv (fun u => ∃ q' : Nat → Nat → Int64, (∀ b, t b = 2 ∨ (13 ≤ t b ∧ t b < 20) → q' b = q b) ∧ holds (q' x2) (wX2 bt vx2 vz2 vx3 vz3) ∧ holds (q' z2) (wZ2 bt vu vx2 vz2 vx3 vz3) ∧ holds (q' x3) (wX3 bt vx2 vz2 vx3 vz3) ∧ holds (q' z3) (wZ3 bt vu vx2 vz2 vx3 vz3) ∧ u = [d0, (ol, .inr (1, [.ref hf, .ref aU, .ref x2, .ref z2, .ref x3, .ref z3, .ref aA, .ref aB, .ref aC, .ref aD, .ref aE, .ref aAA, .ref aBB, .ref aDA, .ref aCB, .ref aSP, .ref aLE, .ref aRI])), (hf, .inr (0, [.ref wd, .ref wh]))] ++ PL cA L n q') (zB D ((cA, .long) :: tys) A) A) (by decide) rfl (Nat.le_of_ble_eq_true rfl) ?_
  intro p e s m below meth c hx hb hr hml hts hown hlocks hname A hA hP hK hD hS ls hl
  have hown : s.vm.findClass RX1 = some m.cls := hown
  have hl : lv_has ls 2 [(0, .ref ol), (1, .int bv)] := hl
  obtain ⟨⟨m_wd, m_wh, m_aU, m_aA, m_aB, m_aC, m_aD, m_aE, m_aAA, m_aBB, m_aDA, m_aCB, m_aSP, m_aLE, m_aRI, m_x2, m_z2, m_x3, m_z3⟩, ⟨t_wd, t_wh, t_aU, t_aA, t_aB, t_aC, t_aD, t_aE, t_aAA, t_aBB, t_aDA, t_aCB, t_aSP, t_aLE, t_aRI, t_x2, t_z2, t_x3, t_z3⟩, ⟨d_0, d_1, d_2, d_3, d_4, d_5⟩⟩ := id hLW
  refine lv_iload_n hx hb dX1_walk_0 rfl (lv_at hl 1 rfl) ?_
  refine lv_if_eq (tgt := 8) hx hb dX1_walk_1 (by decide) (fun c1 => ?_) (fun c1 => ?_)
  · have hb0 : bt = false := by cases bt with | false => rfl | true => exact absurd c1 (hbt.mp rfl)
    subst hb0
    refine lv_aload_n hx hb dX1_walk_8 rfl (lv_at hl 0 rfl) ?_
    refine z_callv (va_runV (As := []) (rest := []) ⟨hx, hb, hml, hown, hts⟩ (c_makeSums l D cA tys d0 ol hf L n t q wd wh aU aA aB aC aD aE aAA aBB aDA aCB aSP aLE aRI x2 z2 x3 z3 hLW vx2 vz2 vx3 vz3 hx2 hz2 hx3 hz3 _) (cwV 0 hts gX1_walk_X1_makeSums rfl rfl rfl (by decide +kernel) ⟨Nat.le_of_ble_eq_true rfl, Nat.le_of_ble_eq_true rfl⟩) (z_preV _ hK hP hD (ci := 1) (q0 := 1) rfl rfl) rfl rfl hl.1 rfl (lv_room (Nat.le_of_ble_eq_true rfl)) dX1_walk_9 ⟨Nat.le_of_ble_eq_true rfl, Nat.le_of_ble_eq_true rfl⟩) hD hS hA (fun u H locs hu hP hD hS => ?_)
    obtain ⟨q1, k1, ⟨a1, a2⟩, ⟨b1, b2⟩, ⟨c1, c2⟩, ⟨e1, e2⟩, rfl⟩ := hu
    refine lv_aload_n hx hb dX1_walk_12 rfl (lv_at hl 0 rfl) ?_
    refine z_callv (va_runV (As := []) (rest := []) ⟨hx, hb, hml, hown, hts⟩ (c_makeDouble l D cA tys d0 ol hf L n t q1 wd wh aU aA aB aC aD aE aAA aBB aDA aCB aSP aLE aRI x2 z2 x3 z3 hLW vx2 vz2 a1 a2 b1 b2 _) (cwV 0 hts gX1_walk_X1_makeDouble rfl rfl rfl (by decide +kernel) ⟨Nat.le_of_ble_eq_true rfl, Nat.le_of_ble_eq_true rfl⟩) (z_preV _ hK hP hD (ci := 1) (q0 := 1) rfl rfl) rfl rfl hl.1 rfl (lv_room (Nat.le_of_ble_eq_true rfl)) dX1_walk_13 ⟨Nat.le_of_ble_eq_true rfl, Nat.le_of_ble_eq_true rfl⟩) hD hS hA (fun u H locs hu hP hD hS => ?_)
    obtain ⟨q2, k2, n1, n2, rfl⟩ := hu
    have f_aA : q2 aA = q1 aA := k2 aA (by omega) (by omega) (show aA ≠ x2 from fun h => by have := congrArg t h; omega) (show aA ≠ z2 from fun h => by have := congrArg t h; omega)
    have f_aB : q2 aB = q1 aB := k2 aB (by omega) (by omega) (show aB ≠ x2 from fun h => by have := congrArg t h; omega) (show aB ≠ z2 from fun h => by have := congrArg t h; omega)
    have f_aC : q2 aC = q1 aC := k2 aC (by omega) (by omega) (show aC ≠ x2 from fun h => by have := congrArg t h; omega) (show aC ≠ z2 from fun h => by have := congrArg t h; omega)
    have f_aD : q2 aD = q1 aD := k2 aD (by omega) (by omega) (show aD ≠ x2 from fun h => by have := congrArg t h; omega) (show aD ≠ z2 from fun h => by have := congrArg t h; omega)
    have f_aU : q2 aU = q1 aU := k2 aU (by omega) (by omega) (show aU ≠ x2 from fun h => by have := congrArg t h; omega) (show aU ≠ z2 from fun h => by have := congrArg t h; omega)
    have f_U : q2 aU = q aU := by rw [f_aU, k1 aU (by omega)]
    refine lv_aload_n hx hb dX1_walk_16 rfl (lv_at hl 0 rfl) ?_
    refine z_callv (va_runV (As := []) (rest := []) ⟨hx, hb, hml, hown, hts⟩ (c_makeOther l D cA tys d0 ol hf L n t q2 wd wh aU aA aB aC aD aE aAA aBB aDA aCB aSP aLE aRI x2 z2 x3 z3 hLW vu vx2 vz2 vx3 vz3 (by rw [f_U]; exact hU) (by rw [f_aA]; exact a1) (by rw [f_aA]; exact a2) (by rw [f_aB]; exact b1) (by rw [f_aB]; exact b2) (by rw [f_aC]; exact c1) (by rw [f_aC]; exact c2) (by rw [f_aD]; exact e1) (by rw [f_aD]; exact e2) _) (cwV 0 hts gX1_walk_X1_makeOther rfl rfl rfl (by decide +kernel) ⟨Nat.le_of_ble_eq_true rfl, Nat.le_of_ble_eq_true rfl⟩) (z_preV _ hK hP hD (ci := 1) (q0 := 1) rfl rfl) rfl rfl hl.1 rfl (lv_room (Nat.le_of_ble_eq_true rfl)) dX1_walk_17 ⟨Nat.le_of_ble_eq_true rfl, Nat.le_of_ble_eq_true rfl⟩) hD hS hA (fun u H locs hu hP hD hS => ?_)
    obtain ⟨q3, k3, n3, n4, rfl⟩ := hu
    have p1 : holds (q3 x2) _ := (k3 x2 (by omega) (by omega) (show x2 ≠ x3 from fun h => by have := congrArg t h; omega) (show x2 ≠ z3 from fun h => by have := congrArg t h; omega)) ▸ n1
    have p2 : holds (q3 z2) _ := (k3 z2 (by omega) (by omega) (show z2 ≠ x3 from fun h => by have := congrArg t h; omega) (show z2 ≠ z3 from fun h => by have := congrArg t h; omega)) ▸ n2
    have kk : ∀ b, t b = 2 ∨ (13 ≤ t b ∧ t b < 20) → q3 b = q b := fun b hb => by rw [k3 b (by omega) (by omega) (show b ≠ x3 from fun h => by have := congrArg t h; omega) (show b ≠ z3 from fun h => by have := congrArg t h; omega), k2 b (by omega) (by omega) (show b ≠ x2 from fun h => by have := congrArg t h; omega) (show b ≠ z2 from fun h => by have := congrArg t h; omega), k1 b (by omega)]
    refine lv_iload_n hx hb dX1_walk_20 rfl (lv_at hl 1 rfl) ?_
    refine lv_if_eq (tgt := 28) hx hb dX1_walk_21 (by decide) (fun _ => ?_) (fun c21 => absurd ‹bv = 0› c21)
    exact z_vret hx hb hr hlocks dX1_walk_28 hK hP hD hS (⟨q3, kk, p1, p2, n3, n4, rfl⟩)
  · have hb0 : bt = true := hbt.mpr c1
    subst hb0
    have hbv := c1
    refine lv_aload_n hx hb dX1_walk_4 rfl (lv_at hl 0 rfl) ?_
    refine z_callv (va_runV (As := []) (rest := []) ⟨hx, hb, hml, hown, hts⟩ (c_changePlaces l D cA tys d0 ol hf L n t q wd wh aU aA aB aC aD aE aAA aBB aDA aCB aSP aLE aRI x2 z2 x3 z3 hLW _) (cwV 0 hts gX1_walk_X1_changePlaces rfl rfl rfl (by decide +kernel) ⟨Nat.le_of_ble_eq_true rfl, Nat.le_of_ble_eq_true rfl⟩) (z_preV _ hK hP hD (ci := 1) (q0 := 1) rfl rfl) rfl rfl hl.1 rfl (lv_room (Nat.le_of_ble_eq_true rfl)) dX1_walk_5 ⟨Nat.le_of_ble_eq_true rfl, Nat.le_of_ble_eq_true rfl⟩) hD hS hA (fun u H locs hu hP hD hS => ?_)
    subst hu
    refine lv_aload_n hx hb dX1_walk_8 rfl (lv_at hl 0 rfl) ?_
    refine z_callv (va_runV (As := []) (rest := []) ⟨hx, hb, hml, hown, hts⟩ (c_makeSums l D cA tys d0 ol hf L n t q wd wh aU aA aB aC aD aE aAA aBB aDA aCB aSP aLE aRI x3 z3 x2 z2 (LW_swap hLW) vx3 vz3 vx2 vz2 hx3 hz3 hx2 hz2 _) (cwV 0 hts gX1_walk_X1_makeSums rfl rfl rfl (by decide +kernel) ⟨Nat.le_of_ble_eq_true rfl, Nat.le_of_ble_eq_true rfl⟩) (z_preV _ hK hP hD (ci := 1) (q0 := 1) rfl rfl) rfl rfl hl.1 rfl (lv_room (Nat.le_of_ble_eq_true rfl)) dX1_walk_9 ⟨Nat.le_of_ble_eq_true rfl, Nat.le_of_ble_eq_true rfl⟩) hD hS hA (fun u H locs hu hP hD hS => ?_)
    obtain ⟨q1, k1, ⟨a1, a2⟩, ⟨b1, b2⟩, ⟨c1, c2⟩, ⟨e1, e2⟩, rfl⟩ := hu
    refine lv_aload_n hx hb dX1_walk_12 rfl (lv_at hl 0 rfl) ?_
    refine z_callv (va_runV (As := []) (rest := []) ⟨hx, hb, hml, hown, hts⟩ (c_makeDouble l D cA tys d0 ol hf L n t q1 wd wh aU aA aB aC aD aE aAA aBB aDA aCB aSP aLE aRI x3 z3 x2 z2 (LW_swap hLW) vx3 vz3 a1 a2 b1 b2 _) (cwV 0 hts gX1_walk_X1_makeDouble rfl rfl rfl (by decide +kernel) ⟨Nat.le_of_ble_eq_true rfl, Nat.le_of_ble_eq_true rfl⟩) (z_preV _ hK hP hD (ci := 1) (q0 := 1) rfl rfl) rfl rfl hl.1 rfl (lv_room (Nat.le_of_ble_eq_true rfl)) dX1_walk_13 ⟨Nat.le_of_ble_eq_true rfl, Nat.le_of_ble_eq_true rfl⟩) hD hS hA (fun u H locs hu hP hD hS => ?_)
    obtain ⟨q2, k2, n1, n2, rfl⟩ := hu
    have f_aA : q2 aA = q1 aA := k2 aA (by omega) (by omega) (show aA ≠ x3 from fun h => by have := congrArg t h; omega) (show aA ≠ z3 from fun h => by have := congrArg t h; omega)
    have f_aB : q2 aB = q1 aB := k2 aB (by omega) (by omega) (show aB ≠ x3 from fun h => by have := congrArg t h; omega) (show aB ≠ z3 from fun h => by have := congrArg t h; omega)
    have f_aC : q2 aC = q1 aC := k2 aC (by omega) (by omega) (show aC ≠ x3 from fun h => by have := congrArg t h; omega) (show aC ≠ z3 from fun h => by have := congrArg t h; omega)
    have f_aD : q2 aD = q1 aD := k2 aD (by omega) (by omega) (show aD ≠ x3 from fun h => by have := congrArg t h; omega) (show aD ≠ z3 from fun h => by have := congrArg t h; omega)
    have f_aU : q2 aU = q1 aU := k2 aU (by omega) (by omega) (show aU ≠ x3 from fun h => by have := congrArg t h; omega) (show aU ≠ z3 from fun h => by have := congrArg t h; omega)
    have f_U : q2 aU = q aU := by rw [f_aU, k1 aU (by omega)]
    refine lv_aload_n hx hb dX1_walk_16 rfl (lv_at hl 0 rfl) ?_
    refine z_callv (va_runV (As := []) (rest := []) ⟨hx, hb, hml, hown, hts⟩ (c_makeOther l D cA tys d0 ol hf L n t q2 wd wh aU aA aB aC aD aE aAA aBB aDA aCB aSP aLE aRI x3 z3 x2 z2 (LW_swap hLW) vu vx3 vz3 vx2 vz2 (by rw [f_U]; exact hU) (by rw [f_aA]; exact a1) (by rw [f_aA]; exact a2) (by rw [f_aB]; exact b1) (by rw [f_aB]; exact b2) (by rw [f_aC]; exact c1) (by rw [f_aC]; exact c2) (by rw [f_aD]; exact e1) (by rw [f_aD]; exact e2) _) (cwV 0 hts gX1_walk_X1_makeOther rfl rfl rfl (by decide +kernel) ⟨Nat.le_of_ble_eq_true rfl, Nat.le_of_ble_eq_true rfl⟩) (z_preV _ hK hP hD (ci := 1) (q0 := 1) rfl rfl) rfl rfl hl.1 rfl (lv_room (Nat.le_of_ble_eq_true rfl)) dX1_walk_17 ⟨Nat.le_of_ble_eq_true rfl, Nat.le_of_ble_eq_true rfl⟩) hD hS hA (fun u H locs hu hP hD hS => ?_)
    obtain ⟨q3, k3, n3, n4, rfl⟩ := hu
    have p1 : holds (q3 x3) _ := (k3 x3 (by omega) (by omega) (show x3 ≠ x2 from fun h => by have := congrArg t h; omega) (show x3 ≠ z2 from fun h => by have := congrArg t h; omega)) ▸ n1
    have p2 : holds (q3 z3) _ := (k3 z3 (by omega) (by omega) (show z3 ≠ x2 from fun h => by have := congrArg t h; omega) (show z3 ≠ z2 from fun h => by have := congrArg t h; omega)) ▸ n2
    have kk : ∀ b, t b = 2 ∨ (13 ≤ t b ∧ t b < 20) → q3 b = q b := fun b hb => by rw [k3 b (by omega) (by omega) (show b ≠ x2 from fun h => by have := congrArg t h; omega) (show b ≠ z2 from fun h => by have := congrArg t h; omega), k2 b (by omega) (by omega) (show b ≠ x3 from fun h => by have := congrArg t h; omega) (show b ≠ z3 from fun h => by have := congrArg t h; omega), k1 b (by omega)]
    refine lv_iload_n hx hb dX1_walk_20 rfl (lv_at hl 1 rfl) ?_
    refine lv_if_eq (tgt := 28) hx hb dX1_walk_21 (by decide) (fun c21 => absurd c21 hbv) (fun _ => ?_)
    refine lv_aload_n hx hb dX1_walk_24 rfl (lv_at hl 0 rfl) ?_
    refine z_callv (va_runV (As := []) (rest := []) ⟨hx, hb, hml, hown, hts⟩ (c_changePlaces l D cA tys d0 ol hf L n t q3 wd wh aU aA aB aC aD aE aAA aBB aDA aCB aSP aLE aRI x3 z3 x2 z2 (LW_swap hLW) _) (cwV 0 hts gX1_walk_X1_changePlaces rfl rfl rfl (by decide +kernel) ⟨Nat.le_of_ble_eq_true rfl, Nat.le_of_ble_eq_true rfl⟩) (z_preV _ hK hP hD (ci := 1) (q0 := 1) rfl rfl) rfl rfl hl.1 rfl (lv_room (Nat.le_of_ble_eq_true rfl)) dX1_walk_25 ⟨Nat.le_of_ble_eq_true rfl, Nat.le_of_ble_eq_true rfl⟩) hD hS hA (fun u H locs hu hP hD hS => ?_)
    subst hu
    exact z_vret hx hb hr hlocks dX1_walk_28 hK hP hD hS (⟨q3, kk, n3, n4, p1, p2, rfl⟩)
set_option maxRecDepth 100000 in
set_option maxHeartbeats 4000000 in
theorem c_rowOf (l : Launch) (D : va_G) (cA : ClassId) (tys : List (ClassId × FieldType)) (d0 : Nat × va_E) (ol hf : Nat) (L : List Nat) (n t : Nat → Nat) (q : Nat → Nat → Int64) (wd wh aU aA aB aC aD aE aAA aBB aDA aCB aSP aLE aRI x2 z2 x3 z3 : Nat) (hLW : LW L n t wd wh aU aA aB aC aD aE aAA aBB aDA aCB aSP aLE aRI x2 z2 x3 z3) (k : Nat) (hk : k < 5) : zCr l D ((cA, .long) :: tys) yX1_rowOf wsX1_rowOf ({ frames := 0, cells := 0, slots := 0, locals := 0 }) [.ref ol, .int (nI k)] ([d0, (ol, .inr (1, [.ref hf, .ref aU, .ref x2, .ref z2, .ref x3, .ref z3, .ref aA, .ref aB, .ref aC, .ref aD, .ref aE, .ref aAA, .ref aBB, .ref aDA, .ref aCB, .ref aSP, .ref aLE, .ref aRI])), (hf, .inr (0, [.ref wd, .ref wh]))] ++ PL cA L n q) (fun u r => r = rsel k x2 z2 x3 z3 aU ∧ u = [d0, (ol, .inr (1, [.ref hf, .ref aU, .ref x2, .ref z2, .ref x3, .ref z3, .ref aA, .ref aB, .ref aC, .ref aD, .ref aE, .ref aAA, .ref aBB, .ref aDA, .ref aCB, .ref aSP, .ref aLE, .ref aRI])), (hf, .inr (0, [.ref wd, .ref wh]))] ++ PL cA L n q) := by
  refine z_met (fun A => va_Qr (fun _ => True) (zBr D ((cA, .long) :: tys) A (fun u r => r = rsel k x2 z2 x3 z3 aU ∧ u = [d0, (ol, .inr (1, [.ref hf, .ref aU, .ref x2, .ref z2, .ref x3, .ref z3, .ref aA, .ref aB, .ref aC, .ref aD, .ref aE, .ref aAA, .ref aBB, .ref aDA, .ref aCB, .ref aSP, .ref aLE, .ref aRI])), (hf, .inr (0, [.ref wd, .ref wh]))] ++ PL cA L n q)) A) (by decide) rfl (Nat.le_of_ble_eq_true rfl) ?_
  intro p e s m below meth c hx hb hr hml hts hown hlocks hname A hA hP hK hD hS ls hl
  have hown : s.vm.findClass RX1 = some m.cls := hown
  have hl : lv_has ls 2 [(0, .ref ol), (1, .int (nI k))] := hl
  obtain ⟨⟨m_wd, m_wh, m_aU, m_aA, m_aB, m_aC, m_aD, m_aE, m_aAA, m_aBB, m_aDA, m_aCB, m_aSP, m_aLE, m_aRI, m_x2, m_z2, m_x3, m_z3⟩, ⟨t_wd, t_wh, t_aU, t_aA, t_aB, t_aC, t_aD, t_aE, t_aAA, t_aBB, t_aDA, t_aCB, t_aSP, t_aLE, t_aRI, t_x2, t_z2, t_x3, t_z3⟩, ⟨d_0, d_1, d_2, d_3, d_4, d_5⟩⟩ := id hLW
  refine lv_iload_n hx hb dX1_rowOf_0 rfl (lv_at hl 1 rfl) ?_
  rcases (show k = 0 ∨ k = 1 ∨ k = 2 ∨ k = 3 ∨ k = 4 by omega) with rfl | rfl | rfl | rfl | rfl
  · refine lv_tableIn (off := 31) (tgt := 32) hx hb dX1_rowOf_1 (by decide) (by decide) (by decide) (by decide) ?_
    refine lv_aload_n hx hb dX1_rowOf_32 rfl (lv_at hl 0 rfl) ?_
    refine va_get (D := D) (ci := 1) (v := .ref x2) (C := RX1) (T := TX1) (N := 18) hx hb hts (by decide +kernel) hown hK hP 1 rfl rfl 2 (by decide) (hts (.fieldLink RX1 26 "LadderDesk$Ladder" "x2" "[J") (by decide +kernel)) (fun _ h9 => h9) rfl dX1_rowOf_33 ?_
    exact z_rret hx hb hr hlocks dX1_rowOf_36 hK hP hD hS ⟨rfl, rfl⟩
  · refine lv_tableIn (off := 36) (tgt := 37) hx hb dX1_rowOf_1 (by decide) (by decide) (by decide) (by decide) ?_
    refine lv_aload_n hx hb dX1_rowOf_37 rfl (lv_at hl 0 rfl) ?_
    refine va_get (D := D) (ci := 1) (v := .ref z2) (C := RX1) (T := TX1) (N := 18) hx hb hts (by decide +kernel) hown hK hP 1 rfl rfl 3 (by decide) (hts (.fieldLink RX1 29 "LadderDesk$Ladder" "z2" "[J") (by decide +kernel)) (fun _ h9 => h9) rfl dX1_rowOf_38 ?_
    exact z_rret hx hb hr hlocks dX1_rowOf_41 hK hP hD hS ⟨rfl, rfl⟩
  · refine lv_tableIn (off := 41) (tgt := 42) hx hb dX1_rowOf_1 (by decide) (by decide) (by decide) (by decide) ?_
    refine lv_aload_n hx hb dX1_rowOf_42 rfl (lv_at hl 0 rfl) ?_
    refine va_get (D := D) (ci := 1) (v := .ref x3) (C := RX1) (T := TX1) (N := 18) hx hb hts (by decide +kernel) hown hK hP 1 rfl rfl 4 (by decide) (hts (.fieldLink RX1 32 "LadderDesk$Ladder" "x3" "[J") (by decide +kernel)) (fun _ h9 => h9) rfl dX1_rowOf_43 ?_
    exact z_rret hx hb hr hlocks dX1_rowOf_46 hK hP hD hS ⟨rfl, rfl⟩
  · refine lv_tableIn (off := 46) (tgt := 47) hx hb dX1_rowOf_1 (by decide) (by decide) (by decide) (by decide) ?_
    refine lv_aload_n hx hb dX1_rowOf_47 rfl (lv_at hl 0 rfl) ?_
    refine va_get (D := D) (ci := 1) (v := .ref z3) (C := RX1) (T := TX1) (N := 18) hx hb hts (by decide +kernel) hown hK hP 1 rfl rfl 5 (by decide) (hts (.fieldLink RX1 35 "LadderDesk$Ladder" "z3" "[J") (by decide +kernel)) (fun _ h9 => h9) rfl dX1_rowOf_48 ?_
    exact z_rret hx hb hr hlocks dX1_rowOf_51 hK hP hD hS ⟨rfl, rfl⟩
  · refine lv_tableOut (tgt := 52) hx hb dX1_rowOf_1 (by decide) (by decide) ?_
    refine lv_aload_n hx hb dX1_rowOf_52 rfl (lv_at hl 0 rfl) ?_
    refine va_get (D := D) (ci := 1) (v := .ref aU) (C := RX1) (T := TX1) (N := 18) hx hb hts (by decide +kernel) hown hK hP 1 rfl rfl 1 (by decide) (hts (.fieldLink RX1 22 "LadderDesk$Ladder" "u" "[J") (by decide +kernel)) (fun _ h9 => h9) rfl dX1_rowOf_53 ?_
    exact z_rret hx hb hr hlocks dX1_rowOf_56 hK hP hD hS ⟨rfl, rfl⟩
set_option maxRecDepth 100000 in
set_option maxHeartbeats 4000000 in
theorem c_writePart (l : Launch) (D : va_G) (cA : ClassId) (tys : List (ClassId × FieldType)) (d0 : Nat × va_E) (ol hf : Nat) (L : List Nat) (n t : Nat → Nat) (q : Nat → Nat → Int64) (wd wh aU aA aB aC aD aE aAA aBB aDA aCB aSP aLE aRI x2 z2 x3 z3 : Nat) (hLW : LW L n t wd wh aU aA aB aC aD aE aAA aBB aDA aCB aSP aLE aRI x2 z2 x3 z3) (w : Nat) (hw : w ∈ L ∧ n w = 4) (k : Nat) (hk : k < 5) (v : Int) (hv : holds (q (rsel k x2 z2 x3 z3 aU)) v) : zCv l D ((cA, .long) :: tys) yX1_writePart wsX1_writePart ({ frames := 3, cells := 0, slots := 0, locals := 70 }) [.ref ol, .ref w, .int (nI k)] ([d0, (ol, .inr (1, [.ref hf, .ref aU, .ref x2, .ref z2, .ref x3, .ref z3, .ref aA, .ref aB, .ref aC, .ref aD, .ref aE, .ref aAA, .ref aBB, .ref aDA, .ref aCB, .ref aSP, .ref aLE, .ref aRI])), (hf, .inr (0, [.ref wd, .ref wh]))] ++ PL cA L n q) (fun u => ∃ q' : Nat → Nat → Int64, (∀ b, b ≠ w → b ≠ wh → q' b = q b) ∧ (wv (q' w) : Int) = v % pP ∧ u = [d0, (ol, .inr (1, [.ref hf, .ref aU, .ref x2, .ref z2, .ref x3, .ref z3, .ref aA, .ref aB, .ref aC, .ref aD, .ref aE, .ref aAA, .ref aBB, .ref aDA, .ref aCB, .ref aSP, .ref aLE, .ref aRI])), (hf, .inr (0, [.ref wd, .ref wh]))] ++ PL cA L n q') := by
  refine z_met (fun A => va_Qv (fun u => ∃ q' : Nat → Nat → Int64, (∀ b, b ≠ w → b ≠ wh → q' b = q b) ∧ (wv (q' w) : Int) = v % pP ∧ u = [d0, (ol, .inr (1, [.ref hf, .ref aU, .ref x2, .ref z2, .ref x3, .ref z3, .ref aA, .ref aB, .ref aC, .ref aD, .ref aE, .ref aAA, .ref aBB, .ref aDA, .ref aCB, .ref aSP, .ref aLE, .ref aRI])), (hf, .inr (0, [.ref wd, .ref wh]))] ++ PL cA L n q') (zB D ((cA, .long) :: tys) A) A) (by decide) rfl (Nat.le_of_ble_eq_true rfl) ?_
  intro p e s m below meth c hx hb hr hml hts hown hlocks hname A hA hP hK hD hS ls hl
  have hown : s.vm.findClass RX1 = some m.cls := hown
  have hl : lv_has ls 3 [(0, .ref ol), (1, .ref w), (2, .int (nI k))] := hl
  obtain ⟨⟨m_wd, m_wh, m_aU, m_aA, m_aB, m_aC, m_aD, m_aE, m_aAA, m_aBB, m_aDA, m_aCB, m_aSP, m_aLE, m_aRI, m_x2, m_z2, m_x3, m_z3⟩, ⟨t_wd, t_wh, t_aU, t_aA, t_aB, t_aC, t_aD, t_aE, t_aAA, t_aBB, t_aDA, t_aCB, t_aSP, t_aLE, t_aRI, t_x2, t_z2, t_x3, t_z3⟩, ⟨d_0, d_1, d_2, d_3, d_4, d_5⟩⟩ := id hLW
  have m_r : rsel k x2 z2 x3 z3 aU ∈ L ∧ n (rsel k x2 z2 x3 z3 aU) = 10 := by
    unfold rsel
    split
    · exact m_x2
    · split
      · exact m_z2
      · split
        · exact m_x3
        · split
          · exact m_z3
          · exact m_aU
  refine lv_aload_n hx hb dX1_writePart_0 rfl (lv_at hl 0 rfl) ?_
  refine va_get (D := D) (ci := 1) (v := .ref hf) (C := RX1) (T := TX1) (N := 18) hx hb hts (by decide +kernel) hown hK hP 1 rfl rfl 0 (by decide) (hts (.fieldLink RX1 12 "LadderDesk$Ladder" "field" "LLadderDesk$Field;") (by decide +kernel)) (fun _ h9 => h9) rfl dX1_writePart_1 ?_
  refine lv_aload_n hx hb dX1_writePart_4 rfl (lv_at hl 1 rfl) ?_
  refine lv_aload_n hx hb dX1_writePart_5 rfl (lv_at hl 0 rfl) ?_
  refine lv_iload_n hx hb dX1_writePart_6 rfl (lv_at hl 2 rfl) ?_
  refine z_callr (va_runV (As := [.int (nI k)]) (rest := [.ref w, .ref hf]) ⟨hx, hb, hml, hown, hts⟩ (c_rowOf l D cA tys d0 ol hf L n t q wd wh aU aA aB aC aD aE aAA aBB aDA aCB aSP aLE aRI x2 z2 x3 z3 hLW k hk _) (cwV 1 hts gX1_writePart_X1_rowOf rfl rfl rfl (by decide +kernel) ⟨Nat.le_of_ble_eq_true rfl, Nat.le_of_ble_eq_true rfl⟩) (z_preV _ hK hP hD (ci := 1) (q0 := 1) rfl rfl) rfl rfl hl.1 rfl (lv_room (Nat.le_of_ble_eq_true rfl)) dX1_writePart_7 ⟨Nat.le_of_ble_eq_true rfl, Nat.le_of_ble_eq_true rfl⟩) hD hS hA (fun r7 u H locs hu hP hD hS => ?_)
  obtain ⟨hr7, rfl⟩ := hu
  subst hr7
  refine z_callv (va_runV (As := [.ref w, .ref (rsel k x2 z2 x3 z3 aU)]) (rest := []) ⟨hx, hb, hml, hown, hts⟩ (c_write l D cA tys d0 (ol, .inr (1, [.ref hf, .ref aU, .ref x2, .ref z2, .ref x3, .ref z3, .ref aA, .ref aB, .ref aC, .ref aD, .ref aE, .ref aAA, .ref aBB, .ref aDA, .ref aCB, .ref aSP, .ref aLE, .ref aRI])) hf wd wh L n q w (rsel k x2 z2 x3 z3 aU) m_wh hw m_r hv.1 _) (cwV 2 hts gX1_writePart_X0_write rfl rfl rfl (by decide +kernel) ⟨Nat.le_of_ble_eq_true rfl, Nat.le_of_ble_eq_true rfl⟩) (z_preV _ hK hP hD (ci := 0) (q0 := 2) rfl rfl) rfl rfl hl.1 rfl (lv_room (Nat.le_of_ble_eq_true rfl)) dX1_writePart_10 ⟨Nat.le_of_ble_eq_true rfl, Nat.le_of_ble_eq_true rfl⟩) hD hS hA (fun u H locs hu hP hD hS => ?_)
  obtain ⟨q1, k1, v1, rfl⟩ := hu
  exact z_vret hx hb hr hlocks dX1_writePart_13 hK hP hD hS (⟨q1, k1, by rw [v1, cg_emod hv.2], rfl⟩)
set_option maxRecDepth 100000 in
set_option maxHeartbeats 4000000 in
theorem c_writeResult (l : Launch) (D : va_G) (cA : ClassId) (tys : List (ClassId × FieldType)) (d0 : Nat × va_E) (ol hf : Nat) (L : List Nat) (n t : Nat → Nat) (q : Nat → Nat → Int64) (wd wh aU aA aB aC aD aE aAA aBB aDA aCB aSP aLE aRI x2 z2 x3 z3 : Nat) (hLW : LW L n t wd wh aU aA aB aC aD aE aAA aBB aDA aCB aSP aLE aRI x2 z2 x3 z3) (w : Nat) (hw : w ∈ L ∧ n w = 4) (vx2 vz2 : Int) (hx2 : holds (q x2) vx2) (hz2 : holds (q z2) vz2) : zCv l D ((cA, .long) :: tys) yX1_writeResult wsX1_writeResult ({ frames := 4, cells := 0, slots := 0, locals := 97 }) [.ref ol, .ref w] ([d0, (ol, .inr (1, [.ref hf, .ref aU, .ref x2, .ref z2, .ref x3, .ref z3, .ref aA, .ref aB, .ref aC, .ref aD, .ref aE, .ref aAA, .ref aBB, .ref aDA, .ref aCB, .ref aSP, .ref aLE, .ref aRI])), (hf, .inr (0, [.ref wd, .ref wh]))] ++ PL cA L n q) (fun u => ∃ q' : Nat → Nat → Int64, (∀ b, t b = 2 ∨ 13 ≤ t b → b ≠ w → q' b = q b) ∧ (wv (q' w) : Int) = (vx2 * pw vz2 255) % pP ∧ u = [d0, (ol, .inr (1, [.ref hf, .ref aU, .ref x2, .ref z2, .ref x3, .ref z3, .ref aA, .ref aB, .ref aC, .ref aD, .ref aE, .ref aAA, .ref aBB, .ref aDA, .ref aCB, .ref aSP, .ref aLE, .ref aRI])), (hf, .inr (0, [.ref wd, .ref wh]))] ++ PL cA L n q') := by
  refine z_met (fun A => va_Qv (fun u => ∃ q' : Nat → Nat → Int64, (∀ b, t b = 2 ∨ 13 ≤ t b → b ≠ w → q' b = q b) ∧ (wv (q' w) : Int) = (vx2 * pw vz2 255) % pP ∧ u = [d0, (ol, .inr (1, [.ref hf, .ref aU, .ref x2, .ref z2, .ref x3, .ref z3, .ref aA, .ref aB, .ref aC, .ref aD, .ref aE, .ref aAA, .ref aBB, .ref aDA, .ref aCB, .ref aSP, .ref aLE, .ref aRI])), (hf, .inr (0, [.ref wd, .ref wh]))] ++ PL cA L n q') (zB D ((cA, .long) :: tys) A) A) (by decide) rfl (Nat.le_of_ble_eq_true rfl) ?_
  intro p e s m below meth c hx hb hr hml hts hown hlocks hname A hA hP hK hD hS ls hl
  have hown : s.vm.findClass RX1 = some m.cls := hown
  have hl : lv_has ls 2 [(0, .ref ol), (1, .ref w)] := hl
  obtain ⟨⟨m_wd, m_wh, m_aU, m_aA, m_aB, m_aC, m_aD, m_aE, m_aAA, m_aBB, m_aDA, m_aCB, m_aSP, m_aLE, m_aRI, m_x2, m_z2, m_x3, m_z3⟩, ⟨t_wd, t_wh, t_aU, t_aA, t_aB, t_aC, t_aD, t_aE, t_aAA, t_aBB, t_aDA, t_aCB, t_aSP, t_aLE, t_aRI, t_x2, t_z2, t_x3, t_z3⟩, ⟨d_0, d_1, d_2, d_3, d_4, d_5⟩⟩ := id hLW
  refine lv_aload_n hx hb dX1_writeResult_0 rfl (lv_at hl 0 rfl) ?_
  refine va_get (D := D) (ci := 1) (v := .ref hf) (C := RX1) (T := TX1) (N := 18) hx hb hts (by decide +kernel) hown hK hP 1 rfl rfl 0 (by decide) (hts (.fieldLink RX1 12 "LadderDesk$Ladder" "field" "LLadderDesk$Field;") (by decide +kernel)) (fun _ h9 => h9) rfl dX1_writeResult_1 ?_
  refine lv_aload_n hx hb dX1_writeResult_4 rfl (lv_at hl 0 rfl) ?_
  refine va_get (D := D) (ci := 1) (v := .ref aSP) (C := RX1) (T := TX1) (N := 18) hx hb hts (by decide +kernel) hown hK hP 1 rfl rfl 15 (by decide) (hts (.fieldLink RX1 65 "LadderDesk$Ladder" "spare" "[J") (by decide +kernel)) (fun _ h9 => h9) rfl dX1_writeResult_5 ?_
  refine lv_aload_n hx hb dX1_writeResult_8 rfl (lv_at hl 0 rfl) ?_
  refine va_get (D := D) (ci := 1) (v := .ref z2) (C := RX1) (T := TX1) (N := 18) hx hb hts (by decide +kernel) hown hK hP 1 rfl rfl 3 (by decide) (hts (.fieldLink RX1 29 "LadderDesk$Ladder" "z2" "[J") (by decide +kernel)) (fun _ h9 => h9) rfl dX1_writeResult_9 ?_
  refine z_callv (va_runV (As := [.ref aSP, .ref z2]) (rest := []) ⟨hx, hb, hml, hown, hts⟩ (c_invert l D cA tys d0 (ol, .inr (1, [.ref hf, .ref aU, .ref x2, .ref z2, .ref x3, .ref z3, .ref aA, .ref aB, .ref aC, .ref aD, .ref aE, .ref aAA, .ref aBB, .ref aDA, .ref aCB, .ref aSP, .ref aLE, .ref aRI])) hf wd wh L n q aSP z2 vz2 m_wd m_aSP m_z2 (show z2 ≠ aSP from fun h => by have := congrArg t h; omega) hz2.1 hz2.2 _) (cwV 2 hts gX1_writeResult_X0_invert rfl rfl rfl (by decide +kernel) ⟨Nat.le_of_ble_eq_true rfl, Nat.le_of_ble_eq_true rfl⟩) (z_preV _ hK hP hD (ci := 0) (q0 := 2) rfl rfl) rfl rfl hl.1 rfl (lv_room (Nat.le_of_ble_eq_true rfl)) dX1_writeResult_12 ⟨Nat.le_of_ble_eq_true rfl, Nat.le_of_ble_eq_true rfl⟩) hD hS hA (fun u H locs hu hP hD hS => ?_)
  obtain ⟨q1, k1, s1, v1, rfl⟩ := hu
  have e1 : q1 x2 = q x2 := k1 x2 (show x2 ≠ aSP from fun h => by have := congrArg t h; omega) (show x2 ≠ wd from fun h => by have := congrArg t h; omega)
  refine lv_aload_n hx hb dX1_writeResult_15 rfl (lv_at hl 0 rfl) ?_
  refine va_get (D := D) (ci := 1) (v := .ref hf) (C := RX1) (T := TX1) (N := 18) hx hb hts (by decide +kernel) hown hK hP 1 rfl rfl 0 (by decide) (hts (.fieldLink RX1 12 "LadderDesk$Ladder" "field" "LLadderDesk$Field;") (by decide +kernel)) (fun _ h9 => h9) rfl dX1_writeResult_16 ?_
  refine lv_aload_n hx hb dX1_writeResult_19 rfl (lv_at hl 0 rfl) ?_
  refine va_get (D := D) (ci := 1) (v := .ref aSP) (C := RX1) (T := TX1) (N := 18) hx hb hts (by decide +kernel) hown hK hP 1 rfl rfl 15 (by decide) (hts (.fieldLink RX1 65 "LadderDesk$Ladder" "spare" "[J") (by decide +kernel)) (fun _ h9 => h9) rfl dX1_writeResult_20 ?_
  refine lv_aload_n hx hb dX1_writeResult_23 rfl (lv_at hl 0 rfl) ?_
  refine va_get (D := D) (ci := 1) (v := .ref x2) (C := RX1) (T := TX1) (N := 18) hx hb hts (by decide +kernel) hown hK hP 1 rfl rfl 2 (by decide) (hts (.fieldLink RX1 26 "LadderDesk$Ladder" "x2" "[J") (by decide +kernel)) (fun _ h9 => h9) rfl dX1_writeResult_24 ?_
  refine lv_aload_n hx hb dX1_writeResult_27 rfl (lv_at hl 0 rfl) ?_
  refine va_get (D := D) (ci := 1) (v := .ref aSP) (C := RX1) (T := TX1) (N := 18) hx hb hts (by decide +kernel) hown hK hP 1 rfl rfl 15 (by decide) (hts (.fieldLink RX1 65 "LadderDesk$Ladder" "spare" "[J") (by decide +kernel)) (fun _ h9 => h9) rfl dX1_writeResult_28 ?_
  refine z_callv (va_runV (As := [.ref aSP, .ref x2, .ref aSP]) (rest := []) ⟨hx, hb, hml, hown, hts⟩ (c_multiply l D cA tys d0 (ol, .inr (1, [.ref hf, .ref aU, .ref x2, .ref z2, .ref x3, .ref z3, .ref aA, .ref aB, .ref aC, .ref aD, .ref aE, .ref aAA, .ref aBB, .ref aDA, .ref aCB, .ref aSP, .ref aLE, .ref aRI])) hf wd wh L n q1 aSP x2 aSP m_wd m_aSP m_x2 m_aSP (by rw [e1]; exact settled_loose hx2.1) (settled_loose s1) _) (cwV 3 hts gX1_writeResult_X0_multiply rfl rfl rfl (by decide +kernel) ⟨Nat.le_of_ble_eq_true rfl, Nat.le_of_ble_eq_true rfl⟩) (z_preV _ hK hP hD (ci := 0) (q0 := 2) rfl rfl) rfl rfl hl.1 rfl (lv_room (Nat.le_of_ble_eq_true rfl)) dX1_writeResult_31 ⟨Nat.le_of_ble_eq_true rfl, Nat.le_of_ble_eq_true rfl⟩) hD hS hA (fun u H locs hu hP hD hS => ?_)
  obtain ⟨q2, k2, s2, v2, rfl⟩ := hu
  rw [e1] at v2
  have v2 := cg_trans v2 (cg_mul hx2.2 v1)
  refine lv_aload_n hx hb dX1_writeResult_34 rfl (lv_at hl 0 rfl) ?_
  refine va_get (D := D) (ci := 1) (v := .ref hf) (C := RX1) (T := TX1) (N := 18) hx hb hts (by decide +kernel) hown hK hP 1 rfl rfl 0 (by decide) (hts (.fieldLink RX1 12 "LadderDesk$Ladder" "field" "LLadderDesk$Field;") (by decide +kernel)) (fun _ h9 => h9) rfl dX1_writeResult_35 ?_
  refine lv_aload_n hx hb dX1_writeResult_38 rfl (lv_at hl 1 rfl) ?_
  refine lv_aload_n hx hb dX1_writeResult_39 rfl (lv_at hl 0 rfl) ?_
  refine va_get (D := D) (ci := 1) (v := .ref aSP) (C := RX1) (T := TX1) (N := 18) hx hb hts (by decide +kernel) hown hK hP 1 rfl rfl 15 (by decide) (hts (.fieldLink RX1 65 "LadderDesk$Ladder" "spare" "[J") (by decide +kernel)) (fun _ h9 => h9) rfl dX1_writeResult_40 ?_
  refine z_callv (va_runV (As := [.ref w, .ref aSP]) (rest := []) ⟨hx, hb, hml, hown, hts⟩ (c_write l D cA tys d0 (ol, .inr (1, [.ref hf, .ref aU, .ref x2, .ref z2, .ref x3, .ref z3, .ref aA, .ref aB, .ref aC, .ref aD, .ref aE, .ref aAA, .ref aBB, .ref aDA, .ref aCB, .ref aSP, .ref aLE, .ref aRI])) hf wd wh L n q2 w aSP m_wh hw m_aSP s2 _) (cwV 2 hts gX1_writeResult_X0_write rfl rfl rfl (by decide +kernel) ⟨Nat.le_of_ble_eq_true rfl, Nat.le_of_ble_eq_true rfl⟩) (z_preV _ hK hP hD (ci := 0) (q0 := 2) rfl rfl) rfl rfl hl.1 rfl (lv_room (Nat.le_of_ble_eq_true rfl)) dX1_writeResult_43 ⟨Nat.le_of_ble_eq_true rfl, Nat.le_of_ble_eq_true rfl⟩) hD hS hA (fun u H locs hu hP hD hS => ?_)
  obtain ⟨q3, k3, v3, rfl⟩ := hu
  exact z_vret hx hb hr hlocks dX1_writeResult_46 hK hP hD hS (⟨q3, fun b hb h1 => by rw [k3 b h1 (show b ≠ wh from fun h => by have := congrArg t h; omega), k2 b (show b ≠ aSP from fun h => by have := congrArg t h; omega) (show b ≠ wd from fun h => by have := congrArg t h; omega), k1 b (show b ≠ aSP from fun h => by have := congrArg t h; omega) (show b ≠ wd from fun h => by have := congrArg t h; omega)], by rw [v3, cg_emod v2], rfl⟩)
set_option maxRecDepth 100000 in
set_option maxHeartbeats 4000000 in
theorem c_isZero (l : Launch) (D : va_G) (cA : ClassId) (tys : List (ClassId × FieldType)) (X : va_W) (L : List Nat) (n : Nat → Nat) (q : Nat → Nat → Int64) (w : Nat) (hw : w ∈ L ∧ n w = 4) : zCi l D ((cA, .long) :: tys) yX1_isZero wsX1_isZero ({ frames := 0, cells := 0, slots := 0, locals := 0 }) [.ref w] (X ++ PL cA L n q) (fun r u => u = X ++ PL cA L n q ∧ ((r = 1 ∧ wv (q w) = 0) ∨ (r = 0 ∧ wv (q w) ≠ 0))) := by
  refine z_met (fun A => va_Qi (fun r u => u = X ++ PL cA L n q ∧ ((r = 1 ∧ wv (q w) = 0) ∨ (r = 0 ∧ wv (q w) ≠ 0))) (zB D ((cA, .long) :: tys) A) A) (by decide) rfl (Nat.le_of_ble_eq_true rfl) ?_
  intro p e s m below meth c hx hb hr hml hts hown hlocks hname A hA hP hK hD hS ls hl
  have hown : s.vm.findClass RX1 = some m.cls := hown
  have hl : lv_has ls 1 [(0, .ref w)] := hl
  refine lv_aload_n hx hb dX1_isZero_0 rfl (lv_at hl 0 rfl) ?_
  refine lv_iconst (v := nI 0) hx hb dX1_isZero_1 (by decide) ?_
  refine z_ld hx hb hK hP hw 0 rfl (by omega) (by omega) dX1_isZero_2 ?_
  refine lv_topl (fun v2 e2 => ?_)
  refine lv_aload_n hx hb dX1_isZero_3 rfl (lv_at hl 0 rfl) ?_
  refine lv_iconst (v := nI 1) hx hb dX1_isZero_4 (by decide) ?_
  refine z_ld hx hb hK hP hw 1 rfl (by omega) (by omega) dX1_isZero_5 ?_
  refine lv_topl (fun v5 e5 => ?_)
  refine lv_lor hx hb dX1_isZero_6 ?_
  refine lv_topl (fun v6 e6 => ?_)
  refine lv_aload_n hx hb dX1_isZero_7 rfl (lv_at hl 0 rfl) ?_
  refine lv_iconst (v := nI 2) hx hb dX1_isZero_8 (by decide) ?_
  refine z_ld hx hb hK hP hw 2 rfl (by omega) (by omega) dX1_isZero_9 ?_
  refine lv_topl (fun v9 e9 => ?_)
  refine lv_lor hx hb dX1_isZero_10 ?_
  refine lv_topl (fun v10 e10 => ?_)
  refine lv_aload_n hx hb dX1_isZero_11 rfl (lv_at hl 0 rfl) ?_
  refine lv_iconst (v := nI 3) hx hb dX1_isZero_12 (by decide) ?_
  refine z_ld hx hb hK hP hw 3 rfl (by omega) (by omega) dX1_isZero_13 ?_
  refine lv_topl (fun v13 e13 => ?_)
  refine lv_lor hx hb dX1_isZero_14 ?_
  refine lv_topl (fun v14 e14 => ?_)
  refine lv_lconst (v := 0) hx hb dX1_isZero_15 (by decide) ?_
  refine W.lcmp hx hb dX1_isZero_16 ?_
  refine lv_if_ne (tgt := 24) hx hb dX1_isZero_17 (by decide) (fun c17 => ?_) (fun c17 => ?_)
  · have hc := cmp_ne c17
    refine lv_iconst (v := nI 0) hx hb dX1_isZero_24 (by decide) ?_
    exact z_zret hx hb hr hlocks dX1_isZero_25 rfl hK hP hD hS (⟨rfl, Or.inr ⟨rfl, fun h => hc (by rw [e14, e10, e6, e2, e5, e9, e13]; exact wv_0.mpr h)⟩⟩)
  · have hc := (lg_cmp_eq _ _).mp c17
    refine lv_iconst (v := nI 1) hx hb dX1_isZero_20 (by decide) ?_
    refine lv_goto (tgt := 25) hx hb dX1_isZero_21 (by decide) ?_
    exact z_zret hx hb hr hlocks dX1_isZero_25 rfl hK hP hD hS (⟨rfl, Or.inl ⟨rfl, wv_0.mp (by rw [← e2, ← e5, ← e6, ← e9, ← e10, ← e13, ← e14]; exact hc)⟩⟩)
set_option maxRecDepth 100000 in
set_option maxHeartbeats 4000000 in
theorem c_areEqual (l : Launch) (D : va_G) (cA : ClassId) (tys : List (ClassId × FieldType)) (X : va_W) (L : List Nat) (n : Nat → Nat) (q : Nat → Nat → Int64) (w w2 : Nat) (hw : w ∈ L ∧ n w = 4) (hw2 : w2 ∈ L ∧ n w2 = 4) : zCi l D ((cA, .long) :: tys) yX1_areEqual wsX1_areEqual ({ frames := 0, cells := 0, slots := 0, locals := 0 }) [.ref w, .ref w2] (X ++ PL cA L n q) (fun r u => u = X ++ PL cA L n q ∧ ((r = 1 ∧ wv (q w) = wv (q w2)) ∨ (r = 0 ∧ wv (q w) ≠ wv (q w2)))) := by
  refine z_met (fun A => va_Qi (fun r u => u = X ++ PL cA L n q ∧ ((r = 1 ∧ wv (q w) = wv (q w2)) ∨ (r = 0 ∧ wv (q w) ≠ wv (q w2)))) (zB D ((cA, .long) :: tys) A) A) (by decide) rfl (Nat.le_of_ble_eq_true rfl) ?_
  intro p e s m below meth c hx hb hr hml hts hown hlocks hname A hA hP hK hD hS ls hl
  have hown : s.vm.findClass RX1 = some m.cls := hown
  have hl : lv_has ls 3 [(0, .ref w), (1, .ref w2)] := hl
  refine lv_iconst (v := nI 0) hx hb dX1_areEqual_0 (by decide) ?_
  refine lv_istore_n (lv' := [(2, .int (nI 0)), (0, .ref w), (1, .ref w2)]) hx hb dX1_areEqual_1 rfl hl (by decide) rfl (fun ls hl => ?_)
  refine z_loop (fun i H locs ls => (∀ k, k < i → q w k = q w2 k) ∧ zH D A s.heap (X ++ PL cA L n q) H locs ∧ lv_has ls 3 [(2, .int (nI i)), (0, .ref w), (1, .ref w2)]) 4 ?_ ?_ ?_
  · exact ⟨fun k h => by omega, ⟨hP, hD, hS⟩, hl⟩
  · rintro i H locs ls hi ⟨hI, ⟨hP, hD, hS⟩, hl⟩ ih
    refine lv_iload_n hx hb dX1_areEqual_2 rfl (lv_at hl 0 rfl) ?_
    refine lv_iconst (v := nI 4) hx hb dX1_areEqual_3 (by decide) ?_
    refine lv_icmp_ge (tgt := 25) hx hb dX1_areEqual_4 (by decide) (fun c4 => absurd ((nI_leI (by omega) (by omega)).mp c4) (by omega)) (fun c4 => ?_)
    refine lv_aload_n hx hb dX1_areEqual_7 rfl (lv_at hl 1 rfl) ?_
    refine lv_iload_n hx hb dX1_areEqual_8 rfl (lv_at hl 0 rfl) ?_
    refine z_ld hx hb hK hP hw i rfl (by omega) (by omega) dX1_areEqual_9 ?_
    refine lv_topl (fun v9 e9 => ?_)
    refine lv_aload_n hx hb dX1_areEqual_10 rfl (lv_at hl 2 rfl) ?_
    refine lv_iload_n hx hb dX1_areEqual_11 rfl (lv_at hl 0 rfl) ?_
    refine z_ld hx hb hK hP hw2 i rfl (by omega) (by omega) dX1_areEqual_12 ?_
    refine lv_topl (fun v12 e12 => ?_)
    refine W.lcmp hx hb dX1_areEqual_13 ?_
    refine lv_if_eq (tgt := 19) hx hb dX1_areEqual_14 (by decide) (fun c14 => ?_) (fun c14 => ?_)
    · have hc := (lg_cmp_eq _ _).mp c14
      refine lv_iinc (v := nI (i + 1)) (lv' := [(2, .int (nI (i + 1))), (0, .ref w), (1, .ref w2)]) hx hb dX1_areEqual_19 hl (k := 0) rfl (by show nI _ + nI 1 = _; exact nI_add _ _) (by decide) rfl (fun ls hl => ?_)
      refine lv_goto (tgt := 2) hx hb dX1_areEqual_22 (by decide) ?_
      exact ih _ _ _ ⟨fun k hk => by by_cases e : k = i; (subst e; rw [← e9, ← e12]; exact hc); exact hI k (by omega), ⟨hP, hD, hS⟩, hl⟩
    · have hc := cmp_ne c14
      refine lv_iconst (v := nI 0) hx hb dX1_areEqual_17 (by decide) ?_
      exact z_zret hx hb hr hlocks dX1_areEqual_18 rfl hK hP hD hS (⟨rfl, Or.inr ⟨rfl, fun h => hc (by rw [e9, e12]; exact wv_inj h i hi)⟩⟩)
  · rintro H locs ls ⟨hI, ⟨hP, hD, hS⟩, hl⟩
    refine lv_iload_n hx hb dX1_areEqual_2 rfl (lv_at hl 0 rfl) ?_
    refine lv_iconst (v := nI 4) hx hb dX1_areEqual_3 (by decide) ?_
    refine lv_icmp_ge (tgt := 25) hx hb dX1_areEqual_4 (by decide) (fun c4 => ?_) (fun c4 => absurd ((nI_leI (by omega) (by omega)).mpr (by omega)) c4)
    refine lv_iconst (v := nI 1) hx hb dX1_areEqual_25 (by decide) ?_
    exact z_zret hx hb hr hlocks dX1_areEqual_26 rfl hK hP hD hS (⟨rfl, Or.inl ⟨rfl, wv_congr hI⟩⟩)
end
section
/-! the state of a desk, as numbers: phase ph, steps st, results rs, scalar sc, point pt; the ladder's numbers follow from these -/
def uo (f : Nat → Int64) : Nat := wv f % 57896044618658097711785492504343953926634992332820282019728792003956564819968 % nP
def pb (f : Nat → Int64) (i : Nat) : Bool := if i < 3 then false else if i = 254 then true else (uw (f (i / 64))).testBit (i % 64)
def lad (sc pt : Nat → Int64) : Nat → Int × Int × Int × Int
  | 0 => (1, 0, (uo pt : Int), 1)
  | i + 1 => (wX2 (pb sc (254 - i)) (lad sc pt i).1 (lad sc pt i).2.1 (lad sc pt i).2.2.1 (lad sc pt i).2.2.2 % pP,
      wZ2 (pb sc (254 - i)) (uo pt : Int) (lad sc pt i).1 (lad sc pt i).2.1 (lad sc pt i).2.2.1 (lad sc pt i).2.2.2 % pP,
      wX3 (pb sc (254 - i)) (lad sc pt i).1 (lad sc pt i).2.1 (lad sc pt i).2.2.1 (lad sc pt i).2.2.2 % pP,
      wZ3 (pb sc (254 - i)) (uo pt : Int) (lad sc pt i).1 (lad sc pt i).2.1 (lad sc pt i).2.2.1 (lad sc pt i).2.2.2 % pP)
def res (sc pt : Nat → Int64) : Nat := (((lad sc pt 255).1 * pw (lad sc pt 255).2.1 255) % pP).toNat
theorem uo_lt (f : Nat → Int64) : uo f < nP := Nat.mod_lt _ (by decide)
theorem uo_congr {f g : Nat → Int64} (h : ∀ k, k < 4 → f k = g k) : uo f = uo g := by unfold uo; rw [wv_congr h]
theorem res_int (sc pt : Nat → Int64) : (res sc pt : Int) = ((lad sc pt 255).1 * pw (lad sc pt 255).2.1 255) % pP := Int.toNat_of_nonneg (mod_in _).1
theorem res_lt (sc pt : Nat → Int64) : res sc pt < nP := by
  have h1 := (mod_in ((lad sc pt 255).1 * pw (lad sc pt 255).2.1 255)).2
  have h2 := res_int sc pt
  have h3 := nP_pP
  omega
theorem lad_in (sc pt : Nat → Int64) (i : Nat) : (0 ≤ (lad sc pt i).1 ∧ (lad sc pt i).1 < pP) ∧ (0 ≤ (lad sc pt i).2.1 ∧ (lad sc pt i).2.1 < pP) ∧ (0 ≤ (lad sc pt i).2.2.1 ∧ (lad sc pt i).2.2.1 < pP) ∧ (0 ≤ (lad sc pt i).2.2.2 ∧ (lad sc pt i).2.2.2 < pP) := by
  cases i with
  | zero =>
    have h1 := uo_lt pt
    have h2 := nP_pP
    have a1 : (0 : Int) ≤ 1 ∧ (1 : Int) < pP := by decide
    have a0 : (0 : Int) ≤ 0 ∧ (0 : Int) < pP := by decide
    refine ⟨a1, a0, ⟨?_, ?_⟩, a1⟩
    · show 0 ≤ (uo pt : Int); omega
    · show (uo pt : Int) < pP; omega
  | succ i => exact ⟨mod_in _, mod_in _, mod_in _, mod_in _⟩
/-- a number of the ladder: X2 (0), Z2 (1), X3 (2), Z3 (3), U (4) -/
def lpart (sc pt : Nat → Int64) (st k : Nat) : Int := if k = 0 then (lad sc pt st).1 else if k = 1 then (lad sc pt st).2.1 else if k = 2 then (lad sc pt st).2.2.1 else if k = 3 then (lad sc pt st).2.2.2 else (uo pt : Int)
theorem lpart_in (sc pt : Nat → Int64) (st k : Nat) : 0 ≤ lpart sc pt st k ∧ lpart sc pt st k < pP := by
  obtain ⟨h1, h2, h3, h4⟩ := lad_in sc pt st
  have h5 := uo_lt pt
  have h6 := nP_pP
  unfold lpart
  repeat' split
  · exact h1
  · exact h2
  · exact h3
  · exact h4
  · omega
def cl (f : Nat → Int64) (j : Nat) : Int64 := if j = 0 then f 0 &&& (-8) else if j = 3 then (f 3 &&& 9223372036854775807) ||| 4611686018427387904 else f j
theorem uw_and (x y : Int64) : uw (x &&& y) = uw x &&& uw y := by
  show (x.toBitVec &&& y.toBitVec).toNat = _
  exact BitVec.toNat_and _ _
theorem uw_or (x y : Int64) : uw (x ||| y) = uw x ||| uw y := by
  show (x.toBitVec ||| y.toBitVec).toNat = _
  exact BitVec.toNat_or _ _
theorem b8 : ∀ k, k < 64 → (uw (-8)).testBit k = decide (3 ≤ k) := by decide +kernel
theorem b63 : ∀ k, k < 64 → (uw 9223372036854775807).testBit k = decide (k < 63) := by decide +kernel
theorem b62 : ∀ k, k < 64 → (uw 4611686018427387904).testBit k = decide (k = 62) := by decide +kernel
theorem cl_bit (f : Nat → Int64) {i : Nat} (hi : i ≤ 254) : (uw (cl f (i / 64))).testBit (i % 64) = pb f i := by
  unfold cl pb
  by_cases h0 : i / 64 = 0
  · rw [if_pos h0, uw_and, Nat.testBit_and, b8 _ (by omega), h0]
    by_cases h3 : i < 3
    · rw [if_pos h3, show decide (3 ≤ i % 64) = false from decide_eq_false (by omega), Bool.and_false]
    · rw [if_neg h3, if_neg (by omega), show decide (3 ≤ i % 64) = true from decide_eq_true (by omega), Bool.and_true]
  · rw [if_neg h0]
    by_cases h3 : i / 64 = 3
    · rw [if_pos h3, if_neg (show ¬ i < 3 by omega), uw_or, Nat.testBit_or, uw_and, Nat.testBit_and, b63 _ (by omega), b62 _ (by omega), h3]
      by_cases h4 : i = 254
      · subst h4; simp
      · rw [if_neg h4, show decide (i % 64 = 62) = false from decide_eq_false (by omega), Bool.or_false, show decide (i % 64 < 63) = true from decide_eq_true (by omega), Bool.and_true]
    · rw [if_neg h3, if_neg (show ¬ i < 3 by omega), if_neg (show ¬ i = 254 by omega)]
theorem bit_ne {x v w : Int64} {k : Nat} (hk : k < 64) (hv : v = (x.toUInt64 >>> ((nI k).toInt64.toUInt64 &&& Int64.toUInt64 63)).toInt64) (hw : w = v &&& 1) : (uw x).testBit k = true ↔ ¬ w = 0 := by
  have hx := uw_lt x
  rw [hw, hv, uw_eq x, wb_bit hx hk, uw_of hx, Nat.testBit_eq_decide_div_mod_eq, decide_eq_true_iff]
  have h2 : uw x / 2 ^ k % 2 < 2 := Nat.mod_lt _ (by decide)
  constructor
  · intro h
    rw [h]
    decide
  · intro h
    rcases (show uw x / 2 ^ k % 2 = 0 ∨ uw x / 2 ^ k % 2 = 1 by omega) with h1 | h1
    · rw [h1] at h; exact absurd rfl h
    · exact h1
theorem wv_m63 {f g : Nat → Int64} {y : Int64} (h : ∀ k, k < 3 → g k = f k) (h3 : g 3 = y) (hy : y = f 3 &&& 9223372036854775807) : wv g = wv f % 57896044618658097711785492504343953926634992332820282019728792003956564819968 ∧ uw (g 3) < 9223372036854775808 := by
  have e : uw y = uw (f 3) % 9223372036854775808 := by
    rw [hy]
    exact tl_maskN (f 3) 9223372036854775807 63 (by decide)
  have h0 := uw_lt (f 0)
  have h1 := uw_lt (f 1)
  have h2 := uw_lt (f 2)
  unfold wv
  rw [h 0 (by omega), h 1 (by omega), h 2 (by omega), h3, e]
  omega
/-- the desk's own rows -/
def DW (L : List Nat) (n t : Nat → Nat) (aSC aPT aRS aAN : Nat) : Prop := ((aSC ∈ L ∧ n aSC = 4) ∧ (aPT ∈ L ∧ n aPT = 4) ∧ (aRS ∈ L ∧ n aRS = 4) ∧ (aAN ∈ L ∧ n aAN = 4)) ∧ (t aSC = 15 ∧ t aPT = 16 ∧ t aRS = 17 ∧ t aAN = 18)
/-- what the rows hold -/
def DV (ph st : Nat) (sc pt : Nat → Int64) (q : Nat → Nat → Int64) (aU x2 z2 x3 z3 aSC aPT aRS : Nat) : Prop :=
  (∀ k, k < 4 → q aSC k = sc k) ∧ (∀ k, k < 4 → q aPT k = pt k) ∧ (ph ≠ 0 → holds (q aU) (uo pt) ∧ holds (q x2) (lad sc pt st).1 ∧ holds (q z2) (lad sc pt st).2.1 ∧ holds (q x3) (lad sc pt st).2.2.1 ∧ holds (q z3) (lad sc pt st).2.2.2) ∧ (ph = 2 → wv (q aRS) = res sc pt) ∧ ph ≤ 2 ∧ st ≤ 255 ∧ (ph = 2 → st = 255)
/-- answers -/
def isL (k : Int32) : Bool := decide (0 ≤ k.toInt ∧ k.toInt < 4)
def isP (k : Int32) : Bool := decide (0 ≤ k.toInt ∧ k.toInt < 5)
theorem isL_t {j : Nat} (h : j < 4) : isL (nI j) = true := decide_eq_true (by rw [nI_toInt (by omega)]; omega)
theorem isP_t {j : Nat} (h : j < 5) : isP (nI j) = true := decide_eq_true (by rw [nI_toInt (by omega)]; omega)
theorem in_of {x : Int32} {m : Nat} (h0 : 0 ≤ x.toInt) (h1 : x.toInt < m) (hm : m < 2147483648) : ∃ j : Nat, j < m ∧ x = nI j := by
  refine ⟨x.toInt.toNat, by omega, Int32.toInt_inj.mp ?_⟩
  rw [nI_toInt (by omega)]
  omega
theorem isL_f {k : Int32} (h : ¬ ∃ j : Nat, j < 4 ∧ k = nI j) : isL k = false := decide_eq_false fun ⟨h0, h1⟩ => h (in_of h0 h1 (by omega))
theorem isP_f {k : Int32} (h : ¬ ∃ j : Nat, j < 5 ∧ k = nI j) : isP k = false := decide_eq_false fun ⟨h0, h1⟩ => h (in_of h0 h1 (by omega))
def aTell (ph : Nat) (k : Int32) : Int32 := if ph = 0 ∧ isL k = true then 1 else 0
def sTell (ph : Nat) (k : Int32) (f : Nat → Int64) (v : Int64) : Nat → Int64 := if ph = 0 ∧ isL k = true then vp_updL f k.toNatClampNeg v else f
def aOut (ph : Nat) (sc pt : Nat → Int64) (k : Int32) : Int64 := if ph = 2 ∧ isL k = true then ow (res sc pt) k.toNatClampNeg else 0
def aPart (ph st : Nat) (sc pt : Nat → Int64) (w k : Int32) : Int64 := if ph ≠ 0 ∧ isP w = true ∧ isL k = true then ow (lpart sc pt st w.toNatClampNeg).toNat k.toNatClampNeg else 0
def aTold (sc pt : Nat → Int64) (w k : Int32) : Int64 := if isL k = true then (if w = 0 then sc k.toNatClampNeg else if w = 1 then pt k.toNatClampNeg else if w = 2 then cl sc k.toNatClampNeg else if w = 3 then ow (uo pt) k.toNatClampNeg else 0) else 0
def aCount (ph st : Nat) (rs w : Int32) : Int32 := if w = 0 then (if ph = 0 then 0 else nI st) else if w = 1 then rs else -1
def aCheck (ph : Nat) (sc pt : Nat → Int64) : Int32 := if ph = 2 then (if (lad sc pt 255).2.1 = 0 then (if res sc pt = 0 then 1 else 0) else (if ((res sc pt : Int) * (lad sc pt 255).2.1) % pP = (lad sc pt 255).1 then 1 else 0)) else 1
/-- the steps that a call makes -/
def sStep (ph st : Nat) (k : Int32) : Nat := if ph = 1 ∧ 1 ≤ k.toInt then min (st + k.toInt.toNat) 255 else st
def aStep (ph st : Nat) (k : Int32) : Int32 := if ph = 1 ∧ 1 ≤ k.toInt then nI (255 - sStep ph st k) else -1
end
section
set_option maxRecDepth 100000 in
set_option maxHeartbeats 4000000 in
theorem c_agreesWith (l : Launch) (D : va_G) (cA : ClassId) (tys : List (ClassId × FieldType)) (d0 : Nat × va_E) (ol hf : Nat) (L : List Nat) (n t : Nat → Nat) (q : Nat → Nat → Int64) (wd wh aU aA aB aC aD aE aAA aBB aDA aCB aSP aLE aRI x2 z2 x3 z3 : Nat) (hLW : LW L n t wd wh aU aA aB aC aD aE aAA aBB aDA aCB aSP aLE aRI x2 z2 x3 z3) (w : Nat) (hw : w ∈ L ∧ n w = 4) (hwt : 15 ≤ t w) (hwq : wv (q w) < nP) (vx2 vz2 : Int) (hx2 : holds (q x2) vx2) (hz2 : holds (q z2) vz2) (ix2 : 0 ≤ vx2 ∧ vx2 < pP) (iz2 : 0 ≤ vz2 ∧ vz2 < pP) : zCi l D ((cA, .long) :: tys) yX1_agreesWith wsX1_agreesWith ({ frames := 3, cells := 0, slots := 0, locals := 74 }) [.ref ol, .ref w] ([d0, (ol, .inr (1, [.ref hf, .ref aU, .ref x2, .ref z2, .ref x3, .ref z3, .ref aA, .ref aB, .ref aC, .ref aD, .ref aE, .ref aAA, .ref aBB, .ref aDA, .ref aCB, .ref aSP, .ref aLE, .ref aRI])), (hf, .inr (0, [.ref wd, .ref wh]))] ++ PL cA L n q) (fun r u => (∃ q' : Nat → Nat → Int64, (∀ b, t b = 2 ∨ 15 ≤ t b → q' b = q b) ∧ u = [d0, (ol, .inr (1, [.ref hf, .ref aU, .ref x2, .ref z2, .ref x3, .ref z3, .ref aA, .ref aB, .ref aC, .ref aD, .ref aE, .ref aAA, .ref aBB, .ref aDA, .ref aCB, .ref aSP, .ref aLE, .ref aRI])), (hf, .inr (0, [.ref wd, .ref wh]))] ++ PL cA L n q') ∧ r = if vz2 = 0 then (if wv (q w) = 0 then 1 else 0) else (if ((wv (q w) : Int) * vz2) % pP = vx2 then 1 else 0)) := by
  refine z_met (fun A => va_Qi (fun r u => (∃ q' : Nat → Nat → Int64, (∀ b, t b = 2 ∨ 15 ≤ t b → q' b = q b) ∧ u = [d0, (ol, .inr (1, [.ref hf, .ref aU, .ref x2, .ref z2, .ref x3, .ref z3, .ref aA, .ref aB, .ref aC, .ref aD, .ref aE, .ref aAA, .ref aBB, .ref aDA, .ref aCB, .ref aSP, .ref aLE, .ref aRI])), (hf, .inr (0, [.ref wd, .ref wh]))] ++ PL cA L n q') ∧ r = if vz2 = 0 then (if wv (q w) = 0 then 1 else 0) else (if ((wv (q w) : Int) * vz2) % pP = vx2 then 1 else 0)) (zB D ((cA, .long) :: tys) A) A) (by decide) rfl (Nat.le_of_ble_eq_true rfl) ?_
  intro p e s m below meth c hx hb hr hml hts hown hlocks hname A hA hP hK hD hS ls hl
  have hown : s.vm.findClass RX1 = some m.cls := hown
  have hl : lv_has ls 2 [(0, .ref ol), (1, .ref w)] := hl
  obtain ⟨⟨m_wd, m_wh, m_aU, m_aA, m_aB, m_aC, m_aD, m_aE, m_aAA, m_aBB, m_aDA, m_aCB, m_aSP, m_aLE, m_aRI, m_x2, m_z2, m_x3, m_z3⟩, ⟨t_wd, t_wh, t_aU, t_aA, t_aB, t_aC, t_aD, t_aE, t_aAA, t_aBB, t_aDA, t_aCB, t_aSP, t_aLE, t_aRI, t_x2, t_z2, t_x3, t_z3⟩, ⟨d_0, d_1, d_2, d_3, d_4, d_5⟩⟩ := id hLW
  have w_sp : w ≠ aSP := fun e => by rw [e, m_aSP.2] at hw; omega
  have w_le : w ≠ aLE := (show w ≠ aLE from fun h => by have := congrArg t h; omega)
  have w_wh : w ≠ wh := fun e => by rw [e, m_wh.2] at hw; omega
  have w_wd : w ≠ wd := fun e => by rw [e, m_wd.2] at hw; omega
  refine lv_aload_n hx hb dX1_agreesWith_0 rfl (lv_at hl 0 rfl) ?_
  refine va_get (D := D) (ci := 1) (v := .ref hf) (C := RX1) (T := TX1) (N := 18) hx hb hts (by decide +kernel) hown hK hP 1 rfl rfl 0 (by decide) (hts (.fieldLink RX1 12 "LadderDesk$Ladder" "field" "LLadderDesk$Field;") (by decide +kernel)) (fun _ h9 => h9) rfl dX1_agreesWith_1 ?_
  refine lv_aload_n hx hb dX1_agreesWith_4 rfl (lv_at hl 0 rfl) ?_
  refine va_get (D := D) (ci := 1) (v := .ref aLE) (C := RX1) (T := TX1) (N := 18) hx hb hts (by decide +kernel) hown hK hP 1 rfl rfl 16 (by decide) (hts (.fieldLink RX1 68 "LadderDesk$Ladder" "left" "[J") (by decide +kernel)) (fun _ h9 => h9) rfl dX1_agreesWith_5 ?_
  refine lv_aload_n hx hb dX1_agreesWith_8 rfl (lv_at hl 0 rfl) ?_
  refine va_get (D := D) (ci := 1) (v := .ref z2) (C := RX1) (T := TX1) (N := 18) hx hb hts (by decide +kernel) hown hK hP 1 rfl rfl 3 (by decide) (hts (.fieldLink RX1 29 "LadderDesk$Ladder" "z2" "[J") (by decide +kernel)) (fun _ h9 => h9) rfl dX1_agreesWith_9 ?_
  refine z_callv (va_runV (As := [.ref aLE, .ref z2]) (rest := []) ⟨hx, hb, hml, hown, hts⟩ (c_write l D cA tys d0 (ol, .inr (1, [.ref hf, .ref aU, .ref x2, .ref z2, .ref x3, .ref z3, .ref aA, .ref aB, .ref aC, .ref aD, .ref aE, .ref aAA, .ref aBB, .ref aDA, .ref aCB, .ref aSP, .ref aLE, .ref aRI])) hf wd wh L n q aLE z2 m_wh m_aLE m_z2 hz2.1 _) (cwV 2 hts gX1_agreesWith_X0_write rfl rfl rfl (by decide +kernel) ⟨Nat.le_of_ble_eq_true rfl, Nat.le_of_ble_eq_true rfl⟩) (z_preV _ hK hP hD (ci := 0) (q0 := 2) rfl rfl) rfl rfl hl.1 rfl (lv_room (Nat.le_of_ble_eq_true rfl)) dX1_agreesWith_12 ⟨Nat.le_of_ble_eq_true rfl, Nat.le_of_ble_eq_true rfl⟩) hD hS hA (fun u H locs hu hP hD hS => ?_)
  obtain ⟨q1, k1, v1, rfl⟩ := hu
  rw [cg_emod hz2.2, Int.emod_eq_of_lt iz2.1 iz2.2] at v1
  have e1 : q1 w = q w := k1 w w_le w_wh
  refine lv_aload_n hx hb dX1_agreesWith_15 rfl (lv_at hl 0 rfl) ?_
  refine va_get (D := D) (ci := 1) (v := .ref aLE) (C := RX1) (T := TX1) (N := 18) hx hb hts (by decide +kernel) hown hK hP 1 rfl rfl 16 (by decide) (hts (.fieldLink RX1 68 "LadderDesk$Ladder" "left" "[J") (by decide +kernel)) (fun _ h9 => h9) rfl dX1_agreesWith_16 ?_
  refine z_calli (va_runS (As := [.ref aLE]) (rest := []) ⟨hx, hb, hml, hown, hts⟩ (c_isZero l D cA tys [d0, (ol, .inr (1, [.ref hf, .ref aU, .ref x2, .ref z2, .ref x3, .ref z3, .ref aA, .ref aB, .ref aC, .ref aD, .ref aE, .ref aAA, .ref aBB, .ref aDA, .ref aCB, .ref aSP, .ref aLE, .ref aRI])), (hf, .inr (0, [.ref wd, .ref wh]))] L n q1 aLE m_aLE _) (va_cwS 1 hts gX1_agreesWith_X1_isZero rfl rfl rfl (by decide +kernel) ⟨Nat.le_of_ble_eq_true rfl, Nat.le_of_ble_eq_true rfl⟩) (z_preS _ hK hP hD) rfl rfl hl.1 rfl (lv_room (Nat.le_of_ble_eq_true rfl)) dX1_agreesWith_19 ⟨Nat.le_of_ble_eq_true rfl, Nat.le_of_ble_eq_true rfl⟩) hD hS hA (fun r19 u H locs hu hP hD hS => ?_)
  obtain ⟨rfl, hz⟩ := hu
  refine lv_if_eq (tgt := 30) hx hb dX1_agreesWith_22 (by decide) (fun c22 => ?_) (fun c22 => ?_)
  · have nz : ¬ vz2 = 0 := by
      rcases hz with ⟨h1, -⟩ | ⟨-, h2⟩
      · rw [h1] at c22; exact absurd c22 (by decide)
      · omega
    refine lv_aload_n hx hb dX1_agreesWith_30 rfl (lv_at hl 0 rfl) ?_
    refine va_get (D := D) (ci := 1) (v := .ref aSP) (C := RX1) (T := TX1) (N := 18) hx hb hts (by decide +kernel) hown hK hP 1 rfl rfl 15 (by decide) (hts (.fieldLink RX1 65 "LadderDesk$Ladder" "spare" "[J") (by decide +kernel)) (fun _ h9 => h9) rfl dX1_agreesWith_31 ?_
    refine lv_aload_n hx hb dX1_agreesWith_34 rfl (lv_at hl 1 rfl) ?_
    refine z_callv (va_runS (As := [.ref aSP, .ref w]) (rest := []) ⟨hx, hb, hml, hown, hts⟩ (c_read l D cA tys [d0, (ol, .inr (1, [.ref hf, .ref aU, .ref x2, .ref z2, .ref x3, .ref z3, .ref aA, .ref aB, .ref aC, .ref aD, .ref aE, .ref aAA, .ref aBB, .ref aDA, .ref aCB, .ref aSP, .ref aLE, .ref aRI])), (hf, .inr (0, [.ref wd, .ref wh]))] L n q1 aSP w m_aSP hw (by rw [e1]; exact wv_lt255 (Nat.lt_of_lt_of_le hwq (by decide))) _) (va_cwS 2 hts gX1_agreesWith_X0_read rfl rfl rfl (by decide +kernel) ⟨Nat.le_of_ble_eq_true rfl, Nat.le_of_ble_eq_true rfl⟩) (z_preS _ hK hP hD) rfl rfl hl.1 rfl (lv_room (Nat.le_of_ble_eq_true rfl)) dX1_agreesWith_35 ⟨Nat.le_of_ble_eq_true rfl, Nat.le_of_ble_eq_true rfl⟩) hD hS hA (fun u H locs hu hP hD hS => ?_)
    obtain ⟨g2, s2, v2, rfl⟩ := hu
    rw [e1] at v2
    obtain ⟨q2, hq2⟩ : ∃ z, z = va_up q1 aSP g2 := ⟨_, rfl⟩
    rw [← hq2] at hP hD
    have k2 : ∀ b, b ≠ aSP → q2 b = q1 b := fun b h => by rw [hq2, va_up_ne _ _ h]
    have e2 : q2 aSP = g2 := by rw [hq2, va_up_self]
    have z2_1 : q2 z2 = q z2 := by rw [k2 z2 (show z2 ≠ aSP from fun h => by have := congrArg t h; omega), k1 z2 (show z2 ≠ aLE from fun h => by have := congrArg t h; omega) (show z2 ≠ wh from fun h => by have := congrArg t h; omega)]
    refine lv_aload_n hx hb dX1_agreesWith_38 rfl (lv_at hl 0 rfl) ?_
    refine va_get (D := D) (ci := 1) (v := .ref hf) (C := RX1) (T := TX1) (N := 18) hx hb hts (by decide +kernel) hown hK hP 1 rfl rfl 0 (by decide) (hts (.fieldLink RX1 12 "LadderDesk$Ladder" "field" "LLadderDesk$Field;") (by decide +kernel)) (fun _ h9 => h9) rfl dX1_agreesWith_39 ?_
    refine lv_aload_n hx hb dX1_agreesWith_42 rfl (lv_at hl 0 rfl) ?_
    refine va_get (D := D) (ci := 1) (v := .ref aSP) (C := RX1) (T := TX1) (N := 18) hx hb hts (by decide +kernel) hown hK hP 1 rfl rfl 15 (by decide) (hts (.fieldLink RX1 65 "LadderDesk$Ladder" "spare" "[J") (by decide +kernel)) (fun _ h9 => h9) rfl dX1_agreesWith_43 ?_
    refine lv_aload_n hx hb dX1_agreesWith_46 rfl (lv_at hl 0 rfl) ?_
    refine va_get (D := D) (ci := 1) (v := .ref aSP) (C := RX1) (T := TX1) (N := 18) hx hb hts (by decide +kernel) hown hK hP 1 rfl rfl 15 (by decide) (hts (.fieldLink RX1 65 "LadderDesk$Ladder" "spare" "[J") (by decide +kernel)) (fun _ h9 => h9) rfl dX1_agreesWith_47 ?_
    refine lv_aload_n hx hb dX1_agreesWith_50 rfl (lv_at hl 0 rfl) ?_
    refine va_get (D := D) (ci := 1) (v := .ref z2) (C := RX1) (T := TX1) (N := 18) hx hb hts (by decide +kernel) hown hK hP 1 rfl rfl 3 (by decide) (hts (.fieldLink RX1 29 "LadderDesk$Ladder" "z2" "[J") (by decide +kernel)) (fun _ h9 => h9) rfl dX1_agreesWith_51 ?_
    refine z_callv (va_runV (As := [.ref aSP, .ref aSP, .ref z2]) (rest := []) ⟨hx, hb, hml, hown, hts⟩ (c_multiply l D cA tys d0 (ol, .inr (1, [.ref hf, .ref aU, .ref x2, .ref z2, .ref x3, .ref z3, .ref aA, .ref aB, .ref aC, .ref aD, .ref aE, .ref aAA, .ref aBB, .ref aDA, .ref aCB, .ref aSP, .ref aLE, .ref aRI])) hf wd wh L n q2 aSP aSP z2 m_wd m_aSP m_aSP m_z2 (by rw [e2]; exact settled_loose s2) (by rw [z2_1]; exact settled_loose hz2.1) _) (cwV 3 hts gX1_agreesWith_X0_multiply rfl rfl rfl (by decide +kernel) ⟨Nat.le_of_ble_eq_true rfl, Nat.le_of_ble_eq_true rfl⟩) (z_preV _ hK hP hD (ci := 0) (q0 := 2) rfl rfl) rfl rfl hl.1 rfl (lv_room (Nat.le_of_ble_eq_true rfl)) dX1_agreesWith_54 ⟨Nat.le_of_ble_eq_true rfl, Nat.le_of_ble_eq_true rfl⟩) hD hS hA (fun u H locs hu hP hD hS => ?_)
    obtain ⟨q3, k3, s3, v3, rfl⟩ := hu
    rw [e2, z2_1, v2] at v3
    have v3 := cg_trans v3 (cg_mul (cg_refl _) hz2.2)
    refine lv_aload_n hx hb dX1_agreesWith_57 rfl (lv_at hl 0 rfl) ?_
    refine va_get (D := D) (ci := 1) (v := .ref hf) (C := RX1) (T := TX1) (N := 18) hx hb hts (by decide +kernel) hown hK hP 1 rfl rfl 0 (by decide) (hts (.fieldLink RX1 12 "LadderDesk$Ladder" "field" "LLadderDesk$Field;") (by decide +kernel)) (fun _ h9 => h9) rfl dX1_agreesWith_58 ?_
    refine lv_aload_n hx hb dX1_agreesWith_61 rfl (lv_at hl 0 rfl) ?_
    refine va_get (D := D) (ci := 1) (v := .ref aLE) (C := RX1) (T := TX1) (N := 18) hx hb hts (by decide +kernel) hown hK hP 1 rfl rfl 16 (by decide) (hts (.fieldLink RX1 68 "LadderDesk$Ladder" "left" "[J") (by decide +kernel)) (fun _ h9 => h9) rfl dX1_agreesWith_62 ?_
    refine lv_aload_n hx hb dX1_agreesWith_65 rfl (lv_at hl 0 rfl) ?_
    refine va_get (D := D) (ci := 1) (v := .ref aSP) (C := RX1) (T := TX1) (N := 18) hx hb hts (by decide +kernel) hown hK hP 1 rfl rfl 15 (by decide) (hts (.fieldLink RX1 65 "LadderDesk$Ladder" "spare" "[J") (by decide +kernel)) (fun _ h9 => h9) rfl dX1_agreesWith_66 ?_
    refine z_callv (va_runV (As := [.ref aLE, .ref aSP]) (rest := []) ⟨hx, hb, hml, hown, hts⟩ (c_write l D cA tys d0 (ol, .inr (1, [.ref hf, .ref aU, .ref x2, .ref z2, .ref x3, .ref z3, .ref aA, .ref aB, .ref aC, .ref aD, .ref aE, .ref aAA, .ref aBB, .ref aDA, .ref aCB, .ref aSP, .ref aLE, .ref aRI])) hf wd wh L n q3 aLE aSP m_wh m_aLE m_aSP s3 _) (cwV 2 hts gX1_agreesWith_X0_write rfl rfl rfl (by decide +kernel) ⟨Nat.le_of_ble_eq_true rfl, Nat.le_of_ble_eq_true rfl⟩) (z_preV _ hK hP hD (ci := 0) (q0 := 2) rfl rfl) rfl rfl hl.1 rfl (lv_room (Nat.le_of_ble_eq_true rfl)) dX1_agreesWith_69 ⟨Nat.le_of_ble_eq_true rfl, Nat.le_of_ble_eq_true rfl⟩) hD hS hA (fun u H locs hu hP hD hS => ?_)
    obtain ⟨q4, k4, v4, rfl⟩ := hu
    rw [cg_emod v3] at v4
    have x2_4 : q4 x2 = q x2 := by rw [k4 x2 (show x2 ≠ aLE from fun h => by have := congrArg t h; omega) (show x2 ≠ wh from fun h => by have := congrArg t h; omega), k3 x2 (show x2 ≠ aSP from fun h => by have := congrArg t h; omega) (show x2 ≠ wd from fun h => by have := congrArg t h; omega), k2 x2 (show x2 ≠ aSP from fun h => by have := congrArg t h; omega), k1 x2 (show x2 ≠ aLE from fun h => by have := congrArg t h; omega) (show x2 ≠ wh from fun h => by have := congrArg t h; omega)]
    refine lv_aload_n hx hb dX1_agreesWith_72 rfl (lv_at hl 0 rfl) ?_
    refine va_get (D := D) (ci := 1) (v := .ref hf) (C := RX1) (T := TX1) (N := 18) hx hb hts (by decide +kernel) hown hK hP 1 rfl rfl 0 (by decide) (hts (.fieldLink RX1 12 "LadderDesk$Ladder" "field" "LLadderDesk$Field;") (by decide +kernel)) (fun _ h9 => h9) rfl dX1_agreesWith_73 ?_
    refine lv_aload_n hx hb dX1_agreesWith_76 rfl (lv_at hl 0 rfl) ?_
    refine va_get (D := D) (ci := 1) (v := .ref aRI) (C := RX1) (T := TX1) (N := 18) hx hb hts (by decide +kernel) hown hK hP 1 rfl rfl 17 (by decide) (hts (.fieldLink RX1 71 "LadderDesk$Ladder" "right" "[J") (by decide +kernel)) (fun _ h9 => h9) rfl dX1_agreesWith_77 ?_
    refine lv_aload_n hx hb dX1_agreesWith_80 rfl (lv_at hl 0 rfl) ?_
    refine va_get (D := D) (ci := 1) (v := .ref x2) (C := RX1) (T := TX1) (N := 18) hx hb hts (by decide +kernel) hown hK hP 1 rfl rfl 2 (by decide) (hts (.fieldLink RX1 26 "LadderDesk$Ladder" "x2" "[J") (by decide +kernel)) (fun _ h9 => h9) rfl dX1_agreesWith_81 ?_
    refine z_callv (va_runV (As := [.ref aRI, .ref x2]) (rest := []) ⟨hx, hb, hml, hown, hts⟩ (c_write l D cA tys d0 (ol, .inr (1, [.ref hf, .ref aU, .ref x2, .ref z2, .ref x3, .ref z3, .ref aA, .ref aB, .ref aC, .ref aD, .ref aE, .ref aAA, .ref aBB, .ref aDA, .ref aCB, .ref aSP, .ref aLE, .ref aRI])) hf wd wh L n q4 aRI x2 m_wh m_aRI m_x2 (by rw [x2_4]; exact hx2.1) _) (cwV 2 hts gX1_agreesWith_X0_write rfl rfl rfl (by decide +kernel) ⟨Nat.le_of_ble_eq_true rfl, Nat.le_of_ble_eq_true rfl⟩) (z_preV _ hK hP hD (ci := 0) (q0 := 2) rfl rfl) rfl rfl hl.1 rfl (lv_room (Nat.le_of_ble_eq_true rfl)) dX1_agreesWith_84 ⟨Nat.le_of_ble_eq_true rfl, Nat.le_of_ble_eq_true rfl⟩) hD hS hA (fun u H locs hu hP hD hS => ?_)
    obtain ⟨q5, k5, v5, rfl⟩ := hu
    rw [x2_4, cg_emod hx2.2, Int.emod_eq_of_lt ix2.1 ix2.2] at v5
    have l5 : q5 aLE = q4 aLE := k5 aLE (show aLE ≠ aRI from fun h => by have := congrArg t h; omega) (show aLE ≠ wh from fun h => by have := congrArg t h; omega)
    have kk : ∀ b, t b = 2 ∨ 15 ≤ t b → q5 b = q b := fun b hb => by rw [k5 b (show b ≠ aRI from fun h => by have := congrArg t h; omega) (show b ≠ wh from fun h => by have := congrArg t h; omega), k4 b (show b ≠ aLE from fun h => by have := congrArg t h; omega) (show b ≠ wh from fun h => by have := congrArg t h; omega), k3 b (show b ≠ aSP from fun h => by have := congrArg t h; omega) (show b ≠ wd from fun h => by have := congrArg t h; omega), k2 b (show b ≠ aSP from fun h => by have := congrArg t h; omega), k1 b (show b ≠ aLE from fun h => by have := congrArg t h; omega) (show b ≠ wh from fun h => by have := congrArg t h; omega)]
    refine lv_aload_n hx hb dX1_agreesWith_87 rfl (lv_at hl 0 rfl) ?_
    refine va_get (D := D) (ci := 1) (v := .ref aLE) (C := RX1) (T := TX1) (N := 18) hx hb hts (by decide +kernel) hown hK hP 1 rfl rfl 16 (by decide) (hts (.fieldLink RX1 68 "LadderDesk$Ladder" "left" "[J") (by decide +kernel)) (fun _ h9 => h9) rfl dX1_agreesWith_88 ?_
    refine lv_aload_n hx hb dX1_agreesWith_91 rfl (lv_at hl 0 rfl) ?_
    refine va_get (D := D) (ci := 1) (v := .ref aRI) (C := RX1) (T := TX1) (N := 18) hx hb hts (by decide +kernel) hown hK hP 1 rfl rfl 17 (by decide) (hts (.fieldLink RX1 71 "LadderDesk$Ladder" "right" "[J") (by decide +kernel)) (fun _ h9 => h9) rfl dX1_agreesWith_92 ?_
    refine z_calli (va_runS (As := [.ref aLE, .ref aRI]) (rest := []) ⟨hx, hb, hml, hown, hts⟩ (c_areEqual l D cA tys [d0, (ol, .inr (1, [.ref hf, .ref aU, .ref x2, .ref z2, .ref x3, .ref z3, .ref aA, .ref aB, .ref aC, .ref aD, .ref aE, .ref aAA, .ref aBB, .ref aDA, .ref aCB, .ref aSP, .ref aLE, .ref aRI])), (hf, .inr (0, [.ref wd, .ref wh]))] L n q5 aLE aRI m_aLE m_aRI _) (va_cwS 2 hts gX1_agreesWith_X1_areEqual rfl rfl rfl (by decide +kernel) ⟨Nat.le_of_ble_eq_true rfl, Nat.le_of_ble_eq_true rfl⟩) (z_preS _ hK hP hD) rfl rfl hl.1 rfl (lv_room (Nat.le_of_ble_eq_true rfl)) dX1_agreesWith_95 ⟨Nat.le_of_ble_eq_true rfl, Nat.le_of_ble_eq_true rfl⟩) hD hS hA (fun r95 u H locs hu hP hD hS => ?_)
    obtain ⟨rfl, hz⟩ := hu
    rw [l5] at hz
    rcases hz with ⟨rfl, h2⟩ | ⟨rfl, h2⟩
    · exact z_zret hx hb hr hlocks dX1_agreesWith_98 rfl hK hP hD hS ⟨⟨q5, kk, rfl⟩, by rw [if_neg nz, if_pos (by omega)]⟩
    · exact z_zret hx hb hr hlocks dX1_agreesWith_98 rfl hK hP hD hS ⟨⟨q5, kk, rfl⟩, by rw [if_neg nz, if_neg (by omega)]⟩
  · have nz : vz2 = 0 := by
      rcases hz with ⟨-, h1⟩ | ⟨h2, -⟩
      · omega
      · exact absurd h2 c22
    have kk : ∀ b, t b = 2 ∨ 15 ≤ t b → q1 b = q b := fun b hb => by rw [k1 b (show b ≠ aLE from fun h => by have := congrArg t h; omega) (show b ≠ wh from fun h => by have := congrArg t h; omega)]
    refine lv_aload_n hx hb dX1_agreesWith_25 rfl (lv_at hl 1 rfl) ?_
    refine z_calli (va_runS (As := [.ref w]) (rest := []) ⟨hx, hb, hml, hown, hts⟩ (c_isZero l D cA tys [d0, (ol, .inr (1, [.ref hf, .ref aU, .ref x2, .ref z2, .ref x3, .ref z3, .ref aA, .ref aB, .ref aC, .ref aD, .ref aE, .ref aAA, .ref aBB, .ref aDA, .ref aCB, .ref aSP, .ref aLE, .ref aRI])), (hf, .inr (0, [.ref wd, .ref wh]))] L n q1 w hw _) (va_cwS 1 hts gX1_agreesWith_X1_isZero rfl rfl rfl (by decide +kernel) ⟨Nat.le_of_ble_eq_true rfl, Nat.le_of_ble_eq_true rfl⟩) (z_preS _ hK hP hD) rfl rfl hl.1 rfl (lv_room (Nat.le_of_ble_eq_true rfl)) dX1_agreesWith_26 ⟨Nat.le_of_ble_eq_true rfl, Nat.le_of_ble_eq_true rfl⟩) hD hS hA (fun r26 u H locs hu hP hD hS => ?_)
    obtain ⟨rfl, hz⟩ := hu
    rw [e1] at hz
    rcases hz with ⟨rfl, h2⟩ | ⟨rfl, h2⟩
    · exact z_zret hx hb hr hlocks dX1_agreesWith_29 rfl hK hP hD hS ⟨⟨q1, kk, rfl⟩, by rw [if_pos nz, if_pos h2]⟩
    · exact z_zret hx hb hr hlocks dX1_agreesWith_29 rfl hK hP hD hS ⟨⟨q1, kk, rfl⟩, by rw [if_pos nz, if_neg h2]⟩
set_option maxRecDepth 100000 in
set_option maxHeartbeats 4000000 in
theorem c_tell (l : Launch) (D : va_G) (cA : ClassId) (tys : List (ClassId × FieldType)) (l0 f0 : Nat × va_E) (od aSC aPT aRS aAN ol ph st : Nat) (rs : Int32) (L : List Nat) (n : Nat → Nat) (q : Nat → Nat → Int64) (a : Nat) (ha : a ∈ L ∧ n a = 4) (k : Int32) (v : Int64) (hph : ph ≤ 2) : zCi l D ((cA, .long) :: tys) yX2_tell wsX2_tell ({ frames := 1, cells := 0, slots := 0, locals := 20 }) [.ref od, .ref a, .int k, .long v] ([(od, .inr (2, [.ref aSC, .ref aPT, .ref aRS, .ref aAN, .ref ol, .int (nI ph), .int (nI st), .int rs])), l0, f0] ++ PL cA L n q) (fun r u => (ph = 0 ∧ ∃ j : Nat, j < 4 ∧ k = nI j ∧ r = 1 ∧ u = [(od, .inr (2, [.ref aSC, .ref aPT, .ref aRS, .ref aAN, .ref ol, .int (nI ph), .int (nI st), .int rs])), l0, f0] ++ PL cA L n (va_up q a (vp_updL (q a) j v))) ∨ (¬ (ph = 0 ∧ ∃ j : Nat, j < 4 ∧ k = nI j) ∧ r = 0 ∧ u = [(od, .inr (2, [.ref aSC, .ref aPT, .ref aRS, .ref aAN, .ref ol, .int (nI ph), .int (nI st), .int rs])), l0, f0] ++ PL cA L n q)) := by
  refine z_met (fun A => va_Qi (fun r u => (ph = 0 ∧ ∃ j : Nat, j < 4 ∧ k = nI j ∧ r = 1 ∧ u = [(od, .inr (2, [.ref aSC, .ref aPT, .ref aRS, .ref aAN, .ref ol, .int (nI ph), .int (nI st), .int rs])), l0, f0] ++ PL cA L n (va_up q a (vp_updL (q a) j v))) ∨ (¬ (ph = 0 ∧ ∃ j : Nat, j < 4 ∧ k = nI j) ∧ r = 0 ∧ u = [(od, .inr (2, [.ref aSC, .ref aPT, .ref aRS, .ref aAN, .ref ol, .int (nI ph), .int (nI st), .int rs])), l0, f0] ++ PL cA L n q)) (zB D ((cA, .long) :: tys) A) A) (by decide) rfl (Nat.le_of_ble_eq_true rfl) ?_
  intro p e s m below meth c hx hb hr hml hts hown hlocks hname A hA hP hK hD hS ls hl
  have hown : s.vm.findClass RX2 = some m.cls := hown
  have hl : lv_has ls 5 [(0, .ref od), (1, .ref a), (2, .int k), (3, .long v)] := hl
  refine lv_aload_n hx hb dX2_tell_0 rfl (lv_at hl 0 rfl) ?_
  refine va_get (D := D) (ci := 2) (v := .int (nI ph)) (C := RX2) (T := TX2) (N := 8) hx hb hts (by decide +kernel) hown hK hP 0 rfl rfl 5 (by decide) (hts (.fieldLink RX2 29 "LadderDesk" "phaseNow" "I") (by decide +kernel)) (fun _ h9 => h9) rfl dX2_tell_1 ?_
  refine lv_if_ne (tgt := 14) hx hb dX2_tell_4 (by decide) (fun c4 => ?_) (fun c4 => ?_)
  · have hc : ¬ ph = 0 := fun e => c4 (by rw [e]; rfl)
    refine lv_iconst (v := nI 0) hx hb dX2_tell_14 (by decide) ?_
    exact z_iret hx hb hr hlocks dX2_tell_15 hK hP hD hS (Or.inr ⟨fun h => hc h.1, rfl, rfl⟩)
  · have hc : ph = 0 := (nI_eq (by omega) (by omega)).mp c4
    refine lv_iload_n hx hb dX2_tell_7 rfl (lv_at hl 2 rfl) ?_
    refine z_calli (va_runS (As := [.int k]) (rest := []) ⟨hx, hb, hml, hown, hts⟩ (c_isLong l D ((cA, .long) :: tys) _ k _) (va_cwS 1 hts gX2_tell_X2_isLong rfl rfl rfl (by decide +kernel) ⟨Nat.le_of_ble_eq_true rfl, Nat.le_of_ble_eq_true rfl⟩) (z_preS _ hK hP hD) rfl rfl hl.1 rfl (lv_room (Nat.le_of_ble_eq_true rfl)) dX2_tell_8 ⟨Nat.le_of_ble_eq_true rfl, Nat.le_of_ble_eq_true rfl⟩) hD hS hA (fun r8 u H locs hu hP hD hS => ?_)
    obtain ⟨rfl, hz⟩ := hu
    refine lv_if_ne (tgt := 16) hx hb dX2_tell_11 (by decide) (fun c11 => ?_) (fun c11 => ?_)
    · obtain ⟨-, j, hj, rfl⟩ : r8 = 1 ∧ ∃ j : Nat, j < 4 ∧ k = nI j := by
        rcases hz with h | ⟨h, -⟩
        · exact h
        · exact absurd h c11
      refine lv_aload_n hx hb dX2_tell_16 rfl (lv_at hl 1 rfl) ?_
      refine lv_iload_n hx hb dX2_tell_17 rfl (lv_at hl 2 rfl) ?_
      refine lv_lload_n hx hb dX2_tell_18 rfl (lv_at hl 3 rfl) ?_
      refine z_st hx hb hK hP hD hS ha j rfl (by omega) (by omega) dX2_tell_19 (fun H locs hP hD hS => ?_)
      refine lv_iconst (v := nI 1) hx hb dX2_tell_20 (by decide) ?_
      exact z_iret hx hb hr hlocks dX2_tell_21 hK hP hD hS (Or.inl ⟨hc, j, hj, rfl, rfl, rfl⟩)
    · have hc2 : ¬ ∃ j : Nat, j < 4 ∧ k = nI j := by
        rcases hz with ⟨h, -⟩ | ⟨-, h⟩
        · rw [h] at c11; exact absurd c11 (by decide)
        · exact h
      refine lv_iconst (v := nI 0) hx hb dX2_tell_14 (by decide) ?_
      exact z_iret hx hb hr hlocks dX2_tell_15 hK hP hD hS (Or.inr ⟨fun h => hc2 h.2, rfl, rfl⟩)
set_option maxRecDepth 100000 in
set_option maxHeartbeats 4000000 in
theorem c_clampedLong (l : Launch) (D : va_G) (cA : ClassId) (tys : List (ClassId × FieldType)) (l0 f0 : Nat × va_E) (od aSC aPT aRS aAN ol ph st : Nat) (rs : Int32) (L : List Nat) (n : Nat → Nat) (q : Nat → Nat → Int64) (hSC : aSC ∈ L ∧ n aSC = 4) (j : Nat) (hj : j < 4) : zCl l D ((cA, .long) :: tys) yX2_clampedLong wsX2_clampedLong ({ frames := 0, cells := 0, slots := 0, locals := 0 }) [.ref od, .int (nI j)] ([(od, .inr (2, [.ref aSC, .ref aPT, .ref aRS, .ref aAN, .ref ol, .int (nI ph), .int (nI st), .int rs])), l0, f0] ++ PL cA L n q) (fun r u => r = cl (q aSC) j ∧ u = [(od, .inr (2, [.ref aSC, .ref aPT, .ref aRS, .ref aAN, .ref ol, .int (nI ph), .int (nI st), .int rs])), l0, f0] ++ PL cA L n q) := by
  refine z_met (fun A => va_Ql (fun r u => r = cl (q aSC) j ∧ u = [(od, .inr (2, [.ref aSC, .ref aPT, .ref aRS, .ref aAN, .ref ol, .int (nI ph), .int (nI st), .int rs])), l0, f0] ++ PL cA L n q) (zB D ((cA, .long) :: tys) A) A) (by decide) rfl (Nat.le_of_ble_eq_true rfl) ?_
  intro p e s m below meth c hx hb hr hml hts hown hlocks hname A hA hP hK hD hS ls hl
  have hown : s.vm.findClass RX2 = some m.cls := hown
  have hl : lv_has ls 4 [(0, .ref od), (1, .int (nI j))] := hl
  refine lv_aload_n hx hb dX2_clampedLong_0 rfl (lv_at hl 0 rfl) ?_
  refine va_get (D := D) (ci := 2) (v := .ref aSC) (C := RX2) (T := TX2) (N := 8) hx hb hts (by decide +kernel) hown hK hP 0 rfl rfl 0 (by decide) (hts (.fieldLink RX2 9 "LadderDesk" "scalarTold" "[J") (by decide +kernel)) (fun _ h9 => h9) rfl dX2_clampedLong_1 ?_
  refine lv_iload_n hx hb dX2_clampedLong_4 rfl (lv_at hl 1 rfl) ?_
  refine z_ld hx hb hK hP hSC j rfl (by omega) (by omega) dX2_clampedLong_5 ?_
  refine lv_topl (fun v5 e5 => ?_)
  refine lv_lstore_n (lv' := [(2, .long v5), (0, .ref od), (1, .int (nI j))]) hx hb dX2_clampedLong_6 rfl hl (by decide) rfl (fun ls hl => ?_)
  refine lv_iload_n hx hb dX2_clampedLong_7 rfl (lv_at hl 2 rfl) ?_
  refine lv_if_ne (tgt := 17) hx hb dX2_clampedLong_8 (by decide) (fun c8 => ?_) (fun c8 => ?_)
  · have hc : ¬ j = 0 := fun e => c8 (by rw [e]; rfl)
    refine lv_iload_n hx hb dX2_clampedLong_17 rfl (lv_at hl 2 rfl) ?_
    refine lv_iconst (v := nI 3) hx hb dX2_clampedLong_18 (by decide) ?_
    refine lv_icmp_ne (tgt := 32) hx hb dX2_clampedLong_19 (by decide) (fun c19 => ?_) (fun c19 => ?_)
    · have hc3 : ¬ j = 3 := fun e => c19 (by rw [e])
      refine lv_lload_n hx hb dX2_clampedLong_32 rfl (lv_at hl 0 rfl) ?_
      exact z_lret hx hb hr hlocks dX2_clampedLong_33 hK hP hD hS (⟨by rw [e5]; unfold cl; rw [if_neg hc, if_neg hc3], rfl⟩)
    · have hc3 : j = 3 := (nI_eq (by omega) (by omega)).mp c19
      refine lv_lload_n hx hb dX2_clampedLong_22 rfl (lv_at hl 0 rfl) ?_
      refine lv_ldc2 (v := 9223372036854775807) hx hb hown (hts (.constantLong RX2 93 (9223372036854775807)) (by decide +kernel)) dX2_clampedLong_23 ?_
      refine lv_land hx hb dX2_clampedLong_26 ?_
      refine lv_topl (fun v26 e26 => ?_)
      refine lv_ldc2 (v := 4611686018427387904) hx hb hown (hts (.constantLong RX2 95 (4611686018427387904)) (by decide +kernel)) dX2_clampedLong_27 ?_
      refine lv_lor hx hb dX2_clampedLong_30 ?_
      refine lv_topl (fun v30 e30 => ?_)
      exact z_lret hx hb hr hlocks dX2_clampedLong_31 hK hP hD hS (⟨by rw [e30, e26, e5, hc3]; rfl, rfl⟩)
  · have hc : j = 0 := (nI_eq (by omega) (by omega)).mp c8
    refine lv_lload_n hx hb dX2_clampedLong_11 rfl (lv_at hl 0 rfl) ?_
    refine lv_ldc2 (v := (-8)) hx hb hown (hts (.constantLong RX2 91 (-8)) (by decide +kernel)) dX2_clampedLong_12 ?_
    refine lv_land hx hb dX2_clampedLong_15 ?_
    refine lv_topl (fun v15 e15 => ?_)
    exact z_lret hx hb hr hlocks dX2_clampedLong_16 hK hP hD hS (⟨by rw [e15, e5, hc]; rfl, rfl⟩)
set_option maxRecDepth 100000 in
set_option maxHeartbeats 4000000 in
theorem c_clampedBit (l : Launch) (D : va_G) (cA : ClassId) (tys : List (ClassId × FieldType)) (l0 f0 : Nat × va_E) (od aSC aPT aRS aAN ol ph st : Nat) (rs : Int32) (L : List Nat) (n : Nat → Nat) (q : Nat → Nat → Int64) (hSC : aSC ∈ L ∧ n aSC = 4) (i : Nat) (hi : i ≤ 254) : zCi l D ((cA, .long) :: tys) yX2_clampedBit wsX2_clampedBit ({ frames := 1, cells := 0, slots := 0, locals := 23 }) [.ref od, .int (nI i)] ([(od, .inr (2, [.ref aSC, .ref aPT, .ref aRS, .ref aAN, .ref ol, .int (nI ph), .int (nI st), .int rs])), l0, f0] ++ PL cA L n q) (fun r u => (pb (q aSC) i = true ↔ ¬ r = 0) ∧ u = [(od, .inr (2, [.ref aSC, .ref aPT, .ref aRS, .ref aAN, .ref ol, .int (nI ph), .int (nI st), .int rs])), l0, f0] ++ PL cA L n q) := by
  refine z_met (fun A => va_Qi (fun r u => (pb (q aSC) i = true ↔ ¬ r = 0) ∧ u = [(od, .inr (2, [.ref aSC, .ref aPT, .ref aRS, .ref aAN, .ref ol, .int (nI ph), .int (nI st), .int rs])), l0, f0] ++ PL cA L n q) (zB D ((cA, .long) :: tys) A) A) (by decide) rfl (Nat.le_of_ble_eq_true rfl) ?_
  intro p e s m below meth c hx hb hr hml hts hown hlocks hname A hA hP hK hD hS ls hl
  have hown : s.vm.findClass RX2 = some m.cls := hown
  have hl : lv_has ls 2 [(0, .ref od), (1, .int (nI i))] := hl
  refine lv_aload_n hx hb dX2_clampedBit_0 rfl (lv_at hl 0 rfl) ?_
  refine lv_iload_n hx hb dX2_clampedBit_1 rfl (lv_at hl 1 rfl) ?_
  refine lv_bipush (v := nI 6) hx hb dX2_clampedBit_2 (by decide) ?_
  refine lv_ishr hx hb dX2_clampedBit_4 ?_
  refine zi (y := nI (i / 64)) (pk_shrN (by omega) _ 6 (by decide)) ?_
  refine z_calll (va_runV (As := [.int (nI (i / 64))]) (rest := []) ⟨hx, hb, hml, hown, hts⟩ (c_clampedLong l D cA tys l0 f0 od aSC aPT aRS aAN ol ph st rs L n q hSC (i / 64) (by omega) _) (cwV 1 hts gX2_clampedBit_X2_clampedLong rfl rfl rfl (by decide +kernel) ⟨Nat.le_of_ble_eq_true rfl, Nat.le_of_ble_eq_true rfl⟩) (z_preV _ hK hP hD (ci := 2) (q0 := 0) rfl rfl) rfl rfl hl.1 rfl (lv_room (Nat.le_of_ble_eq_true rfl)) dX2_clampedBit_5 ⟨Nat.le_of_ble_eq_true rfl, Nat.le_of_ble_eq_true rfl⟩) hD hS hA (fun r5 u H locs hu hP hD hS => ?_)
  obtain ⟨hr5, rfl⟩ := hu
  refine lv_iload_n hx hb dX2_clampedBit_8 rfl (lv_at hl 1 rfl) ?_
  refine lv_bipush (v := nI 63) hx hb dX2_clampedBit_9 (by decide) ?_
  refine lv_iand hx hb dX2_clampedBit_11 ?_
  refine zi (y := nI (i % 64)) (pk_andN (by omega) 6 (by decide)) ?_
  refine lv_lushr hx hb dX2_clampedBit_12 rfl ?_
  refine lv_topl (fun v12 e12 => ?_)
  refine lv_lconst (v := 1) hx hb dX2_clampedBit_13 (by decide) ?_
  refine lv_land hx hb dX2_clampedBit_14 ?_
  refine lv_topl (fun v14 e14 => ?_)
  refine lv_lconst (v := 0) hx hb dX2_clampedBit_15 (by decide) ?_
  refine W.lcmp hx hb dX2_clampedBit_16 ?_
  have hbit := bit_ne (k := i % 64) (by omega) e12 e14
  rw [hr5, cl_bit (q aSC) hi] at hbit
  refine lv_if_eq (tgt := 24) hx hb dX2_clampedBit_17 (by decide) (fun c17 => ?_) (fun c17 => ?_)
  · have hc := (lg_cmp_eq _ _).mp c17
    refine lv_iconst (v := nI 0) hx hb dX2_clampedBit_24 (by decide) ?_
    exact z_zret hx hb hr hlocks dX2_clampedBit_25 rfl hK hP hD hS (⟨⟨fun h => absurd hc (hbit.mp h), fun h => absurd rfl h⟩, rfl⟩)
  · have hc := cmp_ne c17
    refine lv_iconst (v := nI 1) hx hb dX2_clampedBit_20 (by decide) ?_
    refine lv_goto (tgt := 25) hx hb dX2_clampedBit_21 (by decide) ?_
    exact z_zret hx hb hr hlocks dX2_clampedBit_25 rfl hK hP hD hS (⟨⟨fun _ => by decide, fun _ => hbit.mpr hc⟩, rfl⟩)
set_option maxRecDepth 100000 in
set_option maxHeartbeats 4000000 in
theorem c_writeU (l : Launch) (D : va_G) (cA : ClassId) (tys : List (ClassId × FieldType)) (l0 f0 : Nat × va_E) (od aSC aPT aRS aAN ol ph st : Nat) (rs : Int32) (L : List Nat) (n : Nat → Nat) (q : Nat → Nat → Int64) (hPT : aPT ∈ L ∧ n aPT = 4) (w : Nat) (hw : w ∈ L ∧ n w = 4) : zCv l D ((cA, .long) :: tys) yX2_writeU wsX2_writeU ({ frames := 1, cells := 0, slots := 0, locals := 21 }) [.ref od, .ref w] ([(od, .inr (2, [.ref aSC, .ref aPT, .ref aRS, .ref aAN, .ref ol, .int (nI ph), .int (nI st), .int rs])), l0, f0] ++ PL cA L n q) (fun u => ∃ g, wv g = uo (q aPT) ∧ u = [(od, .inr (2, [.ref aSC, .ref aPT, .ref aRS, .ref aAN, .ref ol, .int (nI ph), .int (nI st), .int rs])), l0, f0] ++ PL cA L n (va_up q w g)) := by
  refine z_met (fun A => va_Qv (fun u => ∃ g, wv g = uo (q aPT) ∧ u = [(od, .inr (2, [.ref aSC, .ref aPT, .ref aRS, .ref aAN, .ref ol, .int (nI ph), .int (nI st), .int rs])), l0, f0] ++ PL cA L n (va_up q w g)) (zB D ((cA, .long) :: tys) A) A) (by decide) rfl (Nat.le_of_ble_eq_true rfl) ?_
  intro p e s m below meth c hx hb hr hml hts hown hlocks hname A hA hP hK hD hS ls hl
  have hown : s.vm.findClass RX2 = some m.cls := hown
  have hl : lv_has ls 2 [(0, .ref od), (1, .ref w)] := hl
  refine lv_aload_n hx hb dX2_writeU_0 rfl (lv_at hl 0 rfl) ?_
  refine va_get (D := D) (ci := 2) (v := .ref aPT) (C := RX2) (T := TX2) (N := 8) hx hb hts (by decide +kernel) hown hK hP 0 rfl rfl 1 (by decide) (hts (.fieldLink RX2 13 "LadderDesk" "pointTold" "[J") (by decide +kernel)) (fun _ h9 => h9) rfl dX2_writeU_1 ?_
  refine lv_iconst (v := nI 0) hx hb dX2_writeU_4 (by decide) ?_
  refine lv_aload_n hx hb dX2_writeU_5 rfl (lv_at hl 1 rfl) ?_
  refine lv_iconst (v := nI 0) hx hb dX2_writeU_6 (by decide) ?_
  refine lv_iconst (v := nI 4) hx hb dX2_writeU_7 (by decide) ?_
  refine z_cp hx hb (hml.trans hl.1.symm) hown (hts (.methodLink RX2 67 arraycopyName) (by decide +kernel)) (hts (.native arraycopyName) (by decide +kernel)) (hts (.static arraycopyName) (by decide +kernel)) (hts (.initialized "java/lang/System") (by decide +kernel)) hK hP hD hS hPT hw 4 (by decide) (by decide) (by decide) (Nat.le_of_ble_eq_true rfl) (Nat.le_of_ble_eq_true rfl) dX2_writeU_8 (fun H locs hP hD hS => ?_)
  refine lv_aload_n hx hb dX2_writeU_11 rfl (lv_at hl 1 rfl) ?_
  refine lv_iconst (v := nI 3) hx hb dX2_writeU_12 (by decide) ?_
  refine lv_dup2_11 hx hb dX2_writeU_13 rfl rfl ?_
  refine z_ld hx hb hK hP hw 3 rfl (by omega) (by omega) dX2_writeU_14 ?_
  refine lv_topl (fun v14 e14 => ?_)
  refine lv_ldc2 (v := 9223372036854775807) hx hb hown (hts (.constantLong RX2 93 (9223372036854775807)) (by decide +kernel)) dX2_writeU_15 ?_
  refine lv_land hx hb dX2_writeU_18 ?_
  refine lv_topl (fun v18 e18 => ?_)
  refine z_st hx hb hK hP hD hS hw 3 rfl (by omega) (by omega) dX2_writeU_19 (fun H locs hP hD hS => ?_)
  rw [mpq_to, if_pos (by omega)] at e14
  obtain ⟨f1, hf1⟩ : ∃ z, z = vp_updL (mpq q w (q aPT) 4 w) 3 v18 := ⟨_, rfl⟩
  rw [← hf1] at hP hD
  unfold mpq at hP hD
  rw [up_uu] at hP hD
  obtain ⟨k1, k2⟩ := wv_m63 (f := q aPT) (g := f1) (y := v18) (fun k hk => by rw [hf1]; unfold vp_updL; rw [if_neg (by omega), mpq_to, if_pos (by omega)]) (by rw [hf1]; unfold vp_updL; rw [if_pos rfl]) (by rw [e18, e14])
  refine lv_aload_n hx hb dX2_writeU_20 rfl (lv_at hl 1 rfl) ?_
  refine z_callv (va_runS (As := [.ref w]) (rest := []) ⟨hx, hb, hml, hown, hts⟩ (c_takeRest l D cA tys [(od, .inr (2, [.ref aSC, .ref aPT, .ref aRS, .ref aAN, .ref ol, .int (nI ph), .int (nI st), .int rs])), l0, f0] L n (va_up q w f1) w hw (by rw [va_up_self]; exact k2) _) (va_cwS 1 hts gX2_writeU_X0_takeRest rfl rfl rfl (by decide +kernel) ⟨Nat.le_of_ble_eq_true rfl, Nat.le_of_ble_eq_true rfl⟩) (z_preS _ hK hP hD) rfl rfl hl.1 rfl (lv_room (Nat.le_of_ble_eq_true rfl)) dX2_writeU_21 ⟨Nat.le_of_ble_eq_true rfl, Nat.le_of_ble_eq_true rfl⟩) hD hS hA (fun u H locs hu hP hD hS => ?_)
  obtain ⟨g2, hg2, rfl⟩ := hu
  rw [up_uu] at hP hD
  rw [va_up_self, k1] at hg2
  exact z_vret hx hb hr hlocks dX2_writeU_24 hK hP hD hS (⟨g2, hg2, rfl⟩)
end
section
/-- a desk, whole, at the address od, in the state (ph, st, rs, sc, pt) -/
def CI (cA : ClassId) (od ph st : Nat) (rs : Int32) (sc pt : Nat → Int64) (ws : va_W) : Prop := ∃ (ol hf : Nat) (L : List Nat) (n t : Nat → Nat) (q : Nat → Nat → Int64) (wd wh aU aA aB aC aD aE aAA aBB aDA aCB aSP aLE aRI x2 z2 x3 z3 aSC aPT aRS aAN : Nat), ws = [(od, .inr (2, [.ref aSC, .ref aPT, .ref aRS, .ref aAN, .ref ol, .int (nI ph), .int (nI st), .int rs])), (ol, .inr (1, [.ref hf, .ref aU, .ref x2, .ref z2, .ref x3, .ref z3, .ref aA, .ref aB, .ref aC, .ref aD, .ref aE, .ref aAA, .ref aBB, .ref aDA, .ref aCB, .ref aSP, .ref aLE, .ref aRI])), (hf, .inr (0, [.ref wd, .ref wh]))] ++ PL cA L n q ∧ LW L n t wd wh aU aA aB aC aD aE aAA aBB aDA aCB aSP aLE aRI x2 z2 x3 z3 ∧ DW L n t aSC aPT aRS aAN ∧ DV ph st sc pt q aU x2 z2 x3 z3 aSC aPT aRS
theorem DV_0 {st : Nat} {sc pt : Nat → Int64} {q : Nat → Nat → Int64} {aU x2 z2 x3 z3 aSC aPT aRS : Nat} (h1 : ∀ k, k < 4 → q aSC k = sc k) (h2 : ∀ k, k < 4 → q aPT k = pt k) (h3 : st ≤ 255) : DV 0 st sc pt q aU x2 z2 x3 z3 aSC aPT aRS := ⟨h1, h2, fun h => absurd rfl h, fun h => by omega, by omega, h3, fun h => by omega⟩
theorem DV_kp {ph st : Nat} {sc pt : Nat → Int64} {q q' : Nat → Nat → Int64} {aU x2 z2 x3 z3 aSC aPT aRS : Nat} (h : DV ph st sc pt q aU x2 z2 x3 z3 aSC aPT aRS) (e1 : q' aSC = q aSC) (e2 : q' aPT = q aPT) (e3 : q' aU = q aU) (e4 : q' x2 = q x2) (e5 : q' z2 = q z2) (e6 : q' x3 = q x3) (e7 : q' z3 = q z3) (e8 : q' aRS = q aRS) : DV ph st sc pt q' aU x2 z2 x3 z3 aSC aPT aRS := by
  unfold DV
  rw [e1, e2, e3, e4, e5, e6, e7, e8]
  exact h
theorem pb_congr {f g : Nat → Int64} (h : ∀ k, k < 4 → f k = g k) {i : Nat} (hi : i ≤ 254) : pb f i = pb g i := by
  unfold pb
  rw [h (i / 64) (by omega)]
theorem cl_congr {f g : Nat → Int64} (h : ∀ k, k < 4 → f k = g k) {j : Nat} (hj : j < 4) : cl f j = cl g j := by
  unfold cl
  rw [h 0 (by omega), h 3 (by omega), h j hj]
set_option maxRecDepth 100000 in
set_option maxHeartbeats 4000000 in
theorem C_scalar (l : Launch) (D : va_G) (cA : ClassId) (tys : List (ClassId × FieldType)) (od ph st : Nat) (rs : Int32) (sc pt : Nat → Int64) (ws : va_W) (hCI : CI cA od ph st rs sc pt ws) (k : Int32) (v : Int64) : zCi l D ((cA, .long) :: tys) yX2_scalar wsX2_scalar ({ frames := 2, cells := 0, slots := 0, locals := 44 }) [.ref od, .int k, .long v] (ws) (fun r u => r = aTell ph k ∧ CI cA od ph st rs (sTell ph k sc v) pt u) := by
  obtain ⟨ol, hf, L, n, t, q, wd, wh, aU, aA, aB, aC, aD, aE, aAA, aBB, aDA, aCB, aSP, aLE, aRI, x2, z2, x3, z3, aSC, aPT, aRS, aAN, rfl, hLW, hDW, hDV⟩ := hCI
  obtain ⟨v_sc, v_pt, v_lad, v_rs, v_ph, v_st, v_2⟩ := id hDV
  refine z_met (fun A => va_Qi (fun r u => r = aTell ph k ∧ CI cA od ph st rs (sTell ph k sc v) pt u) (zB D ((cA, .long) :: tys) A) A) (by decide) rfl (Nat.le_of_ble_eq_true rfl) ?_
  intro p e s m below meth c hx hb hr hml hts hown hlocks hname A hA hP hK hD hS ls hl
  have hown : s.vm.findClass RX2 = some m.cls := hown
  have hl : lv_has ls 4 [(0, .ref od), (1, .int k), (2, .long v)] := hl
  obtain ⟨⟨m_wd, m_wh, m_aU, m_aA, m_aB, m_aC, m_aD, m_aE, m_aAA, m_aBB, m_aDA, m_aCB, m_aSP, m_aLE, m_aRI, m_x2, m_z2, m_x3, m_z3⟩, ⟨t_wd, t_wh, t_aU, t_aA, t_aB, t_aC, t_aD, t_aE, t_aAA, t_aBB, t_aDA, t_aCB, t_aSP, t_aLE, t_aRI, t_x2, t_z2, t_x3, t_z3⟩, ⟨d_0, d_1, d_2, d_3, d_4, d_5⟩⟩ := id hLW
  obtain ⟨⟨m_aSC, m_aPT, m_aRS, m_aAN⟩, ⟨t_aSC, t_aPT, t_aRS, t_aAN⟩⟩ := id hDW
  refine lv_aload_n hx hb dX2_scalar_0 rfl (lv_at hl 0 rfl) ?_
  refine lv_aload_n hx hb dX2_scalar_1 rfl (lv_at hl 0 rfl) ?_
  refine va_get (D := D) (ci := 2) (v := .ref aSC) (C := RX2) (T := TX2) (N := 8) hx hb hts (by decide +kernel) hown hK hP 0 rfl rfl 0 (by decide) (hts (.fieldLink RX2 9 "LadderDesk" "scalarTold" "[J") (by decide +kernel)) (fun _ h9 => h9) rfl dX2_scalar_2 ?_
  refine lv_iload_n hx hb dX2_scalar_5 rfl (lv_at hl 1 rfl) ?_
  refine lv_lload_n hx hb dX2_scalar_6 rfl (lv_at hl 2 rfl) ?_
  refine z_calli (va_runV (As := [.ref aSC, .int k, .long v]) (rest := []) ⟨hx, hb, hml, hown, hts⟩ (c_tell l D cA tys (ol, .inr (1, [.ref hf, .ref aU, .ref x2, .ref z2, .ref x3, .ref z3, .ref aA, .ref aB, .ref aC, .ref aD, .ref aE, .ref aAA, .ref aBB, .ref aDA, .ref aCB, .ref aSP, .ref aLE, .ref aRI])) (hf, .inr (0, [.ref wd, .ref wh])) od aSC aPT aRS aAN ol ph st rs L n q aSC m_aSC k v v_ph _) (cwV 3 hts gX2_scalar_X2_tell rfl rfl rfl (by decide +kernel) ⟨Nat.le_of_ble_eq_true rfl, Nat.le_of_ble_eq_true rfl⟩) (z_preV _ hK hP hD (ci := 2) (q0 := 0) rfl rfl) rfl rfl hl.1 rfl (lv_room (Nat.le_of_ble_eq_true rfl)) dX2_scalar_7 ⟨Nat.le_of_ble_eq_true rfl, Nat.le_of_ble_eq_true rfl⟩) hD hS hA (fun r7 u H locs hu hP hD hS => ?_)
  rcases hu with ⟨rfl, j, hj, rfl, rfl, rfl⟩ | ⟨hn, rfl, rfl⟩
  · have e1 : sTell 0 (nI j) sc v = vp_updL sc j v := by unfold sTell; rw [if_pos ⟨rfl, isL_t hj⟩, nI_clamp (by omega)]
    have e2 : aTell 0 (nI j) = 1 := by unfold aTell; rw [if_pos ⟨rfl, isL_t hj⟩]
    exact z_iret hx hb hr hlocks dX2_scalar_10 hK hP hD hS ⟨e2.symm, by rw [e1]; exact ⟨ol, hf, L, n, t, _, wd, wh, aU, aA, aB, aC, aD, aE, aAA, aBB, aDA, aCB, aSP, aLE, aRI, x2, z2, x3, z3, aSC, aPT, aRS, aAN, rfl, hLW, hDW, DV_0 (fun k hk => by rw [va_up_self]; unfold vp_updL; rw [v_sc k hk]) (fun k hk => by rw [va_up_ne _ _ (show aPT ≠ aSC from fun h => by have := congrArg t h; omega)]; exact v_pt k hk) v_st⟩⟩
  · have hn2 : ¬ (ph = 0 ∧ isL k = true) := fun ⟨h1, h2⟩ => hn ⟨h1, by obtain ⟨h3, h4⟩ := of_decide_eq_true h2; exact in_of h3 h4 (by omega)⟩
    have e1 : sTell ph k sc v = sc := by unfold sTell; rw [if_neg hn2]
    have e2 : aTell ph k = 0 := by unfold aTell; rw [if_neg hn2]
    exact z_iret hx hb hr hlocks dX2_scalar_10 hK hP hD hS ⟨e2.symm, by rw [e1]; exact ⟨ol, hf, L, n, t, q, wd, wh, aU, aA, aB, aC, aD, aE, aAA, aBB, aDA, aCB, aSP, aLE, aRI, x2, z2, x3, z3, aSC, aPT, aRS, aAN, rfl, hLW, hDW, hDV⟩⟩
set_option maxRecDepth 100000 in
set_option maxHeartbeats 4000000 in
theorem C_point (l : Launch) (D : va_G) (cA : ClassId) (tys : List (ClassId × FieldType)) (od ph st : Nat) (rs : Int32) (sc pt : Nat → Int64) (ws : va_W) (hCI : CI cA od ph st rs sc pt ws) (k : Int32) (v : Int64) : zCi l D ((cA, .long) :: tys) yX2_point wsX2_point ({ frames := 2, cells := 0, slots := 0, locals := 44 }) [.ref od, .int k, .long v] (ws) (fun r u => r = aTell ph k ∧ CI cA od ph st rs sc (sTell ph k pt v) u) := by
  obtain ⟨ol, hf, L, n, t, q, wd, wh, aU, aA, aB, aC, aD, aE, aAA, aBB, aDA, aCB, aSP, aLE, aRI, x2, z2, x3, z3, aSC, aPT, aRS, aAN, rfl, hLW, hDW, hDV⟩ := hCI
  obtain ⟨v_sc, v_pt, v_lad, v_rs, v_ph, v_st, v_2⟩ := id hDV
  refine z_met (fun A => va_Qi (fun r u => r = aTell ph k ∧ CI cA od ph st rs sc (sTell ph k pt v) u) (zB D ((cA, .long) :: tys) A) A) (by decide) rfl (Nat.le_of_ble_eq_true rfl) ?_
  intro p e s m below meth c hx hb hr hml hts hown hlocks hname A hA hP hK hD hS ls hl
  have hown : s.vm.findClass RX2 = some m.cls := hown
  have hl : lv_has ls 4 [(0, .ref od), (1, .int k), (2, .long v)] := hl
  obtain ⟨⟨m_wd, m_wh, m_aU, m_aA, m_aB, m_aC, m_aD, m_aE, m_aAA, m_aBB, m_aDA, m_aCB, m_aSP, m_aLE, m_aRI, m_x2, m_z2, m_x3, m_z3⟩, ⟨t_wd, t_wh, t_aU, t_aA, t_aB, t_aC, t_aD, t_aE, t_aAA, t_aBB, t_aDA, t_aCB, t_aSP, t_aLE, t_aRI, t_x2, t_z2, t_x3, t_z3⟩, ⟨d_0, d_1, d_2, d_3, d_4, d_5⟩⟩ := id hLW
  obtain ⟨⟨m_aSC, m_aPT, m_aRS, m_aAN⟩, ⟨t_aSC, t_aPT, t_aRS, t_aAN⟩⟩ := id hDW
  refine lv_aload_n hx hb dX2_point_0 rfl (lv_at hl 0 rfl) ?_
  refine lv_aload_n hx hb dX2_point_1 rfl (lv_at hl 0 rfl) ?_
  refine va_get (D := D) (ci := 2) (v := .ref aPT) (C := RX2) (T := TX2) (N := 8) hx hb hts (by decide +kernel) hown hK hP 0 rfl rfl 1 (by decide) (hts (.fieldLink RX2 13 "LadderDesk" "pointTold" "[J") (by decide +kernel)) (fun _ h9 => h9) rfl dX2_point_2 ?_
  refine lv_iload_n hx hb dX2_point_5 rfl (lv_at hl 1 rfl) ?_
  refine lv_lload_n hx hb dX2_point_6 rfl (lv_at hl 2 rfl) ?_
  refine z_calli (va_runV (As := [.ref aPT, .int k, .long v]) (rest := []) ⟨hx, hb, hml, hown, hts⟩ (c_tell l D cA tys (ol, .inr (1, [.ref hf, .ref aU, .ref x2, .ref z2, .ref x3, .ref z3, .ref aA, .ref aB, .ref aC, .ref aD, .ref aE, .ref aAA, .ref aBB, .ref aDA, .ref aCB, .ref aSP, .ref aLE, .ref aRI])) (hf, .inr (0, [.ref wd, .ref wh])) od aSC aPT aRS aAN ol ph st rs L n q aPT m_aPT k v v_ph _) (cwV 3 hts gX2_point_X2_tell rfl rfl rfl (by decide +kernel) ⟨Nat.le_of_ble_eq_true rfl, Nat.le_of_ble_eq_true rfl⟩) (z_preV _ hK hP hD (ci := 2) (q0 := 0) rfl rfl) rfl rfl hl.1 rfl (lv_room (Nat.le_of_ble_eq_true rfl)) dX2_point_7 ⟨Nat.le_of_ble_eq_true rfl, Nat.le_of_ble_eq_true rfl⟩) hD hS hA (fun r7 u H locs hu hP hD hS => ?_)
  rcases hu with ⟨rfl, j, hj, rfl, rfl, rfl⟩ | ⟨hn, rfl, rfl⟩
  · have e1 : sTell 0 (nI j) pt v = vp_updL pt j v := by unfold sTell; rw [if_pos ⟨rfl, isL_t hj⟩, nI_clamp (by omega)]
    have e2 : aTell 0 (nI j) = 1 := by unfold aTell; rw [if_pos ⟨rfl, isL_t hj⟩]
    exact z_iret hx hb hr hlocks dX2_point_10 hK hP hD hS ⟨e2.symm, by rw [e1]; exact ⟨ol, hf, L, n, t, _, wd, wh, aU, aA, aB, aC, aD, aE, aAA, aBB, aDA, aCB, aSP, aLE, aRI, x2, z2, x3, z3, aSC, aPT, aRS, aAN, rfl, hLW, hDW, DV_0 (fun k hk => by rw [va_up_ne _ _ (show aSC ≠ aPT from fun h => by have := congrArg t h; omega)]; exact v_sc k hk) (fun k hk => by rw [va_up_self]; unfold vp_updL; rw [v_pt k hk]) v_st⟩⟩
  · have hn2 : ¬ (ph = 0 ∧ isL k = true) := fun ⟨h1, h2⟩ => hn ⟨h1, by obtain ⟨h3, h4⟩ := of_decide_eq_true h2; exact in_of h3 h4 (by omega)⟩
    have e1 : sTell ph k pt v = pt := by unfold sTell; rw [if_neg hn2]
    have e2 : aTell ph k = 0 := by unfold aTell; rw [if_neg hn2]
    exact z_iret hx hb hr hlocks dX2_point_10 hK hP hD hS ⟨e2.symm, by rw [e1]; exact ⟨ol, hf, L, n, t, q, wd, wh, aU, aA, aB, aC, aD, aE, aAA, aBB, aDA, aCB, aSP, aLE, aRI, x2, z2, x3, z3, aSC, aPT, aRS, aAN, rfl, hLW, hDW, hDV⟩⟩
set_option maxRecDepth 100000 in
set_option maxHeartbeats 4000000 in
theorem C_start (l : Launch) (D : va_G) (cA : ClassId) (tys : List (ClassId × FieldType)) (od ph st : Nat) (rs : Int32) (sc pt : Nat → Int64) (ws : va_W) (hCI : CI cA od ph st rs sc pt ws)  : zCi l D ((cA, .long) :: tys) yX2_start wsX2_start ({ frames := 3, cells := 0, slots := 0, locals := 67 }) [.ref od] (ws) (fun r u => (ph = 0 ∧ r = 1 ∧ CI cA od 1 0 rs sc pt u) ∨ (ph ≠ 0 ∧ r = 0 ∧ CI cA od ph st rs sc pt u)) := by
  obtain ⟨ol, hf, L, n, t, q, wd, wh, aU, aA, aB, aC, aD, aE, aAA, aBB, aDA, aCB, aSP, aLE, aRI, x2, z2, x3, z3, aSC, aPT, aRS, aAN, rfl, hLW, hDW, hDV⟩ := hCI
  obtain ⟨v_sc, v_pt, v_lad, v_rs, v_ph, v_st, v_2⟩ := id hDV
  refine z_met (fun A => va_Qi (fun r u => (ph = 0 ∧ r = 1 ∧ CI cA od 1 0 rs sc pt u) ∨ (ph ≠ 0 ∧ r = 0 ∧ CI cA od ph st rs sc pt u)) (zB D ((cA, .long) :: tys) A) A) (by decide) rfl (Nat.le_of_ble_eq_true rfl) ?_
  intro p e s m below meth c hx hb hr hml hts hown hlocks hname A hA hP hK hD hS ls hl
  have hown : s.vm.findClass RX2 = some m.cls := hown
  have hl : lv_has ls 1 [(0, .ref od)] := hl
  obtain ⟨⟨m_wd, m_wh, m_aU, m_aA, m_aB, m_aC, m_aD, m_aE, m_aAA, m_aBB, m_aDA, m_aCB, m_aSP, m_aLE, m_aRI, m_x2, m_z2, m_x3, m_z3⟩, ⟨t_wd, t_wh, t_aU, t_aA, t_aB, t_aC, t_aD, t_aE, t_aAA, t_aBB, t_aDA, t_aCB, t_aSP, t_aLE, t_aRI, t_x2, t_z2, t_x3, t_z3⟩, ⟨d_0, d_1, d_2, d_3, d_4, d_5⟩⟩ := id hLW
  obtain ⟨⟨m_aSC, m_aPT, m_aRS, m_aAN⟩, ⟨t_aSC, t_aPT, t_aRS, t_aAN⟩⟩ := id hDW
  refine lv_aload_n hx hb dX2_start_0 rfl (lv_at hl 0 rfl) ?_
  refine va_get (D := D) (ci := 2) (v := .int (nI ph)) (C := RX2) (T := TX2) (N := 8) hx hb hts (by decide +kernel) hown hK hP 0 rfl rfl 5 (by decide) (hts (.fieldLink RX2 29 "LadderDesk" "phaseNow" "I") (by decide +kernel)) (fun _ h9 => h9) rfl dX2_start_1 ?_
  refine lv_if_eq (tgt := 9) hx hb dX2_start_4 (by decide) (fun c4 => ?_) (fun c4 => ?_)
  · have hc : ph = 0 := (nI_eq (by omega) (by omega)).mp c4
    subst hc
    refine lv_aload_n hx hb dX2_start_9 rfl (lv_at hl 0 rfl) ?_
    refine lv_aload_n hx hb dX2_start_10 rfl (lv_at hl 0 rfl) ?_
    refine va_get (D := D) (ci := 2) (v := .ref aAN) (C := RX2) (T := TX2) (N := 8) hx hb hts (by decide +kernel) hown hK hP 0 rfl rfl 3 (by decide) (hts (.fieldLink RX2 19 "LadderDesk" "answer" "[J") (by decide +kernel)) (fun _ h9 => h9) rfl dX2_start_11 ?_
    refine z_callv (va_runV (As := [.ref aAN]) (rest := []) ⟨hx, hb, hml, hown, hts⟩ (c_writeU l D cA tys (ol, .inr (1, [.ref hf, .ref aU, .ref x2, .ref z2, .ref x3, .ref z3, .ref aA, .ref aB, .ref aC, .ref aD, .ref aE, .ref aAA, .ref aBB, .ref aDA, .ref aCB, .ref aSP, .ref aLE, .ref aRI])) (hf, .inr (0, [.ref wd, .ref wh])) od aSC aPT aRS aAN ol 0 st rs L n q m_aPT aAN m_aAN _) (cwV 1 hts gX2_start_X2_writeU rfl rfl rfl (by decide +kernel) ⟨Nat.le_of_ble_eq_true rfl, Nat.le_of_ble_eq_true rfl⟩) (z_preV _ hK hP hD (ci := 2) (q0 := 0) rfl rfl) rfl rfl hl.1 rfl (lv_room (Nat.le_of_ble_eq_true rfl)) dX2_start_14 ⟨Nat.le_of_ble_eq_true rfl, Nat.le_of_ble_eq_true rfl⟩) hD hS hA (fun u H locs hu hP hD hS => ?_)
    obtain ⟨g1, hg1, rfl⟩ := hu
    rw [uo_congr v_pt] at hg1
    obtain ⟨q1, hq1⟩ : ∃ z, z = va_up q aAN g1 := ⟨_, rfl⟩
    rw [← hq1] at hP hD
    have k1 : ∀ b, b ≠ aAN → q1 b = q b := fun b h => by rw [hq1, va_up_ne _ _ h]
    have e1 : q1 aAN = g1 := by rw [hq1, va_up_self]
    refine lv_aload_n hx hb dX2_start_17 rfl (lv_at hl 0 rfl) ?_
    refine va_get (D := D) (ci := 2) (v := .ref ol) (C := RX2) (T := TX2) (N := 8) hx hb hts (by decide +kernel) hown hK hP 0 rfl rfl 4 (by decide) (hts (.fieldLink RX2 25 "LadderDesk" "ladder" "LLadderDesk$Ladder;") (by decide +kernel)) (fun _ h9 => h9) rfl dX2_start_18 ?_
    refine lv_aload_n hx hb dX2_start_21 rfl (lv_at hl 0 rfl) ?_
    refine va_get (D := D) (ci := 2) (v := .ref aAN) (C := RX2) (T := TX2) (N := 8) hx hb hts (by decide +kernel) hown hK hP 0 rfl rfl 3 (by decide) (hts (.fieldLink RX2 19 "LadderDesk" "answer" "[J") (by decide +kernel)) (fun _ h9 => h9) rfl dX2_start_22 ?_
    refine z_callv (va_runV (As := [.ref aAN]) (rest := []) ⟨hx, hb, hml, hown, hts⟩ (c_begin l D cA tys (od, .inr (2, [.ref aSC, .ref aPT, .ref aRS, .ref aAN, .ref ol, .int (nI 0), .int (nI st), .int rs])) ol hf L n t q1 wd wh aU aA aB aC aD aE aAA aBB aDA aCB aSP aLE aRI x2 z2 x3 z3 hLW aAN m_aAN (by rw [e1]; exact wv_lt255 (by rw [hg1]; exact Nat.lt_of_lt_of_le (uo_lt pt) (by decide))) _) (cwV 1 hts gX2_start_X1_begin rfl rfl rfl (by decide +kernel) ⟨Nat.le_of_ble_eq_true rfl, Nat.le_of_ble_eq_true rfl⟩) (z_preV _ hK hP hD (ci := 1) (q0 := 1) rfl rfl) rfl rfl hl.1 rfl (lv_room (Nat.le_of_ble_eq_true rfl)) dX2_start_25 ⟨Nat.le_of_ble_eq_true rfl, Nat.le_of_ble_eq_true rfl⟩) hD hS hA (fun u H locs hu hP hD hS => ?_)
    obtain ⟨q2, k2, w1, w2, w3, w4, w5, rfl⟩ := hu
    rw [e1, hg1] at w1 w4
    have s_sc : q2 aSC = q aSC := by rw [k2 aSC (by omega) (by omega), k1 aSC (show aSC ≠ aAN from fun h => by have := congrArg t h; omega)]
    have s_pt : q2 aPT = q aPT := by rw [k2 aPT (by omega) (by omega), k1 aPT (show aPT ≠ aAN from fun h => by have := congrArg t h; omega)]
    refine lv_aload_n hx hb dX2_start_28 rfl (lv_at hl 0 rfl) ?_
    refine lv_iconst (v := nI 0) hx hb dX2_start_29 (by decide) ?_
    refine va_put (D := D) (ci := 2) (v := .int (nI 0)) (ty := .int) (C := RX2) (T := TX2) (N := 8) hx hb hts (by decide +kernel) tyX2 tyX2_ok nmX2 hown hK hP hD hS 0 rfl rfl 6 (by decide) (hts (.fieldLink RX2 33 "LadderDesk" "stepsMade" "I") (by decide +kernel)) (fun _ h9 => h9) rfl (by decide +kernel) rfl rfl (Nat.le_of_ble_eq_true rfl) dX2_start_30 (fun H locs hP hD hS => ?_)
    refine lv_aload_n hx hb dX2_start_33 rfl (lv_at hl 0 rfl) ?_
    refine lv_iconst (v := nI 1) hx hb dX2_start_34 (by decide) ?_
    refine va_put (D := D) (ci := 2) (v := .int (nI 1)) (ty := .int) (C := RX2) (T := TX2) (N := 8) hx hb hts (by decide +kernel) tyX2 tyX2_ok nmX2 hown hK hP hD hS 0 rfl rfl 5 (by decide) (hts (.fieldLink RX2 29 "LadderDesk" "phaseNow" "I") (by decide +kernel)) (fun _ h9 => h9) rfl (by decide +kernel) rfl rfl (Nat.le_of_ble_eq_true rfl) dX2_start_35 (fun H locs hP hD hS => ?_)
    refine lv_iconst (v := nI 1) hx hb dX2_start_38 (by decide) ?_
    exact z_iret hx hb hr hlocks dX2_start_39 hK hP hD hS (Or.inl ⟨rfl, rfl, ⟨ol, hf, L, n, t, q2, wd, wh, aU, aA, aB, aC, aD, aE, aAA, aBB, aDA, aCB, aSP, aLE, aRI, x2, z2, x3, z3, aSC, aPT, aRS, aAN, rfl, hLW, hDW, ⟨by rw [s_sc]; exact v_sc, by rw [s_pt]; exact v_pt, fun _ => ⟨w1, w2, w3, w4, w5⟩, fun h => by omega, by omega, by omega, fun h => by omega⟩⟩⟩)
  · have hc : ph ≠ 0 := fun e => c4 (by rw [e]; rfl)
    refine lv_iconst (v := nI 0) hx hb dX2_start_7 (by decide) ?_
    exact z_iret hx hb hr hlocks dX2_start_8 hK hP hD hS (Or.inr ⟨hc, rfl, ⟨ol, hf, L, n, t, q, wd, wh, aU, aA, aB, aC, aD, aE, aAA, aBB, aDA, aCB, aSP, aLE, aRI, x2, z2, x3, z3, aSC, aPT, aRS, aAN, rfl, hLW, hDW, hDV⟩⟩)
set_option maxRecDepth 100000 in
set_option maxHeartbeats 4000000 in
theorem C_step (l : Launch) (D : va_G) (cA : ClassId) (tys : List (ClassId × FieldType)) (od ph st : Nat) (rs : Int32) (sc pt : Nat → Int64) (ws : va_W) (hCI : CI cA od ph st rs sc pt ws) (k : Int32) : zCi l D ((cA, .long) :: tys) yX2_step wsX2_step ({ frames := 5, cells := 0, slots := 0, locals := 115 }) [.ref od, .int k] (ws) (fun r u => r = aStep ph st k ∧ CI cA od ph (sStep ph st k) rs sc pt u) := by
  obtain ⟨ol, hf, L, n, t, q, wd, wh, aU, aA, aB, aC, aD, aE, aAA, aBB, aDA, aCB, aSP, aLE, aRI, x2, z2, x3, z3, aSC, aPT, aRS, aAN, rfl, hLW, hDW, hDV⟩ := hCI
  obtain ⟨v_sc, v_pt, v_lad, v_rs, v_ph, v_st, v_2⟩ := id hDV
  refine z_met (fun A => va_Qi (fun r u => r = aStep ph st k ∧ CI cA od ph (sStep ph st k) rs sc pt u) (zB D ((cA, .long) :: tys) A) A) (by decide) rfl (Nat.le_of_ble_eq_true rfl) ?_
  intro p e s m below meth c hx hb hr hml hts hown hlocks hname A hA hP hK hD hS ls hl
  have hown : s.vm.findClass RX2 = some m.cls := hown
  have hl : lv_has ls 4 [(0, .ref od), (1, .int k)] := hl
  obtain ⟨⟨m_wd, m_wh, m_aU, m_aA, m_aB, m_aC, m_aD, m_aE, m_aAA, m_aBB, m_aDA, m_aCB, m_aSP, m_aLE, m_aRI, m_x2, m_z2, m_x3, m_z3⟩, ⟨t_wd, t_wh, t_aU, t_aA, t_aB, t_aC, t_aD, t_aE, t_aAA, t_aBB, t_aDA, t_aCB, t_aSP, t_aLE, t_aRI, t_x2, t_z2, t_x3, t_z3⟩, ⟨d_0, d_1, d_2, d_3, d_4, d_5⟩⟩ := id hLW
  obtain ⟨⟨m_aSC, m_aPT, m_aRS, m_aAN⟩, ⟨t_aSC, t_aPT, t_aRS, t_aAN⟩⟩ := id hDW
  refine lv_aload_n hx hb dX2_step_0 rfl (lv_at hl 0 rfl) ?_
  refine va_get (D := D) (ci := 2) (v := .int (nI ph)) (C := RX2) (T := TX2) (N := 8) hx hb hts (by decide +kernel) hown hK hP 0 rfl rfl 5 (by decide) (hts (.fieldLink RX2 29 "LadderDesk" "phaseNow" "I") (by decide +kernel)) (fun _ h9 => h9) rfl dX2_step_1 ?_
  refine lv_iconst (v := nI 1) hx hb dX2_step_4 (by decide) ?_
  refine lv_icmp_ne (tgt := 13) hx hb dX2_step_5 (by decide) (fun c5 => ?_) (fun c5 => ?_)
  · have hc : ¬ ph = 1 := fun e => c5 (by rw [e])
    refine lv_iconst (v := (-1)) hx hb dX2_step_13 (by decide) ?_
    have hn : ¬ (ph = 1 ∧ 1 ≤ k.toInt) := fun h => hc h.1
    exact z_iret hx hb hr hlocks dX2_step_14 hK hP hD hS (⟨by unfold aStep; rw [if_neg hn], by unfold sStep; rw [if_neg hn]; exact ⟨ol, hf, L, n, t, q, wd, wh, aU, aA, aB, aC, aD, aE, aAA, aBB, aDA, aCB, aSP, aLE, aRI, x2, z2, x3, z3, aSC, aPT, aRS, aAN, rfl, hLW, hDW, hDV⟩⟩)
  · have hc : ph = 1 := (nI_eq (by omega) (by omega)).mp c5
    subst hc
    refine lv_iload_n hx hb dX2_step_8 rfl (lv_at hl 1 rfl) ?_
    refine lv_iconst (v := nI 1) hx hb dX2_step_9 (by decide) ?_
    refine lv_icmp_ge (tgt := 15) hx hb dX2_step_10 (by decide) (fun c10 => ?_) (fun c10 => ?_)
    · have hk : 1 ≤ k.toInt := by
        have := Int32.le_iff_toInt_le.mp c10
        rwa [nI_toInt (by omega)] at this
      obtain ⟨kn, hkn, rfl⟩ := nI_of (x := k) (fun h => by have := Int32.lt_iff_toInt_lt.mp h; rw [show (0 : Int32).toInt = 0 from by decide] at this; omega)
      rw [nI_toInt hkn] at hk
      refine lv_iload_n hx hb dX2_step_15 rfl (lv_at hl 1 rfl) ?_
      refine lv_sipush (v := nI 255) hx hb dX2_step_16 (by decide) ?_
      refine lv_aload_n hx hb dX2_step_19 rfl (lv_at hl 0 rfl) ?_
      refine va_get (D := D) (ci := 2) (v := .int (nI st)) (C := RX2) (T := TX2) (N := 8) hx hb hts (by decide +kernel) hown hK hP 0 rfl rfl 6 (by decide) (hts (.fieldLink RX2 33 "LadderDesk" "stepsMade" "I") (by decide +kernel)) (fun _ h9 => h9) rfl dX2_step_20 ?_
      refine lv_isub hx hb dX2_step_23 ?_
      refine zi (y := nI (255 - st)) (pk_sub (by omega)) ?_
      refine va_mmin hx hb (hml.trans hl.1.symm) hown (hts (.methodLink RX2 50 Lib.Math.min.name) (by decide +kernel)) (hts (.static Lib.Math.min.name) (by decide +kernel)) (hts (.initialized "java/lang/Math") (by decide +kernel)) (hts (.code Lib.Math.min.name Lib.Math.min.code 2 (some .int)) (by decide +kernel)) (Nat.le_of_ble_eq_true rfl) (Nat.le_of_ble_eq_true rfl) (Nat.zero_le _) (Nat.zero_le _) dX2_step_24 ?_
      obtain ⟨mo, hmo⟩ : ∃ z, z = min kn (255 - st) := ⟨_, rfl⟩
      refine zi (y := nI mo) (by
        by_cases h : 255 - st < kn
        · rw [if_pos ((nI_ltI (by omega) hkn).mpr h), hmo, Nat.min_eq_right (by omega)]
        · rw [if_neg (fun h2 => h ((nI_ltI (by omega) hkn).mp h2)), hmo, Nat.min_eq_left (by omega)]) ?_
      refine lv_istore_n (lv' := [(2, .int (nI mo)), (0, .ref od), (1, .int (nI kn))]) hx hb dX2_step_27 rfl hl (by decide) rfl (fun ls hl => ?_)
      refine lv_iconst (v := nI 0) hx hb dX2_step_28 (by decide) ?_
      refine lv_istore_n (lv' := [(3, .int (nI 0)), (2, .int (nI mo)), (0, .ref od), (1, .int (nI kn))]) hx hb dX2_step_29 rfl hl (by decide) rfl (fun ls hl => ?_)
      refine z_loop (fun i H locs ls => ∃ q' : Nat → Nat → Int64, DV 1 (st + i) sc pt q' aU x2 z2 x3 z3 aSC aPT aRS ∧ zH D A s.heap ([(od, .inr (2, [.ref aSC, .ref aPT, .ref aRS, .ref aAN, .ref ol, .int (nI 1), .int (nI (st + i)), .int rs])), (ol, .inr (1, [.ref hf, .ref aU, .ref x2, .ref z2, .ref x3, .ref z3, .ref aA, .ref aB, .ref aC, .ref aD, .ref aE, .ref aAA, .ref aBB, .ref aDA, .ref aCB, .ref aSP, .ref aLE, .ref aRI])), (hf, .inr (0, [.ref wd, .ref wh]))] ++ PL cA L n q') H locs ∧ lv_has ls 4 [(3, .int (nI i)), (2, .int (nI mo)), (0, .ref od), (1, .int (nI kn))]) mo ?_ ?_ ?_
      · exact ⟨q, hDV, ⟨hP, hD, hS⟩, hl⟩
      · rintro i H locs ls hi ⟨q1, hI, ⟨hP, hD, hS⟩, hl⟩ ih
        obtain ⟨i_sc, i_pt, i_lad, -, -, i_st, -⟩ := id hI
        obtain ⟨hU, hX2, hZ2, hX3, hZ3⟩ := i_lad (by decide)
        refine lv_iload_n hx hb dX2_step_30 rfl (lv_at hl 0 rfl) ?_
        refine lv_iload_n hx hb dX2_step_31 rfl (lv_at hl 1 rfl) ?_
        refine lv_icmp_ge (tgt := 70) hx hb dX2_step_32 (by decide) (fun c32 => absurd ((nI_leI (by omega) (by omega)).mp c32) (by omega)) (fun c32 => ?_)
        refine lv_aload_n hx hb dX2_step_35 rfl (lv_at hl 2 rfl) ?_
        refine va_get (D := D) (ci := 2) (v := .ref ol) (C := RX2) (T := TX2) (N := 8) hx hb hts (by decide +kernel) hown hK hP 0 rfl rfl 4 (by decide) (hts (.fieldLink RX2 25 "LadderDesk" "ladder" "LLadderDesk$Ladder;") (by decide +kernel)) (fun _ h9 => h9) rfl dX2_step_36 ?_
        refine lv_aload_n hx hb dX2_step_39 rfl (lv_at hl 2 rfl) ?_
        refine lv_sipush (v := nI 254) hx hb dX2_step_40 (by decide) ?_
        refine lv_aload_n hx hb dX2_step_43 rfl (lv_at hl 2 rfl) ?_
        refine va_get (D := D) (ci := 2) (v := .int (nI (st + i))) (C := RX2) (T := TX2) (N := 8) hx hb hts (by decide +kernel) hown hK hP 0 rfl rfl 6 (by decide) (hts (.fieldLink RX2 33 "LadderDesk" "stepsMade" "I") (by decide +kernel)) (fun _ h9 => h9) rfl dX2_step_44 ?_
        refine lv_isub hx hb dX2_step_47 ?_
        refine zi (y := nI (254 - (st + i))) (pk_sub (by omega)) ?_
        refine z_calli (va_runV (As := [.int (nI (254 - (st + i)))]) (rest := [.ref ol]) ⟨hx, hb, hml, hown, hts⟩ (c_clampedBit l D cA tys (ol, .inr (1, [.ref hf, .ref aU, .ref x2, .ref z2, .ref x3, .ref z3, .ref aA, .ref aB, .ref aC, .ref aD, .ref aE, .ref aAA, .ref aBB, .ref aDA, .ref aCB, .ref aSP, .ref aLE, .ref aRI])) (hf, .inr (0, [.ref wd, .ref wh])) od aSC aPT aRS aAN ol 1 (st + i) rs L n q1 m_aSC (254 - (st + i)) (by omega) _) (cwV 1 hts gX2_step_X2_clampedBit rfl rfl rfl (by decide +kernel) ⟨Nat.le_of_ble_eq_true rfl, Nat.le_of_ble_eq_true rfl⟩) (z_preV _ hK hP hD (ci := 2) (q0 := 0) rfl rfl) rfl rfl hl.1 rfl (lv_room (Nat.le_of_ble_eq_true rfl)) dX2_step_48 ⟨Nat.le_of_ble_eq_true rfl, Nat.le_of_ble_eq_true rfl⟩) hD hS hA (fun r48 u H locs hu hP hD hS => ?_)
        obtain ⟨hbt, rfl⟩ := hu
        rw [pb_congr i_sc (by omega)] at hbt
        refine z_callv (va_runV (As := [.int r48]) (rest := []) ⟨hx, hb, hml, hown, hts⟩ (c_walk l D cA tys (od, .inr (2, [.ref aSC, .ref aPT, .ref aRS, .ref aAN, .ref ol, .int (nI 1), .int (nI (st + i)), .int rs])) ol hf L n t q1 wd wh aU aA aB aC aD aE aAA aBB aDA aCB aSP aLE aRI x2 z2 x3 z3 hLW r48 (pb sc (254 - (st + i))) hbt _ hU _ _ _ _ hX2 hZ2 hX3 hZ3 _) (cwV 1 hts gX2_step_X1_walk rfl rfl rfl (by decide +kernel) ⟨Nat.le_of_ble_eq_true rfl, Nat.le_of_ble_eq_true rfl⟩) (z_preV _ hK hP hD (ci := 1) (q0 := 1) rfl rfl) rfl rfl hl.1 rfl (lv_room (Nat.le_of_ble_eq_true rfl)) dX2_step_51 ⟨Nat.le_of_ble_eq_true rfl, Nat.le_of_ble_eq_true rfl⟩) hD hS hA (fun u H locs hu hP hD hS => ?_)
        obtain ⟨q2, k2, w2, w3, w4, w5, rfl⟩ := hu
        refine lv_aload_n hx hb dX2_step_54 rfl (lv_at hl 2 rfl) ?_
        refine lv_dup hx hb dX2_step_55 rfl ?_
        refine va_get (D := D) (ci := 2) (v := .int (nI (st + i))) (C := RX2) (T := TX2) (N := 8) hx hb hts (by decide +kernel) hown hK hP 0 rfl rfl 6 (by decide) (hts (.fieldLink RX2 33 "LadderDesk" "stepsMade" "I") (by decide +kernel)) (fun _ h9 => h9) rfl dX2_step_56 ?_
        refine lv_iconst (v := nI 1) hx hb dX2_step_59 (by decide) ?_
        refine lv_iadd hx hb dX2_step_60 ?_
        refine zi (y := nI (st + (i + 1))) (nI_add (st + i) 1) ?_
        refine va_put (D := D) (ci := 2) (v := .int (nI (st + (i + 1)))) (ty := .int) (C := RX2) (T := TX2) (N := 8) hx hb hts (by decide +kernel) tyX2 tyX2_ok nmX2 hown hK hP hD hS 0 rfl rfl 6 (by decide) (hts (.fieldLink RX2 33 "LadderDesk" "stepsMade" "I") (by decide +kernel)) (fun _ h9 => h9) rfl (by decide +kernel) rfl rfl (Nat.le_of_ble_eq_true rfl) dX2_step_61 (fun H locs hP hD hS => ?_)
        refine lv_iinc (v := nI (i + 1)) (lv' := [(3, .int (nI (i + 1))), (2, .int (nI mo)), (0, .ref od), (1, .int (nI kn))]) hx hb dX2_step_64 hl (k := 0) rfl (by show nI _ + nI 1 = _; exact nI_add _ _) (by decide) rfl (fun ls hl => ?_)
        refine lv_goto (tgt := 30) hx hb dX2_step_67 (by decide) ?_
        exact ih _ _ _ ⟨q2, ⟨by rw [k2 aSC (by omega)]; exact i_sc, by rw [k2 aPT (by omega)]; exact i_pt, fun _ => ⟨by rw [k2 aU (by omega)]; exact hU, holds_mod w2, holds_mod w3, holds_mod w4, holds_mod w5⟩, fun h => by omega, by omega, by omega, fun h => by omega⟩, ⟨hP, hD, hS⟩, hl⟩
      · rintro H locs ls ⟨q1, hI, ⟨hP, hD, hS⟩, hl⟩
        refine lv_iload_n hx hb dX2_step_30 rfl (lv_at hl 0 rfl) ?_
        refine lv_iload_n hx hb dX2_step_31 rfl (lv_at hl 1 rfl) ?_
        refine lv_icmp_ge (tgt := 70) hx hb dX2_step_32 (by decide) (fun c32 => ?_) (fun c32 => absurd (Int32.le_refl _) c32)
        refine lv_sipush (v := nI 255) hx hb dX2_step_70 (by decide) ?_
        refine lv_aload_n hx hb dX2_step_73 rfl (lv_at hl 2 rfl) ?_
        refine va_get (D := D) (ci := 2) (v := .int (nI (st + mo))) (C := RX2) (T := TX2) (N := 8) hx hb hts (by decide +kernel) hown hK hP 0 rfl rfl 6 (by decide) (hts (.fieldLink RX2 33 "LadderDesk" "stepsMade" "I") (by decide +kernel)) (fun _ h9 => h9) rfl dX2_step_74 ?_
        refine lv_isub hx hb dX2_step_77 ?_
        refine zi (y := nI (255 - (st + mo))) (pk_sub (by omega)) ?_
        have e1 : sStep 1 st (nI kn) = st + mo := by unfold sStep; rw [nI_toInt hkn, if_pos ⟨rfl, hk⟩]; omega
        exact z_iret hx hb hr hlocks dX2_step_78 hK hP hD hS (⟨by unfold aStep; rw [e1, if_pos ⟨rfl, by rw [nI_toInt hkn]; exact hk⟩], by rw [e1]; exact ⟨ol, hf, L, n, t, q1, wd, wh, aU, aA, aB, aC, aD, aE, aAA, aBB, aDA, aCB, aSP, aLE, aRI, x2, z2, x3, z3, aSC, aPT, aRS, aAN, rfl, hLW, hDW, hI⟩⟩)
    · have hk : ¬ 1 ≤ k.toInt := fun h => c10 (Int32.le_iff_toInt_le.mpr (by rw [nI_toInt (by omega)]; exact h))
      refine lv_iconst (v := (-1)) hx hb dX2_step_13 (by decide) ?_
      have hn : ¬ (1 = 1 ∧ 1 ≤ k.toInt) := fun h => hk h.2
      exact z_iret hx hb hr hlocks dX2_step_14 hK hP hD hS (⟨by unfold aStep; rw [if_neg hn], by unfold sStep; rw [if_neg hn]; exact ⟨ol, hf, L, n, t, q, wd, wh, aU, aA, aB, aC, aD, aE, aAA, aBB, aDA, aCB, aSP, aLE, aRI, x2, z2, x3, z3, aSC, aPT, aRS, aAN, rfl, hLW, hDW, hDV⟩⟩)
set_option maxRecDepth 100000 in
set_option maxHeartbeats 4000000 in
theorem C_finish (l : Launch) (D : va_G) (cA : ClassId) (tys : List (ClassId × FieldType)) (od ph st : Nat) (rs : Int32) (sc pt : Nat → Int64) (ws : va_W) (hCI : CI cA od ph st rs sc pt ws)  : zCi l D ((cA, .long) :: tys) yX2_finish wsX2_finish ({ frames := 5, cells := 0, slots := 0, locals := 118 }) [.ref od] (ws) (fun r u => (ph = 1 ∧ st = 255 ∧ r = 1 ∧ CI cA od 2 st (rs + 1) sc pt u) ∨ (¬ (ph = 1 ∧ st = 255) ∧ r = 0 ∧ CI cA od ph st rs sc pt u)) := by
  obtain ⟨ol, hf, L, n, t, q, wd, wh, aU, aA, aB, aC, aD, aE, aAA, aBB, aDA, aCB, aSP, aLE, aRI, x2, z2, x3, z3, aSC, aPT, aRS, aAN, rfl, hLW, hDW, hDV⟩ := hCI
  obtain ⟨v_sc, v_pt, v_lad, v_rs, v_ph, v_st, v_2⟩ := id hDV
  refine z_met (fun A => va_Qi (fun r u => (ph = 1 ∧ st = 255 ∧ r = 1 ∧ CI cA od 2 st (rs + 1) sc pt u) ∨ (¬ (ph = 1 ∧ st = 255) ∧ r = 0 ∧ CI cA od ph st rs sc pt u)) (zB D ((cA, .long) :: tys) A) A) (by decide) rfl (Nat.le_of_ble_eq_true rfl) ?_
  intro p e s m below meth c hx hb hr hml hts hown hlocks hname A hA hP hK hD hS ls hl
  have hown : s.vm.findClass RX2 = some m.cls := hown
  have hl : lv_has ls 1 [(0, .ref od)] := hl
  obtain ⟨⟨m_wd, m_wh, m_aU, m_aA, m_aB, m_aC, m_aD, m_aE, m_aAA, m_aBB, m_aDA, m_aCB, m_aSP, m_aLE, m_aRI, m_x2, m_z2, m_x3, m_z3⟩, ⟨t_wd, t_wh, t_aU, t_aA, t_aB, t_aC, t_aD, t_aE, t_aAA, t_aBB, t_aDA, t_aCB, t_aSP, t_aLE, t_aRI, t_x2, t_z2, t_x3, t_z3⟩, ⟨d_0, d_1, d_2, d_3, d_4, d_5⟩⟩ := id hLW
  obtain ⟨⟨m_aSC, m_aPT, m_aRS, m_aAN⟩, ⟨t_aSC, t_aPT, t_aRS, t_aAN⟩⟩ := id hDW
  refine lv_aload_n hx hb dX2_finish_0 rfl (lv_at hl 0 rfl) ?_
  refine va_get (D := D) (ci := 2) (v := .int (nI ph)) (C := RX2) (T := TX2) (N := 8) hx hb hts (by decide +kernel) hown hK hP 0 rfl rfl 5 (by decide) (hts (.fieldLink RX2 29 "LadderDesk" "phaseNow" "I") (by decide +kernel)) (fun _ h9 => h9) rfl dX2_finish_1 ?_
  refine lv_iconst (v := nI 1) hx hb dX2_finish_4 (by decide) ?_
  refine lv_icmp_ne (tgt := 18) hx hb dX2_finish_5 (by decide) (fun c5 => ?_) (fun c5 => ?_)
  · have hc : ¬ ph = 1 := fun e => c5 (by rw [e])
    refine lv_iconst (v := nI 0) hx hb dX2_finish_18 (by decide) ?_
    exact z_iret hx hb hr hlocks dX2_finish_19 hK hP hD hS (Or.inr ⟨fun h => hc h.1, rfl, ⟨ol, hf, L, n, t, q, wd, wh, aU, aA, aB, aC, aD, aE, aAA, aBB, aDA, aCB, aSP, aLE, aRI, x2, z2, x3, z3, aSC, aPT, aRS, aAN, rfl, hLW, hDW, hDV⟩⟩)
  · have hc : ph = 1 := (nI_eq (by omega) (by omega)).mp c5
    subst hc
    refine lv_aload_n hx hb dX2_finish_8 rfl (lv_at hl 0 rfl) ?_
    refine va_get (D := D) (ci := 2) (v := .int (nI st)) (C := RX2) (T := TX2) (N := 8) hx hb hts (by decide +kernel) hown hK hP 0 rfl rfl 6 (by decide) (hts (.fieldLink RX2 33 "LadderDesk" "stepsMade" "I") (by decide +kernel)) (fun _ h9 => h9) rfl dX2_finish_9 ?_
    refine lv_sipush (v := nI 255) hx hb dX2_finish_12 (by decide) ?_
    refine lv_icmp_eq (tgt := 20) hx hb dX2_finish_15 (by decide) (fun c15 => ?_) (fun c15 => ?_)
    · have hc2 : st = 255 := (nI_eq (by omega) (by omega)).mp c15
      subst hc2
      obtain ⟨hU, hX2, hZ2, hX3, hZ3⟩ := v_lad (by decide)
      refine lv_aload_n hx hb dX2_finish_20 rfl (lv_at hl 0 rfl) ?_
      refine va_get (D := D) (ci := 2) (v := .ref ol) (C := RX2) (T := TX2) (N := 8) hx hb hts (by decide +kernel) hown hK hP 0 rfl rfl 4 (by decide) (hts (.fieldLink RX2 25 "LadderDesk" "ladder" "LLadderDesk$Ladder;") (by decide +kernel)) (fun _ h9 => h9) rfl dX2_finish_21 ?_
      refine lv_aload_n hx hb dX2_finish_24 rfl (lv_at hl 0 rfl) ?_
      refine va_get (D := D) (ci := 2) (v := .ref aRS) (C := RX2) (T := TX2) (N := 8) hx hb hts (by decide +kernel) hown hK hP 0 rfl rfl 2 (by decide) (hts (.fieldLink RX2 16 "LadderDesk" "result" "[J") (by decide +kernel)) (fun _ h9 => h9) rfl dX2_finish_25 ?_
      refine z_callv (va_runV (As := [.ref aRS]) (rest := []) ⟨hx, hb, hml, hown, hts⟩ (c_writeResult l D cA tys (od, .inr (2, [.ref aSC, .ref aPT, .ref aRS, .ref aAN, .ref ol, .int (nI 1), .int (nI 255), .int rs])) ol hf L n t q wd wh aU aA aB aC aD aE aAA aBB aDA aCB aSP aLE aRI x2 z2 x3 z3 hLW aRS m_aRS _ _ hX2 hZ2 _) (cwV 1 hts gX2_finish_X1_writeResult rfl rfl rfl (by decide +kernel) ⟨Nat.le_of_ble_eq_true rfl, Nat.le_of_ble_eq_true rfl⟩) (z_preV _ hK hP hD (ci := 1) (q0 := 1) rfl rfl) rfl rfl hl.1 rfl (lv_room (Nat.le_of_ble_eq_true rfl)) dX2_finish_28 ⟨Nat.le_of_ble_eq_true rfl, Nat.le_of_ble_eq_true rfl⟩) hD hS hA (fun u H locs hu hP hD hS => ?_)
      obtain ⟨q1, k1, v1, rfl⟩ := hu
      rw [← res_int] at v1
      have hq1 : DV 2 255 sc pt q1 aU x2 z2 x3 z3 aSC aPT aRS := ⟨by rw [k1 aSC (by omega) (show aSC ≠ aRS from fun h => by have := congrArg t h; omega)]; exact v_sc, by rw [k1 aPT (by omega) (show aPT ≠ aRS from fun h => by have := congrArg t h; omega)]; exact v_pt, fun _ => ⟨by rw [k1 aU (by omega) (show aU ≠ aRS from fun h => by have := congrArg t h; omega)]; exact hU, by rw [k1 x2 (by omega) (show x2 ≠ aRS from fun e => by have h9 := m_x2.2; rw [e, m_aRS.2] at h9; omega)]; exact hX2, by rw [k1 z2 (by omega) (show z2 ≠ aRS from fun e => by have h9 := m_z2.2; rw [e, m_aRS.2] at h9; omega)]; exact hZ2, by rw [k1 x3 (by omega) (show x3 ≠ aRS from fun e => by have h9 := m_x3.2; rw [e, m_aRS.2] at h9; omega)]; exact hX3, by rw [k1 z3 (by omega) (show z3 ≠ aRS from fun e => by have h9 := m_z3.2; rw [e, m_aRS.2] at h9; omega)]; exact hZ3⟩, fun _ => by omega, by omega, by omega, fun _ => rfl⟩
      refine lv_aload_n hx hb dX2_finish_31 rfl (lv_at hl 0 rfl) ?_
      refine lv_dup hx hb dX2_finish_32 rfl ?_
      refine va_get (D := D) (ci := 2) (v := .int rs) (C := RX2) (T := TX2) (N := 8) hx hb hts (by decide +kernel) hown hK hP 0 rfl rfl 7 (by decide) (hts (.fieldLink RX2 36 "LadderDesk" "resultsHad" "I") (by decide +kernel)) (fun _ h9 => h9) rfl dX2_finish_33 ?_
      refine lv_iconst (v := nI 1) hx hb dX2_finish_36 (by decide) ?_
      refine lv_iadd hx hb dX2_finish_37 ?_
      refine zi (y := rs + 1) rfl ?_
      refine va_put (D := D) (ci := 2) (v := .int (rs + 1)) (ty := .int) (C := RX2) (T := TX2) (N := 8) hx hb hts (by decide +kernel) tyX2 tyX2_ok nmX2 hown hK hP hD hS 0 rfl rfl 7 (by decide) (hts (.fieldLink RX2 36 "LadderDesk" "resultsHad" "I") (by decide +kernel)) (fun _ h9 => h9) rfl (by decide +kernel) rfl rfl (Nat.le_of_ble_eq_true rfl) dX2_finish_38 (fun H locs hP hD hS => ?_)
      refine lv_aload_n hx hb dX2_finish_41 rfl (lv_at hl 0 rfl) ?_
      refine lv_iconst (v := nI 2) hx hb dX2_finish_42 (by decide) ?_
      refine va_put (D := D) (ci := 2) (v := .int (nI 2)) (ty := .int) (C := RX2) (T := TX2) (N := 8) hx hb hts (by decide +kernel) tyX2 tyX2_ok nmX2 hown hK hP hD hS 0 rfl rfl 5 (by decide) (hts (.fieldLink RX2 29 "LadderDesk" "phaseNow" "I") (by decide +kernel)) (fun _ h9 => h9) rfl (by decide +kernel) rfl rfl (Nat.le_of_ble_eq_true rfl) dX2_finish_43 (fun H locs hP hD hS => ?_)
      refine lv_iconst (v := nI 1) hx hb dX2_finish_46 (by decide) ?_
      exact z_iret hx hb hr hlocks dX2_finish_47 hK hP hD hS (Or.inl ⟨rfl, rfl, rfl, ⟨ol, hf, L, n, t, q1, wd, wh, aU, aA, aB, aC, aD, aE, aAA, aBB, aDA, aCB, aSP, aLE, aRI, x2, z2, x3, z3, aSC, aPT, aRS, aAN, rfl, hLW, hDW, hq1⟩⟩)
    · have hc2 : ¬ st = 255 := fun e => c15 (by rw [e])
      refine lv_iconst (v := nI 0) hx hb dX2_finish_18 (by decide) ?_
      exact z_iret hx hb hr hlocks dX2_finish_19 hK hP hD hS (Or.inr ⟨fun h => hc2 h.2, rfl, ⟨ol, hf, L, n, t, q, wd, wh, aU, aA, aB, aC, aD, aE, aAA, aBB, aDA, aCB, aSP, aLE, aRI, x2, z2, x3, z3, aSC, aPT, aRS, aAN, rfl, hLW, hDW, hDV⟩⟩)
set_option maxRecDepth 100000 in
set_option maxHeartbeats 4000000 in
theorem C_again (l : Launch) (D : va_G) (cA : ClassId) (tys : List (ClassId × FieldType)) (od ph st : Nat) (rs : Int32) (sc pt : Nat → Int64) (ws : va_W) (hCI : CI cA od ph st rs sc pt ws)  : zCi l D ((cA, .long) :: tys) yX2_again wsX2_again ({ frames := 1, cells := 0, slots := 0, locals := 19 }) [.ref od] (ws) (fun r u => (ph = 2 ∧ r = 1 ∧ CI cA od 0 st rs sc (ow (res sc pt)) u) ∨ (ph ≠ 2 ∧ r = 0 ∧ CI cA od ph st rs sc pt u)) := by
  obtain ⟨ol, hf, L, n, t, q, wd, wh, aU, aA, aB, aC, aD, aE, aAA, aBB, aDA, aCB, aSP, aLE, aRI, x2, z2, x3, z3, aSC, aPT, aRS, aAN, rfl, hLW, hDW, hDV⟩ := hCI
  obtain ⟨v_sc, v_pt, v_lad, v_rs, v_ph, v_st, v_2⟩ := id hDV
  refine z_met (fun A => va_Qi (fun r u => (ph = 2 ∧ r = 1 ∧ CI cA od 0 st rs sc (ow (res sc pt)) u) ∨ (ph ≠ 2 ∧ r = 0 ∧ CI cA od ph st rs sc pt u)) (zB D ((cA, .long) :: tys) A) A) (by decide) rfl (Nat.le_of_ble_eq_true rfl) ?_
  intro p e s m below meth c hx hb hr hml hts hown hlocks hname A hA hP hK hD hS ls hl
  have hown : s.vm.findClass RX2 = some m.cls := hown
  have hl : lv_has ls 1 [(0, .ref od)] := hl
  obtain ⟨⟨m_wd, m_wh, m_aU, m_aA, m_aB, m_aC, m_aD, m_aE, m_aAA, m_aBB, m_aDA, m_aCB, m_aSP, m_aLE, m_aRI, m_x2, m_z2, m_x3, m_z3⟩, ⟨t_wd, t_wh, t_aU, t_aA, t_aB, t_aC, t_aD, t_aE, t_aAA, t_aBB, t_aDA, t_aCB, t_aSP, t_aLE, t_aRI, t_x2, t_z2, t_x3, t_z3⟩, ⟨d_0, d_1, d_2, d_3, d_4, d_5⟩⟩ := id hLW
  obtain ⟨⟨m_aSC, m_aPT, m_aRS, m_aAN⟩, ⟨t_aSC, t_aPT, t_aRS, t_aAN⟩⟩ := id hDW
  refine lv_aload_n hx hb dX2_again_0 rfl (lv_at hl 0 rfl) ?_
  refine va_get (D := D) (ci := 2) (v := .int (nI ph)) (C := RX2) (T := TX2) (N := 8) hx hb hts (by decide +kernel) hown hK hP 0 rfl rfl 5 (by decide) (hts (.fieldLink RX2 29 "LadderDesk" "phaseNow" "I") (by decide +kernel)) (fun _ h9 => h9) rfl dX2_again_1 ?_
  refine lv_iconst (v := nI 2) hx hb dX2_again_4 (by decide) ?_
  refine lv_icmp_eq (tgt := 10) hx hb dX2_again_5 (by decide) (fun c5 => ?_) (fun c5 => ?_)
  · have hc : ph = 2 := (nI_eq (by omega) (by omega)).mp c5
    subst hc
    refine lv_aload_n hx hb dX2_again_10 rfl (lv_at hl 0 rfl) ?_
    refine va_get (D := D) (ci := 2) (v := .ref aRS) (C := RX2) (T := TX2) (N := 8) hx hb hts (by decide +kernel) hown hK hP 0 rfl rfl 2 (by decide) (hts (.fieldLink RX2 16 "LadderDesk" "result" "[J") (by decide +kernel)) (fun _ h9 => h9) rfl dX2_again_11 ?_
    refine lv_iconst (v := nI 0) hx hb dX2_again_14 (by decide) ?_
    refine lv_aload_n hx hb dX2_again_15 rfl (lv_at hl 0 rfl) ?_
    refine va_get (D := D) (ci := 2) (v := .ref aPT) (C := RX2) (T := TX2) (N := 8) hx hb hts (by decide +kernel) hown hK hP 0 rfl rfl 1 (by decide) (hts (.fieldLink RX2 13 "LadderDesk" "pointTold" "[J") (by decide +kernel)) (fun _ h9 => h9) rfl dX2_again_16 ?_
    refine lv_iconst (v := nI 0) hx hb dX2_again_19 (by decide) ?_
    refine lv_iconst (v := nI 4) hx hb dX2_again_20 (by decide) ?_
    refine z_cp hx hb (hml.trans hl.1.symm) hown (hts (.methodLink RX2 67 arraycopyName) (by decide +kernel)) (hts (.native arraycopyName) (by decide +kernel)) (hts (.static arraycopyName) (by decide +kernel)) (hts (.initialized "java/lang/System") (by decide +kernel)) hK hP hD hS m_aRS m_aPT 4 (by decide) (by decide) (by decide) (Nat.le_of_ble_eq_true rfl) (Nat.le_of_ble_eq_true rfl) dX2_again_21 (fun H locs hP hD hS => ?_)
    refine lv_aload_n hx hb dX2_again_24 rfl (lv_at hl 0 rfl) ?_
    refine lv_iconst (v := nI 0) hx hb dX2_again_25 (by decide) ?_
    refine va_put (D := D) (ci := 2) (v := .int (nI 0)) (ty := .int) (C := RX2) (T := TX2) (N := 8) hx hb hts (by decide +kernel) tyX2 tyX2_ok nmX2 hown hK hP hD hS 0 rfl rfl 5 (by decide) (hts (.fieldLink RX2 29 "LadderDesk" "phaseNow" "I") (by decide +kernel)) (fun _ h9 => h9) rfl (by decide +kernel) rfl rfl (Nat.le_of_ble_eq_true rfl) dX2_again_26 (fun H locs hP hD hS => ?_)
    refine lv_iconst (v := nI 1) hx hb dX2_again_29 (by decide) ?_
    exact z_iret hx hb hr hlocks dX2_again_30 hK hP hD hS (Or.inl ⟨rfl, rfl, ⟨ol, hf, L, n, t, _, wd, wh, aU, aA, aB, aC, aD, aE, aAA, aBB, aDA, aCB, aSP, aLE, aRI, x2, z2, x3, z3, aSC, aPT, aRS, aAN, rfl, hLW, hDW, DV_0 (fun k hk => by rw [mpq_ne (show aSC ≠ aPT from fun h => by have := congrArg t h; omega)]; exact v_sc k hk) (fun k hk => by rw [mpq_to, if_pos hk, ow_wv (q aRS) hk, v_rs rfl]) v_st⟩⟩)
  · have hc : ph ≠ 2 := fun e => c5 (by rw [e])
    refine lv_iconst (v := nI 0) hx hb dX2_again_8 (by decide) ?_
    exact z_iret hx hb hr hlocks dX2_again_9 hK hP hD hS (Or.inr ⟨hc, rfl, ⟨ol, hf, L, n, t, q, wd, wh, aU, aA, aB, aC, aD, aE, aAA, aBB, aDA, aCB, aSP, aLE, aRI, x2, z2, x3, z3, aSC, aPT, aRS, aAN, rfl, hLW, hDW, hDV⟩⟩)
set_option maxRecDepth 100000 in
set_option maxHeartbeats 4000000 in
theorem C_reset (l : Launch) (D : va_G) (cA : ClassId) (tys : List (ClassId × FieldType)) (od ph st : Nat) (rs : Int32) (sc pt : Nat → Int64) (ws : va_W) (hCI : CI cA od ph st rs sc pt ws)  : zCi l D ((cA, .long) :: tys) yX2_reset wsX2_reset ({ frames := 0, cells := 0, slots := 0, locals := 0 }) [.ref od] (ws) (fun r u => r = nI ph ∧ CI cA od 0 st rs sc pt u) := by
  obtain ⟨ol, hf, L, n, t, q, wd, wh, aU, aA, aB, aC, aD, aE, aAA, aBB, aDA, aCB, aSP, aLE, aRI, x2, z2, x3, z3, aSC, aPT, aRS, aAN, rfl, hLW, hDW, hDV⟩ := hCI
  obtain ⟨v_sc, v_pt, v_lad, v_rs, v_ph, v_st, v_2⟩ := id hDV
  refine z_met (fun A => va_Qi (fun r u => r = nI ph ∧ CI cA od 0 st rs sc pt u) (zB D ((cA, .long) :: tys) A) A) (by decide) rfl (Nat.le_of_ble_eq_true rfl) ?_
  intro p e s m below meth c hx hb hr hml hts hown hlocks hname A hA hP hK hD hS ls hl
  have hown : s.vm.findClass RX2 = some m.cls := hown
  have hl : lv_has ls 2 [(0, .ref od)] := hl
  obtain ⟨⟨m_wd, m_wh, m_aU, m_aA, m_aB, m_aC, m_aD, m_aE, m_aAA, m_aBB, m_aDA, m_aCB, m_aSP, m_aLE, m_aRI, m_x2, m_z2, m_x3, m_z3⟩, ⟨t_wd, t_wh, t_aU, t_aA, t_aB, t_aC, t_aD, t_aE, t_aAA, t_aBB, t_aDA, t_aCB, t_aSP, t_aLE, t_aRI, t_x2, t_z2, t_x3, t_z3⟩, ⟨d_0, d_1, d_2, d_3, d_4, d_5⟩⟩ := id hLW
  obtain ⟨⟨m_aSC, m_aPT, m_aRS, m_aAN⟩, ⟨t_aSC, t_aPT, t_aRS, t_aAN⟩⟩ := id hDW
  refine lv_aload_n hx hb dX2_reset_0 rfl (lv_at hl 0 rfl) ?_
  refine va_get (D := D) (ci := 2) (v := .int (nI ph)) (C := RX2) (T := TX2) (N := 8) hx hb hts (by decide +kernel) hown hK hP 0 rfl rfl 5 (by decide) (hts (.fieldLink RX2 29 "LadderDesk" "phaseNow" "I") (by decide +kernel)) (fun _ h9 => h9) rfl dX2_reset_1 ?_
  refine lv_istore_n (lv' := [(1, .int (nI ph)), (0, .ref od)]) hx hb dX2_reset_4 rfl hl (by decide) rfl (fun ls hl => ?_)
  refine lv_aload_n hx hb dX2_reset_5 rfl (lv_at hl 1 rfl) ?_
  refine lv_iconst (v := nI 0) hx hb dX2_reset_6 (by decide) ?_
  refine va_put (D := D) (ci := 2) (v := .int (nI 0)) (ty := .int) (C := RX2) (T := TX2) (N := 8) hx hb hts (by decide +kernel) tyX2 tyX2_ok nmX2 hown hK hP hD hS 0 rfl rfl 5 (by decide) (hts (.fieldLink RX2 29 "LadderDesk" "phaseNow" "I") (by decide +kernel)) (fun _ h9 => h9) rfl (by decide +kernel) rfl rfl (Nat.le_of_ble_eq_true rfl) dX2_reset_7 (fun H locs hP hD hS => ?_)
  refine lv_iload_n hx hb dX2_reset_10 rfl (lv_at hl 0 rfl) ?_
  exact z_iret hx hb hr hlocks dX2_reset_11 hK hP hD hS (⟨rfl, ⟨ol, hf, L, n, t, q, wd, wh, aU, aA, aB, aC, aD, aE, aAA, aBB, aDA, aCB, aSP, aLE, aRI, x2, z2, x3, z3, aSC, aPT, aRS, aAN, rfl, hLW, hDW, DV_0 v_sc v_pt v_st⟩⟩)
set_option maxRecDepth 100000 in
set_option maxHeartbeats 4000000 in
theorem C_phase (l : Launch) (D : va_G) (cA : ClassId) (tys : List (ClassId × FieldType)) (od ph st : Nat) (rs : Int32) (sc pt : Nat → Int64) (ws : va_W) (hCI : CI cA od ph st rs sc pt ws)  : zCi l D ((cA, .long) :: tys) yX2_phase wsX2_phase ({ frames := 0, cells := 0, slots := 0, locals := 0 }) [.ref od] (ws) (fun r u => r = nI ph ∧ CI cA od ph st rs sc pt u) := by
  obtain ⟨ol, hf, L, n, t, q, wd, wh, aU, aA, aB, aC, aD, aE, aAA, aBB, aDA, aCB, aSP, aLE, aRI, x2, z2, x3, z3, aSC, aPT, aRS, aAN, rfl, hLW, hDW, hDV⟩ := hCI
  obtain ⟨v_sc, v_pt, v_lad, v_rs, v_ph, v_st, v_2⟩ := id hDV
  refine z_met (fun A => va_Qi (fun r u => r = nI ph ∧ CI cA od ph st rs sc pt u) (zB D ((cA, .long) :: tys) A) A) (by decide) rfl (Nat.le_of_ble_eq_true rfl) ?_
  intro p e s m below meth c hx hb hr hml hts hown hlocks hname A hA hP hK hD hS ls hl
  have hown : s.vm.findClass RX2 = some m.cls := hown
  have hl : lv_has ls 1 [(0, .ref od)] := hl
  obtain ⟨⟨m_wd, m_wh, m_aU, m_aA, m_aB, m_aC, m_aD, m_aE, m_aAA, m_aBB, m_aDA, m_aCB, m_aSP, m_aLE, m_aRI, m_x2, m_z2, m_x3, m_z3⟩, ⟨t_wd, t_wh, t_aU, t_aA, t_aB, t_aC, t_aD, t_aE, t_aAA, t_aBB, t_aDA, t_aCB, t_aSP, t_aLE, t_aRI, t_x2, t_z2, t_x3, t_z3⟩, ⟨d_0, d_1, d_2, d_3, d_4, d_5⟩⟩ := id hLW
  obtain ⟨⟨m_aSC, m_aPT, m_aRS, m_aAN⟩, ⟨t_aSC, t_aPT, t_aRS, t_aAN⟩⟩ := id hDW
  refine lv_aload_n hx hb dX2_phase_0 rfl (lv_at hl 0 rfl) ?_
  refine va_get (D := D) (ci := 2) (v := .int (nI ph)) (C := RX2) (T := TX2) (N := 8) hx hb hts (by decide +kernel) hown hK hP 0 rfl rfl 5 (by decide) (hts (.fieldLink RX2 29 "LadderDesk" "phaseNow" "I") (by decide +kernel)) (fun _ h9 => h9) rfl dX2_phase_1 ?_
  exact z_iret hx hb hr hlocks dX2_phase_4 hK hP hD hS (⟨rfl, ⟨ol, hf, L, n, t, q, wd, wh, aU, aA, aB, aC, aD, aE, aAA, aBB, aDA, aCB, aSP, aLE, aRI, x2, z2, x3, z3, aSC, aPT, aRS, aAN, rfl, hLW, hDW, hDV⟩⟩)
end
section
set_option maxRecDepth 100000 in
set_option maxHeartbeats 4000000 in
theorem C_out (l : Launch) (D : va_G) (cA : ClassId) (tys : List (ClassId × FieldType)) (od ph st : Nat) (rs : Int32) (sc pt : Nat → Int64) (ws : va_W) (hCI : CI cA od ph st rs sc pt ws) (k : Int32) : zCl l D ((cA, .long) :: tys) yX2_out wsX2_out ({ frames := 1, cells := 0, slots := 0, locals := 20 }) [.ref od, .int k] (ws) (fun r u => r = aOut ph sc pt k ∧ CI cA od ph st rs sc pt u) := by
  obtain ⟨ol, hf, L, n, t, q, wd, wh, aU, aA, aB, aC, aD, aE, aAA, aBB, aDA, aCB, aSP, aLE, aRI, x2, z2, x3, z3, aSC, aPT, aRS, aAN, rfl, hLW, hDW, hDV⟩ := hCI
  obtain ⟨v_sc, v_pt, v_lad, v_rs, v_ph, v_st, v_2⟩ := id hDV
  refine z_met (fun A => va_Ql (fun r u => r = aOut ph sc pt k ∧ CI cA od ph st rs sc pt u) (zB D ((cA, .long) :: tys) A) A) (by decide) rfl (Nat.le_of_ble_eq_true rfl) ?_
  intro p e s m below meth c hx hb hr hml hts hown hlocks hname A hA hP hK hD hS ls hl
  have hown : s.vm.findClass RX2 = some m.cls := hown
  have hl : lv_has ls 2 [(0, .ref od), (1, .int k)] := hl
  obtain ⟨⟨m_wd, m_wh, m_aU, m_aA, m_aB, m_aC, m_aD, m_aE, m_aAA, m_aBB, m_aDA, m_aCB, m_aSP, m_aLE, m_aRI, m_x2, m_z2, m_x3, m_z3⟩, ⟨t_wd, t_wh, t_aU, t_aA, t_aB, t_aC, t_aD, t_aE, t_aAA, t_aBB, t_aDA, t_aCB, t_aSP, t_aLE, t_aRI, t_x2, t_z2, t_x3, t_z3⟩, ⟨d_0, d_1, d_2, d_3, d_4, d_5⟩⟩ := id hLW
  obtain ⟨⟨m_aSC, m_aPT, m_aRS, m_aAN⟩, ⟨t_aSC, t_aPT, t_aRS, t_aAN⟩⟩ := id hDW
  refine lv_aload_n hx hb dX2_out_0 rfl (lv_at hl 0 rfl) ?_
  refine va_get (D := D) (ci := 2) (v := .int (nI ph)) (C := RX2) (T := TX2) (N := 8) hx hb hts (by decide +kernel) hown hK hP 0 rfl rfl 5 (by decide) (hts (.fieldLink RX2 29 "LadderDesk" "phaseNow" "I") (by decide +kernel)) (fun _ h9 => h9) rfl dX2_out_1 ?_
  refine lv_iconst (v := nI 2) hx hb dX2_out_4 (by decide) ?_
  refine lv_icmp_ne (tgt := 15) hx hb dX2_out_5 (by decide) (fun c5 => ?_) (fun c5 => ?_)
  · have hc : ¬ ph = 2 := fun e => c5 (by rw [e])
    refine lv_lconst (v := 0) hx hb dX2_out_15 (by decide) ?_
    exact z_lret hx hb hr hlocks dX2_out_16 hK hP hD hS (⟨by unfold aOut; rw [if_neg (fun h => hc h.1)], ⟨ol, hf, L, n, t, q, wd, wh, aU, aA, aB, aC, aD, aE, aAA, aBB, aDA, aCB, aSP, aLE, aRI, x2, z2, x3, z3, aSC, aPT, aRS, aAN, rfl, hLW, hDW, hDV⟩⟩)
  · have hc : ph = 2 := (nI_eq (by omega) (by omega)).mp c5
    subst hc
    refine lv_iload_n hx hb dX2_out_8 rfl (lv_at hl 1 rfl) ?_
    refine z_calli (va_runS (As := [.int k]) (rest := []) ⟨hx, hb, hml, hown, hts⟩ (c_isLong l D ((cA, .long) :: tys) _ k _) (va_cwS 1 hts gX2_out_X2_isLong rfl rfl rfl (by decide +kernel) ⟨Nat.le_of_ble_eq_true rfl, Nat.le_of_ble_eq_true rfl⟩) (z_preS _ hK hP hD) rfl rfl hl.1 rfl (lv_room (Nat.le_of_ble_eq_true rfl)) dX2_out_9 ⟨Nat.le_of_ble_eq_true rfl, Nat.le_of_ble_eq_true rfl⟩) hD hS hA (fun r9 u H locs hu hP hD hS => ?_)
    obtain ⟨rfl, hz⟩ := hu
    refine lv_if_ne (tgt := 17) hx hb dX2_out_12 (by decide) (fun c12 => ?_) (fun c12 => ?_)
    · obtain ⟨-, jk, hjk, rfl⟩ : r9 = 1 ∧ ∃ j : Nat, j < 4 ∧ k = nI j := by
        rcases hz with h | ⟨h, -⟩
        · exact h
        · exact absurd h c12
      refine lv_aload_n hx hb dX2_out_17 rfl (lv_at hl 0 rfl) ?_
      refine va_get (D := D) (ci := 2) (v := .ref aRS) (C := RX2) (T := TX2) (N := 8) hx hb hts (by decide +kernel) hown hK hP 0 rfl rfl 2 (by decide) (hts (.fieldLink RX2 16 "LadderDesk" "result" "[J") (by decide +kernel)) (fun _ h9 => h9) rfl dX2_out_18 ?_
      refine lv_iload_n hx hb dX2_out_21 rfl (lv_at hl 1 rfl) ?_
      refine z_ld hx hb hK hP m_aRS jk rfl (by omega) (by omega) dX2_out_22 ?_
      refine lv_topl (fun v22 e22 => ?_)
      exact z_lret hx hb hr hlocks dX2_out_23 hK hP hD hS (⟨by rw [e22]; unfold aOut; rw [if_pos ⟨rfl, isL_t hjk⟩, nI_clamp (by omega), ow_wv (q aRS) hjk, v_rs rfl], ⟨ol, hf, L, n, t, q, wd, wh, aU, aA, aB, aC, aD, aE, aAA, aBB, aDA, aCB, aSP, aLE, aRI, x2, z2, x3, z3, aSC, aPT, aRS, aAN, rfl, hLW, hDW, hDV⟩⟩)
    · have hck : ¬ ∃ j : Nat, j < 4 ∧ k = nI j := by
        rcases hz with ⟨h, -⟩ | ⟨-, h⟩
        · rw [h] at c12; exact absurd c12 (by decide)
        · exact h
      refine lv_lconst (v := 0) hx hb dX2_out_15 (by decide) ?_
      exact z_lret hx hb hr hlocks dX2_out_16 hK hP hD hS (⟨by unfold aOut; rw [if_neg (fun h => by rw [isL_f hck] at h; exact absurd h.2 (by decide))], ⟨ol, hf, L, n, t, q, wd, wh, aU, aA, aB, aC, aD, aE, aAA, aBB, aDA, aCB, aSP, aLE, aRI, x2, z2, x3, z3, aSC, aPT, aRS, aAN, rfl, hLW, hDW, hDV⟩⟩)
set_option maxRecDepth 100000 in
set_option maxHeartbeats 4000000 in
theorem C_part (l : Launch) (D : va_G) (cA : ClassId) (tys : List (ClassId × FieldType)) (od ph st : Nat) (rs : Int32) (sc pt : Nat → Int64) (ws : va_W) (hCI : CI cA od ph st rs sc pt ws) (w k : Int32) : zCl l D ((cA, .long) :: tys) yX2_part wsX2_part ({ frames := 4, cells := 0, slots := 0, locals := 92 }) [.ref od, .int w, .int k] (ws) (fun r u => r = aPart ph st sc pt w k ∧ CI cA od ph st rs sc pt u) := by
  obtain ⟨ol, hf, L, n, t, q, wd, wh, aU, aA, aB, aC, aD, aE, aAA, aBB, aDA, aCB, aSP, aLE, aRI, x2, z2, x3, z3, aSC, aPT, aRS, aAN, rfl, hLW, hDW, hDV⟩ := hCI
  obtain ⟨v_sc, v_pt, v_lad, v_rs, v_ph, v_st, v_2⟩ := id hDV
  refine z_met (fun A => va_Ql (fun r u => r = aPart ph st sc pt w k ∧ CI cA od ph st rs sc pt u) (zB D ((cA, .long) :: tys) A) A) (by decide) rfl (Nat.le_of_ble_eq_true rfl) ?_
  intro p e s m below meth c hx hb hr hml hts hown hlocks hname A hA hP hK hD hS ls hl
  have hown : s.vm.findClass RX2 = some m.cls := hown
  have hl : lv_has ls 3 [(0, .ref od), (1, .int w), (2, .int k)] := hl
  obtain ⟨⟨m_wd, m_wh, m_aU, m_aA, m_aB, m_aC, m_aD, m_aE, m_aAA, m_aBB, m_aDA, m_aCB, m_aSP, m_aLE, m_aRI, m_x2, m_z2, m_x3, m_z3⟩, ⟨t_wd, t_wh, t_aU, t_aA, t_aB, t_aC, t_aD, t_aE, t_aAA, t_aBB, t_aDA, t_aCB, t_aSP, t_aLE, t_aRI, t_x2, t_z2, t_x3, t_z3⟩, ⟨d_0, d_1, d_2, d_3, d_4, d_5⟩⟩ := id hLW
  obtain ⟨⟨m_aSC, m_aPT, m_aRS, m_aAN⟩, ⟨t_aSC, t_aPT, t_aRS, t_aAN⟩⟩ := id hDW
  refine lv_aload_n hx hb dX2_part_0 rfl (lv_at hl 0 rfl) ?_
  refine va_get (D := D) (ci := 2) (v := .int (nI ph)) (C := RX2) (T := TX2) (N := 8) hx hb hts (by decide +kernel) hown hK hP 0 rfl rfl 5 (by decide) (hts (.fieldLink RX2 29 "LadderDesk" "phaseNow" "I") (by decide +kernel)) (fun _ h9 => h9) rfl dX2_part_1 ?_
  refine lv_if_eq (tgt := 21) hx hb dX2_part_4 (by decide) (fun c4 => ?_) (fun c4 => ?_)
  · have hc : ph = 0 := (nI_eq (by omega) (by omega)).mp c4
    refine lv_lconst (v := 0) hx hb dX2_part_21 (by decide) ?_
    exact z_lret hx hb hr hlocks dX2_part_22 hK hP hD hS (⟨by unfold aPart; rw [if_neg (fun h => h.1 hc)], ⟨ol, hf, L, n, t, q, wd, wh, aU, aA, aB, aC, aD, aE, aAA, aBB, aDA, aCB, aSP, aLE, aRI, x2, z2, x3, z3, aSC, aPT, aRS, aAN, rfl, hLW, hDW, hDV⟩⟩)
  · have hc : ph ≠ 0 := fun e => c4 (by rw [e]; rfl)
    refine lv_iload_n hx hb dX2_part_7 rfl (lv_at hl 1 rfl) ?_
    refine z_calli (va_runS (As := [.int w]) (rest := []) ⟨hx, hb, hml, hown, hts⟩ (c_isPart l D ((cA, .long) :: tys) _ w _) (va_cwS 1 hts gX2_part_X1_isPart rfl rfl rfl (by decide +kernel) ⟨Nat.le_of_ble_eq_true rfl, Nat.le_of_ble_eq_true rfl⟩) (z_preS _ hK hP hD) rfl rfl hl.1 rfl (lv_room (Nat.le_of_ble_eq_true rfl)) dX2_part_8 ⟨Nat.le_of_ble_eq_true rfl, Nat.le_of_ble_eq_true rfl⟩) hD hS hA (fun r8 u H locs hu hP hD hS => ?_)
    obtain ⟨rfl, hz⟩ := hu
    refine lv_if_eq (tgt := 21) hx hb dX2_part_11 (by decide) (fun c11 => ?_) (fun c11 => ?_)
    · have hcw : ¬ ∃ j : Nat, j < 5 ∧ w = nI j := by
        rcases hz with ⟨h, -⟩ | ⟨-, h⟩
        · rw [h] at c11; exact absurd c11 (by decide)
        · exact h
      refine lv_lconst (v := 0) hx hb dX2_part_21 (by decide) ?_
      exact z_lret hx hb hr hlocks dX2_part_22 hK hP hD hS (⟨by unfold aPart; rw [if_neg (fun h => by rw [isP_f hcw] at h; exact absurd h.2.1 (by decide))], ⟨ol, hf, L, n, t, q, wd, wh, aU, aA, aB, aC, aD, aE, aAA, aBB, aDA, aCB, aSP, aLE, aRI, x2, z2, x3, z3, aSC, aPT, aRS, aAN, rfl, hLW, hDW, hDV⟩⟩)
    · obtain ⟨-, jw, hjw, rfl⟩ : r8 = 1 ∧ ∃ j : Nat, j < 5 ∧ w = nI j := by
        rcases hz with h | ⟨h, -⟩
        · exact h
        · exact absurd h c11
      refine lv_iload_n hx hb dX2_part_14 rfl (lv_at hl 2 rfl) ?_
      refine z_calli (va_runS (As := [.int k]) (rest := []) ⟨hx, hb, hml, hown, hts⟩ (c_isLong l D ((cA, .long) :: tys) _ k _) (va_cwS 1 hts gX2_part_X2_isLong rfl rfl rfl (by decide +kernel) ⟨Nat.le_of_ble_eq_true rfl, Nat.le_of_ble_eq_true rfl⟩) (z_preS _ hK hP hD) rfl rfl hl.1 rfl (lv_room (Nat.le_of_ble_eq_true rfl)) dX2_part_15 ⟨Nat.le_of_ble_eq_true rfl, Nat.le_of_ble_eq_true rfl⟩) hD hS hA (fun r15 u H locs hu hP hD hS => ?_)
      obtain ⟨rfl, hz⟩ := hu
      refine lv_if_ne (tgt := 23) hx hb dX2_part_18 (by decide) (fun c18 => ?_) (fun c18 => ?_)
      · obtain ⟨-, jk, hjk, rfl⟩ : r15 = 1 ∧ ∃ j : Nat, j < 4 ∧ k = nI j := by
          rcases hz with h | ⟨h, -⟩
          · exact h
          · exact absurd h c18
        obtain ⟨hU, hX2, hZ2, hX3, hZ3⟩ := v_lad hc
        have hv : holds (q (rsel jw x2 z2 x3 z3 aU)) (lpart sc pt st jw) := by
          unfold rsel lpart
          split
          · exact hX2
          · split
            · exact hZ2
            · split
              · exact hX3
              · split
                · exact hZ3
                · exact hU
        refine lv_aload_n hx hb dX2_part_23 rfl (lv_at hl 0 rfl) ?_
        refine va_get (D := D) (ci := 2) (v := .ref ol) (C := RX2) (T := TX2) (N := 8) hx hb hts (by decide +kernel) hown hK hP 0 rfl rfl 4 (by decide) (hts (.fieldLink RX2 25 "LadderDesk" "ladder" "LLadderDesk$Ladder;") (by decide +kernel)) (fun _ h9 => h9) rfl dX2_part_24 ?_
        refine lv_aload_n hx hb dX2_part_27 rfl (lv_at hl 0 rfl) ?_
        refine va_get (D := D) (ci := 2) (v := .ref aAN) (C := RX2) (T := TX2) (N := 8) hx hb hts (by decide +kernel) hown hK hP 0 rfl rfl 3 (by decide) (hts (.fieldLink RX2 19 "LadderDesk" "answer" "[J") (by decide +kernel)) (fun _ h9 => h9) rfl dX2_part_28 ?_
        refine lv_iload_n hx hb dX2_part_31 rfl (lv_at hl 1 rfl) ?_
        refine z_callv (va_runV (As := [.ref aAN, .int (nI jw)]) (rest := []) ⟨hx, hb, hml, hown, hts⟩ (c_writePart l D cA tys (od, .inr (2, [.ref aSC, .ref aPT, .ref aRS, .ref aAN, .ref ol, .int (nI ph), .int (nI st), .int rs])) ol hf L n t q wd wh aU aA aB aC aD aE aAA aBB aDA aCB aSP aLE aRI x2 z2 x3 z3 hLW aAN m_aAN jw hjw _ hv _) (cwV 2 hts gX2_part_X1_writePart rfl rfl rfl (by decide +kernel) ⟨Nat.le_of_ble_eq_true rfl, Nat.le_of_ble_eq_true rfl⟩) (z_preV _ hK hP hD (ci := 1) (q0 := 1) rfl rfl) rfl rfl hl.1 rfl (lv_room (Nat.le_of_ble_eq_true rfl)) dX2_part_32 ⟨Nat.le_of_ble_eq_true rfl, Nat.le_of_ble_eq_true rfl⟩) hD hS hA (fun u H locs hu hP hD hS => ?_)
        obtain ⟨q1, k1, v1, rfl⟩ := hu
        have hin := lpart_in sc pt st jw
        rw [Int.emod_eq_of_lt hin.1 hin.2] at v1
        have k2 : ∀ b, 2 ≤ t b → t b ≠ 18 → q1 b = q b := fun b h1 h2 => k1 b (show b ≠ aAN from fun h => by have := congrArg t h; omega) (show b ≠ wh from fun h => by have := congrArg t h; omega)
        have nx : ∀ b, n b = 10 → b ≠ aAN := fun b h e => by rw [e, m_aAN.2] at h; omega
        have hDV1 : DV ph st sc pt q1 aU x2 z2 x3 z3 aSC aPT aRS := DV_kp hDV (k1 aSC (show aSC ≠ aAN from fun h => by have := congrArg t h; omega) (show aSC ≠ wh from fun h => by have := congrArg t h; omega)) (k1 aPT (show aPT ≠ aAN from fun h => by have := congrArg t h; omega) (show aPT ≠ wh from fun h => by have := congrArg t h; omega)) (k1 aU (show aU ≠ aAN from fun h => by have := congrArg t h; omega) (show aU ≠ wh from fun h => by have := congrArg t h; omega)) (k1 x2 (nx x2 m_x2.2) (show x2 ≠ wh from fun h => by have := congrArg t h; omega)) (k1 z2 (nx z2 m_z2.2) (show z2 ≠ wh from fun h => by have := congrArg t h; omega)) (k1 x3 (nx x3 m_x3.2) (show x3 ≠ wh from fun h => by have := congrArg t h; omega)) (k1 z3 (nx z3 m_z3.2) (show z3 ≠ wh from fun h => by have := congrArg t h; omega)) (k1 aRS (show aRS ≠ aAN from fun h => by have := congrArg t h; omega) (show aRS ≠ wh from fun h => by have := congrArg t h; omega))
        refine lv_aload_n hx hb dX2_part_35 rfl (lv_at hl 0 rfl) ?_
        refine va_get (D := D) (ci := 2) (v := .ref aAN) (C := RX2) (T := TX2) (N := 8) hx hb hts (by decide +kernel) hown hK hP 0 rfl rfl 3 (by decide) (hts (.fieldLink RX2 19 "LadderDesk" "answer" "[J") (by decide +kernel)) (fun _ h9 => h9) rfl dX2_part_36 ?_
        refine lv_iload_n hx hb dX2_part_39 rfl (lv_at hl 2 rfl) ?_
        refine z_ld hx hb hK hP m_aAN jk rfl (by omega) (by omega) dX2_part_40 ?_
        refine lv_topl (fun v40 e40 => ?_)
        exact z_lret hx hb hr hlocks dX2_part_41 hK hP hD hS (⟨by rw [e40, ow_wv (q1 aAN) hjk]; unfold aPart; rw [if_pos ⟨hc, isP_t hjw, isL_t hjk⟩, nI_clamp (by omega), nI_clamp (by omega)]; congr 1; omega, ⟨ol, hf, L, n, t, q1, wd, wh, aU, aA, aB, aC, aD, aE, aAA, aBB, aDA, aCB, aSP, aLE, aRI, x2, z2, x3, z3, aSC, aPT, aRS, aAN, rfl, hLW, hDW, hDV1⟩⟩)
      · have hck : ¬ ∃ j : Nat, j < 4 ∧ k = nI j := by
          rcases hz with ⟨h, -⟩ | ⟨-, h⟩
          · rw [h] at c18; exact absurd c18 (by decide)
          · exact h
        refine lv_lconst (v := 0) hx hb dX2_part_21 (by decide) ?_
        exact z_lret hx hb hr hlocks dX2_part_22 hK hP hD hS (⟨by unfold aPart; rw [if_neg (fun h => by rw [isL_f hck] at h; exact absurd h.2.2 (by decide))], ⟨ol, hf, L, n, t, q, wd, wh, aU, aA, aB, aC, aD, aE, aAA, aBB, aDA, aCB, aSP, aLE, aRI, x2, z2, x3, z3, aSC, aPT, aRS, aAN, rfl, hLW, hDW, hDV⟩⟩)
set_option maxRecDepth 100000 in
set_option maxHeartbeats 4000000 in
theorem C_told (l : Launch) (D : va_G) (cA : ClassId) (tys : List (ClassId × FieldType)) (od ph st : Nat) (rs : Int32) (sc pt : Nat → Int64) (ws : va_W) (hCI : CI cA od ph st rs sc pt ws) (w k : Int32) : zCl l D ((cA, .long) :: tys) yX2_told wsX2_told ({ frames := 2, cells := 0, slots := 0, locals := 42 }) [.ref od, .int w, .int k] (ws) (fun r u => r = aTold sc pt w k ∧ CI cA od ph st rs sc pt u) := by
  obtain ⟨ol, hf, L, n, t, q, wd, wh, aU, aA, aB, aC, aD, aE, aAA, aBB, aDA, aCB, aSP, aLE, aRI, x2, z2, x3, z3, aSC, aPT, aRS, aAN, rfl, hLW, hDW, hDV⟩ := hCI
  obtain ⟨v_sc, v_pt, v_lad, v_rs, v_ph, v_st, v_2⟩ := id hDV
  refine z_met (fun A => va_Ql (fun r u => r = aTold sc pt w k ∧ CI cA od ph st rs sc pt u) (zB D ((cA, .long) :: tys) A) A) (by decide) rfl (Nat.le_of_ble_eq_true rfl) ?_
  intro p e s m below meth c hx hb hr hml hts hown hlocks hname A hA hP hK hD hS ls hl
  have hown : s.vm.findClass RX2 = some m.cls := hown
  have hl : lv_has ls 3 [(0, .ref od), (1, .int w), (2, .int k)] := hl
  obtain ⟨⟨m_wd, m_wh, m_aU, m_aA, m_aB, m_aC, m_aD, m_aE, m_aAA, m_aBB, m_aDA, m_aCB, m_aSP, m_aLE, m_aRI, m_x2, m_z2, m_x3, m_z3⟩, ⟨t_wd, t_wh, t_aU, t_aA, t_aB, t_aC, t_aD, t_aE, t_aAA, t_aBB, t_aDA, t_aCB, t_aSP, t_aLE, t_aRI, t_x2, t_z2, t_x3, t_z3⟩, ⟨d_0, d_1, d_2, d_3, d_4, d_5⟩⟩ := id hLW
  obtain ⟨⟨m_aSC, m_aPT, m_aRS, m_aAN⟩, ⟨t_aSC, t_aPT, t_aRS, t_aAN⟩⟩ := id hDW
  refine lv_iload_n hx hb dX2_told_0 rfl (lv_at hl 2 rfl) ?_
  refine z_calli (va_runS (As := [.int k]) (rest := []) ⟨hx, hb, hml, hown, hts⟩ (c_isLong l D ((cA, .long) :: tys) _ k _) (va_cwS 1 hts gX2_told_X2_isLong rfl rfl rfl (by decide +kernel) ⟨Nat.le_of_ble_eq_true rfl, Nat.le_of_ble_eq_true rfl⟩) (z_preS _ hK hP hD) rfl rfl hl.1 rfl (lv_room (Nat.le_of_ble_eq_true rfl)) dX2_told_1 ⟨Nat.le_of_ble_eq_true rfl, Nat.le_of_ble_eq_true rfl⟩) hD hS hA (fun r1 u H locs hu hP hD hS => ?_)
  obtain ⟨rfl, hz⟩ := hu
  refine lv_if_ne (tgt := 9) hx hb dX2_told_4 (by decide) (fun c4 => ?_) (fun c4 => ?_)
  · obtain ⟨-, jk, hjk, rfl⟩ : r1 = 1 ∧ ∃ j : Nat, j < 4 ∧ k = nI j := by
      rcases hz with h | ⟨h, -⟩
      · exact h
      · exact absurd h c4
    have hT : aTold sc pt w (nI jk) = if w = 0 then sc jk else if w = 1 then pt jk else if w = 2 then cl sc jk else if w = 3 then ow (uo pt) jk else 0 := by unfold aTold; rw [if_pos (isL_t hjk), nI_clamp (by omega)]
    refine lv_iload_n hx hb dX2_told_9 rfl (lv_at hl 1 rfl) ?_
    by_cases h0 : w = 0
    · subst h0
      refine lv_tableIn (off := 30) (tgt := 40) hx hb dX2_told_10 (by decide) (by decide) (by decide) (by decide) ?_
      refine lv_aload_n hx hb dX2_told_40 rfl (lv_at hl 0 rfl) ?_
      refine va_get (D := D) (ci := 2) (v := .ref aSC) (C := RX2) (T := TX2) (N := 8) hx hb hts (by decide +kernel) hown hK hP 0 rfl rfl 0 (by decide) (hts (.fieldLink RX2 9 "LadderDesk" "scalarTold" "[J") (by decide +kernel)) (fun _ h9 => h9) rfl dX2_told_41 ?_
      refine lv_iload_n hx hb dX2_told_44 rfl (lv_at hl 2 rfl) ?_
      refine z_ld hx hb hK hP m_aSC jk rfl (by omega) (by omega) dX2_told_45 ?_
      refine lv_topl (fun v45 e45 => ?_)
      exact z_lret hx hb hr hlocks dX2_told_46 hK hP hD hS (⟨by rw [e45, hT]; exact v_sc jk hjk, ⟨ol, hf, L, n, t, q, wd, wh, aU, aA, aB, aC, aD, aE, aAA, aBB, aDA, aCB, aSP, aLE, aRI, x2, z2, x3, z3, aSC, aPT, aRS, aAN, rfl, hLW, hDW, hDV⟩⟩)
    by_cases h1 : w = 1
    · subst h1
      refine lv_tableIn (off := 37) (tgt := 47) hx hb dX2_told_10 (by decide) (by decide) (by decide) (by decide) ?_
      refine lv_aload_n hx hb dX2_told_47 rfl (lv_at hl 0 rfl) ?_
      refine va_get (D := D) (ci := 2) (v := .ref aPT) (C := RX2) (T := TX2) (N := 8) hx hb hts (by decide +kernel) hown hK hP 0 rfl rfl 1 (by decide) (hts (.fieldLink RX2 13 "LadderDesk" "pointTold" "[J") (by decide +kernel)) (fun _ h9 => h9) rfl dX2_told_48 ?_
      refine lv_iload_n hx hb dX2_told_51 rfl (lv_at hl 2 rfl) ?_
      refine z_ld hx hb hK hP m_aPT jk rfl (by omega) (by omega) dX2_told_52 ?_
      refine lv_topl (fun v52 e52 => ?_)
      exact z_lret hx hb hr hlocks dX2_told_53 hK hP hD hS (⟨by rw [e52, hT]; exact v_pt jk hjk, ⟨ol, hf, L, n, t, q, wd, wh, aU, aA, aB, aC, aD, aE, aAA, aBB, aDA, aCB, aSP, aLE, aRI, x2, z2, x3, z3, aSC, aPT, aRS, aAN, rfl, hLW, hDW, hDV⟩⟩)
    by_cases h2 : w = 2
    · subst h2
      refine lv_tableIn (off := 44) (tgt := 54) hx hb dX2_told_10 (by decide) (by decide) (by decide) (by decide) ?_
      refine lv_aload_n hx hb dX2_told_54 rfl (lv_at hl 0 rfl) ?_
      refine lv_iload_n hx hb dX2_told_55 rfl (lv_at hl 2 rfl) ?_
      refine z_calll (va_runV (As := [.int (nI jk)]) (rest := []) ⟨hx, hb, hml, hown, hts⟩ (c_clampedLong l D cA tys (ol, .inr (1, [.ref hf, .ref aU, .ref x2, .ref z2, .ref x3, .ref z3, .ref aA, .ref aB, .ref aC, .ref aD, .ref aE, .ref aAA, .ref aBB, .ref aDA, .ref aCB, .ref aSP, .ref aLE, .ref aRI])) (hf, .inr (0, [.ref wd, .ref wh])) od aSC aPT aRS aAN ol ph st rs L n q m_aSC jk hjk _) (cwV 1 hts gX2_told_X2_clampedLong rfl rfl rfl (by decide +kernel) ⟨Nat.le_of_ble_eq_true rfl, Nat.le_of_ble_eq_true rfl⟩) (z_preV _ hK hP hD (ci := 2) (q0 := 0) rfl rfl) rfl rfl hl.1 rfl (lv_room (Nat.le_of_ble_eq_true rfl)) dX2_told_56 ⟨Nat.le_of_ble_eq_true rfl, Nat.le_of_ble_eq_true rfl⟩) hD hS hA (fun r56 u H locs hu hP hD hS => ?_)
      obtain ⟨hr56, rfl⟩ := hu
      exact z_lret hx hb hr hlocks dX2_told_59 hK hP hD hS (⟨by rw [hr56, hT]; exact cl_congr v_sc hjk, ⟨ol, hf, L, n, t, q, wd, wh, aU, aA, aB, aC, aD, aE, aAA, aBB, aDA, aCB, aSP, aLE, aRI, x2, z2, x3, z3, aSC, aPT, aRS, aAN, rfl, hLW, hDW, hDV⟩⟩)
    by_cases h3 : w = 3
    · subst h3
      refine lv_tableIn (off := 50) (tgt := 60) hx hb dX2_told_10 (by decide) (by decide) (by decide) (by decide) ?_
      refine lv_aload_n hx hb dX2_told_60 rfl (lv_at hl 0 rfl) ?_
      refine lv_aload_n hx hb dX2_told_61 rfl (lv_at hl 0 rfl) ?_
      refine va_get (D := D) (ci := 2) (v := .ref aAN) (C := RX2) (T := TX2) (N := 8) hx hb hts (by decide +kernel) hown hK hP 0 rfl rfl 3 (by decide) (hts (.fieldLink RX2 19 "LadderDesk" "answer" "[J") (by decide +kernel)) (fun _ h9 => h9) rfl dX2_told_62 ?_
      refine z_callv (va_runV (As := [.ref aAN]) (rest := []) ⟨hx, hb, hml, hown, hts⟩ (c_writeU l D cA tys (ol, .inr (1, [.ref hf, .ref aU, .ref x2, .ref z2, .ref x3, .ref z3, .ref aA, .ref aB, .ref aC, .ref aD, .ref aE, .ref aAA, .ref aBB, .ref aDA, .ref aCB, .ref aSP, .ref aLE, .ref aRI])) (hf, .inr (0, [.ref wd, .ref wh])) od aSC aPT aRS aAN ol ph st rs L n q m_aPT aAN m_aAN _) (cwV 1 hts gX2_told_X2_writeU rfl rfl rfl (by decide +kernel) ⟨Nat.le_of_ble_eq_true rfl, Nat.le_of_ble_eq_true rfl⟩) (z_preV _ hK hP hD (ci := 2) (q0 := 0) rfl rfl) rfl rfl hl.1 rfl (lv_room (Nat.le_of_ble_eq_true rfl)) dX2_told_65 ⟨Nat.le_of_ble_eq_true rfl, Nat.le_of_ble_eq_true rfl⟩) hD hS hA (fun u H locs hu hP hD hS => ?_)
      obtain ⟨g1, hg1, rfl⟩ := hu
      rw [uo_congr v_pt] at hg1
      obtain ⟨q1, hq1⟩ : ∃ z, z = va_up q aAN g1 := ⟨_, rfl⟩
      rw [← hq1] at hP hD
      have k1 : ∀ b, b ≠ aAN → q1 b = q b := fun b h => by rw [hq1, va_up_ne _ _ h]
      have e1 : q1 aAN = g1 := by rw [hq1, va_up_self]
      have nx : ∀ b, n b = 10 → b ≠ aAN := fun b h e => by rw [e, m_aAN.2] at h; omega
      have hDV1 : DV ph st sc pt q1 aU x2 z2 x3 z3 aSC aPT aRS := DV_kp hDV (k1 aSC (show aSC ≠ aAN from fun h => by have := congrArg t h; omega)) (k1 aPT (show aPT ≠ aAN from fun h => by have := congrArg t h; omega)) (k1 aU (nx aU m_aU.2)) (k1 x2 (nx x2 m_x2.2)) (k1 z2 (nx z2 m_z2.2)) (k1 x3 (nx x3 m_x3.2)) (k1 z3 (nx z3 m_z3.2)) (k1 aRS (show aRS ≠ aAN from fun h => by have := congrArg t h; omega))
      refine lv_aload_n hx hb dX2_told_68 rfl (lv_at hl 0 rfl) ?_
      refine va_get (D := D) (ci := 2) (v := .ref aAN) (C := RX2) (T := TX2) (N := 8) hx hb hts (by decide +kernel) hown hK hP 0 rfl rfl 3 (by decide) (hts (.fieldLink RX2 19 "LadderDesk" "answer" "[J") (by decide +kernel)) (fun _ h9 => h9) rfl dX2_told_69 ?_
      refine lv_iload_n hx hb dX2_told_72 rfl (lv_at hl 2 rfl) ?_
      refine z_ld hx hb hK hP m_aAN jk rfl (by omega) (by omega) dX2_told_73 ?_
      refine lv_topl (fun v73 e73 => ?_)
      exact z_lret hx hb hr hlocks dX2_told_74 hK hP hD hS (⟨by rw [e73, hT, e1, ow_wv g1 hjk, hg1]; rfl, ⟨ol, hf, L, n, t, q1, wd, wh, aU, aA, aB, aC, aD, aE, aAA, aBB, aDA, aCB, aSP, aLE, aRI, x2, z2, x3, z3, aSC, aPT, aRS, aAN, rfl, hLW, hDW, hDV1⟩⟩)
    have hw : w.toInt < 0 ∨ 3 < w.toInt := by
      have a0 := lv_neT h0 (a := 0) (by decide)
      have a1 := lv_neT h1 (a := 1) (by decide)
      have a2 := lv_neT h2 (a := 2) (by decide)
      have a3 := lv_neT h3 (a := 3) (by decide)
      omega
    refine lv_tableOut (tgt := 75) hx hb dX2_told_10 hw (by decide) ?_
    refine lv_lconst (v := 0) hx hb dX2_told_75 (by decide) ?_
    exact z_lret hx hb hr hlocks dX2_told_76 hK hP hD hS (⟨by rw [hT, if_neg h0, if_neg h1, if_neg h2, if_neg h3], ⟨ol, hf, L, n, t, q, wd, wh, aU, aA, aB, aC, aD, aE, aAA, aBB, aDA, aCB, aSP, aLE, aRI, x2, z2, x3, z3, aSC, aPT, aRS, aAN, rfl, hLW, hDW, hDV⟩⟩)
  · have hck : ¬ ∃ j : Nat, j < 4 ∧ k = nI j := by
      rcases hz with ⟨h, -⟩ | ⟨-, h⟩
      · rw [h] at c4; exact absurd c4 (by decide)
      · exact h
    refine lv_lconst (v := 0) hx hb dX2_told_7 (by decide) ?_
    exact z_lret hx hb hr hlocks dX2_told_8 hK hP hD hS (⟨by unfold aTold; rw [if_neg (fun h => by rw [isL_f hck] at h; exact absurd h (by decide))], ⟨ol, hf, L, n, t, q, wd, wh, aU, aA, aB, aC, aD, aE, aAA, aBB, aDA, aCB, aSP, aLE, aRI, x2, z2, x3, z3, aSC, aPT, aRS, aAN, rfl, hLW, hDW, hDV⟩⟩)
set_option maxRecDepth 100000 in
set_option maxHeartbeats 4000000 in
theorem C_count (l : Launch) (D : va_G) (cA : ClassId) (tys : List (ClassId × FieldType)) (od ph st : Nat) (rs : Int32) (sc pt : Nat → Int64) (ws : va_W) (hCI : CI cA od ph st rs sc pt ws) (w : Int32) : zCi l D ((cA, .long) :: tys) yX2_count wsX2_count ({ frames := 0, cells := 0, slots := 0, locals := 0 }) [.ref od, .int w] (ws) (fun r u => r = aCount ph st rs w ∧ CI cA od ph st rs sc pt u) := by
  obtain ⟨ol, hf, L, n, t, q, wd, wh, aU, aA, aB, aC, aD, aE, aAA, aBB, aDA, aCB, aSP, aLE, aRI, x2, z2, x3, z3, aSC, aPT, aRS, aAN, rfl, hLW, hDW, hDV⟩ := hCI
  obtain ⟨v_sc, v_pt, v_lad, v_rs, v_ph, v_st, v_2⟩ := id hDV
  refine z_met (fun A => va_Qi (fun r u => r = aCount ph st rs w ∧ CI cA od ph st rs sc pt u) (zB D ((cA, .long) :: tys) A) A) (by decide) rfl (Nat.le_of_ble_eq_true rfl) ?_
  intro p e s m below meth c hx hb hr hml hts hown hlocks hname A hA hP hK hD hS ls hl
  have hown : s.vm.findClass RX2 = some m.cls := hown
  have hl : lv_has ls 2 [(0, .ref od), (1, .int w)] := hl
  obtain ⟨⟨m_wd, m_wh, m_aU, m_aA, m_aB, m_aC, m_aD, m_aE, m_aAA, m_aBB, m_aDA, m_aCB, m_aSP, m_aLE, m_aRI, m_x2, m_z2, m_x3, m_z3⟩, ⟨t_wd, t_wh, t_aU, t_aA, t_aB, t_aC, t_aD, t_aE, t_aAA, t_aBB, t_aDA, t_aCB, t_aSP, t_aLE, t_aRI, t_x2, t_z2, t_x3, t_z3⟩, ⟨d_0, d_1, d_2, d_3, d_4, d_5⟩⟩ := id hLW
  obtain ⟨⟨m_aSC, m_aPT, m_aRS, m_aAN⟩, ⟨t_aSC, t_aPT, t_aRS, t_aAN⟩⟩ := id hDW
  refine lv_iload_n hx hb dX2_count_0 rfl (lv_at hl 1 rfl) ?_
  by_cases h0 : w = 0
  · subst h0
    refine lv_lookup (off := 27) (tgt := 28) hx hb dX2_count_1 (by decide) (by decide) (by decide) ?_
    refine lv_aload_n hx hb dX2_count_28 rfl (lv_at hl 0 rfl) ?_
    refine va_get (D := D) (ci := 2) (v := .int (nI ph)) (C := RX2) (T := TX2) (N := 8) hx hb hts (by decide +kernel) hown hK hP 0 rfl rfl 5 (by decide) (hts (.fieldLink RX2 29 "LadderDesk" "phaseNow" "I") (by decide +kernel)) (fun _ h9 => h9) rfl dX2_count_29 ?_
    refine lv_if_ne (tgt := 39) hx hb dX2_count_32 (by decide) (fun c32 => ?_) (fun c32 => ?_)
    · have hc : ¬ ph = 0 := fun e => c32 (by rw [e]; rfl)
      refine lv_aload_n hx hb dX2_count_39 rfl (lv_at hl 0 rfl) ?_
      refine va_get (D := D) (ci := 2) (v := .int (nI st)) (C := RX2) (T := TX2) (N := 8) hx hb hts (by decide +kernel) hown hK hP 0 rfl rfl 6 (by decide) (hts (.fieldLink RX2 33 "LadderDesk" "stepsMade" "I") (by decide +kernel)) (fun _ h9 => h9) rfl dX2_count_40 ?_
      exact z_iret hx hb hr hlocks dX2_count_43 hK hP hD hS (⟨by unfold aCount; rw [if_pos rfl, if_neg hc], ⟨ol, hf, L, n, t, q, wd, wh, aU, aA, aB, aC, aD, aE, aAA, aBB, aDA, aCB, aSP, aLE, aRI, x2, z2, x3, z3, aSC, aPT, aRS, aAN, rfl, hLW, hDW, hDV⟩⟩)
    · have hc : ph = 0 := (nI_eq (by omega) (by omega)).mp c32
      refine lv_iconst (v := nI 0) hx hb dX2_count_35 (by decide) ?_
      refine lv_goto (tgt := 43) hx hb dX2_count_36 (by decide) ?_
      exact z_iret hx hb hr hlocks dX2_count_43 hK hP hD hS (⟨by unfold aCount; rw [if_pos rfl, if_pos hc]; rfl, ⟨ol, hf, L, n, t, q, wd, wh, aU, aA, aB, aC, aD, aE, aAA, aBB, aDA, aCB, aSP, aLE, aRI, x2, z2, x3, z3, aSC, aPT, aRS, aAN, rfl, hLW, hDW, hDV⟩⟩)
  by_cases h1 : w = 1
  · subst h1
    refine lv_lookup (off := 43) (tgt := 44) hx hb dX2_count_1 (by decide) (by decide) (by decide) ?_
    refine lv_aload_n hx hb dX2_count_44 rfl (lv_at hl 0 rfl) ?_
    refine va_get (D := D) (ci := 2) (v := .int rs) (C := RX2) (T := TX2) (N := 8) hx hb hts (by decide +kernel) hown hK hP 0 rfl rfl 7 (by decide) (hts (.fieldLink RX2 36 "LadderDesk" "resultsHad" "I") (by decide +kernel)) (fun _ h9 => h9) rfl dX2_count_45 ?_
    exact z_iret hx hb hr hlocks dX2_count_48 hK hP hD hS (⟨rfl, ⟨ol, hf, L, n, t, q, wd, wh, aU, aA, aB, aC, aD, aE, aAA, aBB, aDA, aCB, aSP, aLE, aRI, x2, z2, x3, z3, aSC, aPT, aRS, aAN, rfl, hLW, hDW, hDV⟩⟩)
  refine lv_lookup (off := 48) (tgt := 49) hx hb dX2_count_1 (by decide) (by show Op.lookupswitch.offset [(0, 27), (1, 43)] 48 w.toInt = 48; rw [lv_osw h0 (by decide), lv_osw h1 (by decide)]; rfl) (by decide) ?_
  refine lv_iconst (v := (-1)) hx hb dX2_count_49 (by decide) ?_
  exact z_iret hx hb hr hlocks dX2_count_50 hK hP hD hS (⟨by unfold aCount; rw [if_neg h0, if_neg h1], ⟨ol, hf, L, n, t, q, wd, wh, aU, aA, aB, aC, aD, aE, aAA, aBB, aDA, aCB, aSP, aLE, aRI, x2, z2, x3, z3, aSC, aPT, aRS, aAN, rfl, hLW, hDW, hDV⟩⟩)
set_option maxRecDepth 100000 in
set_option maxHeartbeats 4000000 in
theorem C_check (l : Launch) (D : va_G) (cA : ClassId) (tys : List (ClassId × FieldType)) (od ph st : Nat) (rs : Int32) (sc pt : Nat → Int64) (ws : va_W) (hCI : CI cA od ph st rs sc pt ws)  : zCi l D ((cA, .long) :: tys) yX2_check wsX2_check ({ frames := 4, cells := 0, slots := 0, locals := 95 }) [.ref od] (ws) (fun r u => r = aCheck ph sc pt ∧ CI cA od ph st rs sc pt u) := by
  obtain ⟨ol, hf, L, n, t, q, wd, wh, aU, aA, aB, aC, aD, aE, aAA, aBB, aDA, aCB, aSP, aLE, aRI, x2, z2, x3, z3, aSC, aPT, aRS, aAN, rfl, hLW, hDW, hDV⟩ := hCI
  obtain ⟨v_sc, v_pt, v_lad, v_rs, v_ph, v_st, v_2⟩ := id hDV
  refine z_met (fun A => va_Qi (fun r u => r = aCheck ph sc pt ∧ CI cA od ph st rs sc pt u) (zB D ((cA, .long) :: tys) A) A) (by decide) rfl (Nat.le_of_ble_eq_true rfl) ?_
  intro p e s m below meth c hx hb hr hml hts hown hlocks hname A hA hP hK hD hS ls hl
  have hown : s.vm.findClass RX2 = some m.cls := hown
  have hl : lv_has ls 1 [(0, .ref od)] := hl
  obtain ⟨⟨m_wd, m_wh, m_aU, m_aA, m_aB, m_aC, m_aD, m_aE, m_aAA, m_aBB, m_aDA, m_aCB, m_aSP, m_aLE, m_aRI, m_x2, m_z2, m_x3, m_z3⟩, ⟨t_wd, t_wh, t_aU, t_aA, t_aB, t_aC, t_aD, t_aE, t_aAA, t_aBB, t_aDA, t_aCB, t_aSP, t_aLE, t_aRI, t_x2, t_z2, t_x3, t_z3⟩, ⟨d_0, d_1, d_2, d_3, d_4, d_5⟩⟩ := id hLW
  obtain ⟨⟨m_aSC, m_aPT, m_aRS, m_aAN⟩, ⟨t_aSC, t_aPT, t_aRS, t_aAN⟩⟩ := id hDW
  refine lv_aload_n hx hb dX2_check_0 rfl (lv_at hl 0 rfl) ?_
  refine va_get (D := D) (ci := 2) (v := .int (nI ph)) (C := RX2) (T := TX2) (N := 8) hx hb hts (by decide +kernel) hown hK hP 0 rfl rfl 5 (by decide) (hts (.fieldLink RX2 29 "LadderDesk" "phaseNow" "I") (by decide +kernel)) (fun _ h9 => h9) rfl dX2_check_1 ?_
  refine lv_iconst (v := nI 2) hx hb dX2_check_4 (by decide) ?_
  refine lv_icmp_eq (tgt := 10) hx hb dX2_check_5 (by decide) (fun c5 => ?_) (fun c5 => ?_)
  · have hc : ph = 2 := (nI_eq (by omega) (by omega)).mp c5
    subst hc
    have h255 := v_2 rfl
    subst h255
    obtain ⟨hU, hX2, hZ2, hX3, hZ3⟩ := v_lad (by decide)
    obtain ⟨ix2, iz2, -, -⟩ := lad_in sc pt 255
    refine lv_aload_n hx hb dX2_check_10 rfl (lv_at hl 0 rfl) ?_
    refine va_get (D := D) (ci := 2) (v := .ref ol) (C := RX2) (T := TX2) (N := 8) hx hb hts (by decide +kernel) hown hK hP 0 rfl rfl 4 (by decide) (hts (.fieldLink RX2 25 "LadderDesk" "ladder" "LLadderDesk$Ladder;") (by decide +kernel)) (fun _ h9 => h9) rfl dX2_check_11 ?_
    refine lv_aload_n hx hb dX2_check_14 rfl (lv_at hl 0 rfl) ?_
    refine va_get (D := D) (ci := 2) (v := .ref aRS) (C := RX2) (T := TX2) (N := 8) hx hb hts (by decide +kernel) hown hK hP 0 rfl rfl 2 (by decide) (hts (.fieldLink RX2 16 "LadderDesk" "result" "[J") (by decide +kernel)) (fun _ h9 => h9) rfl dX2_check_15 ?_
    refine z_calli (va_runV (As := [.ref aRS]) (rest := []) ⟨hx, hb, hml, hown, hts⟩ (c_agreesWith l D cA tys (od, .inr (2, [.ref aSC, .ref aPT, .ref aRS, .ref aAN, .ref ol, .int (nI 2), .int (nI 255), .int rs])) ol hf L n t q wd wh aU aA aB aC aD aE aAA aBB aDA aCB aSP aLE aRI x2 z2 x3 z3 hLW aRS m_aRS (by omega) (by rw [v_rs rfl]; exact res_lt sc pt) _ _ hX2 hZ2 ix2 iz2 _) (cwV 1 hts gX2_check_X1_agreesWith rfl rfl rfl (by decide +kernel) ⟨Nat.le_of_ble_eq_true rfl, Nat.le_of_ble_eq_true rfl⟩) (z_preV _ hK hP hD (ci := 1) (q0 := 1) rfl rfl) rfl rfl hl.1 rfl (lv_room (Nat.le_of_ble_eq_true rfl)) dX2_check_18 ⟨Nat.le_of_ble_eq_true rfl, Nat.le_of_ble_eq_true rfl⟩) hD hS hA (fun r18 u H locs hu hP hD hS => ?_)
    obtain ⟨⟨q1, k1, rfl⟩, hr18⟩ := hu
    rw [v_rs rfl] at hr18
    have hA18 : aCheck 2 sc pt = r18 := by rw [hr18]; unfold aCheck; rw [if_pos rfl]
    have h01 : r18 = 1 ∨ r18 = 0 := by
      rw [hr18]
      repeat' split
      all_goals first | exact Or.inl rfl | exact Or.inr rfl
    have hDV1 : DV 2 255 sc pt q1 aU x2 z2 x3 z3 aSC aPT aRS := DV_kp hDV (k1 aSC (by omega)) (k1 aPT (by omega)) (k1 aU (by omega)) (k1 x2 (by omega)) (k1 z2 (by omega)) (k1 x3 (by omega)) (k1 z3 (by omega)) (k1 aRS (by omega))
    refine lv_if_eq (tgt := 28) hx hb dX2_check_21 (by decide) (fun c21 => ?_) (fun c21 => ?_)
    · have hz : r18 = 0 := c21
      refine lv_iconst (v := nI 0) hx hb dX2_check_28 (by decide) ?_
      exact z_iret hx hb hr hlocks dX2_check_29 hK hP hD hS (⟨by rw [hA18, hz]; rfl, ⟨ol, hf, L, n, t, q1, wd, wh, aU, aA, aB, aC, aD, aE, aAA, aBB, aDA, aCB, aSP, aLE, aRI, x2, z2, x3, z3, aSC, aPT, aRS, aAN, rfl, hLW, hDW, hDV1⟩⟩)
    · have hz : r18 = 1 := h01.elim id (fun h => absurd h c21)
      refine lv_iconst (v := nI 1) hx hb dX2_check_24 (by decide) ?_
      refine lv_goto (tgt := 29) hx hb dX2_check_25 (by decide) ?_
      exact z_iret hx hb hr hlocks dX2_check_29 hK hP hD hS (⟨by rw [hA18, hz]; rfl, ⟨ol, hf, L, n, t, q1, wd, wh, aU, aA, aB, aC, aD, aE, aAA, aBB, aDA, aCB, aSP, aLE, aRI, x2, z2, x3, z3, aSC, aPT, aRS, aAN, rfl, hLW, hDW, hDV1⟩⟩)
  · have hc : ¬ ph = 2 := fun e => c5 (by rw [e])
    refine lv_iconst (v := nI 1) hx hb dX2_check_8 (by decide) ?_
    exact z_iret hx hb hr hlocks dX2_check_9 hK hP hD hS (⟨by unfold aCheck; rw [if_neg hc]; rfl, ⟨ol, hf, L, n, t, q, wd, wh, aU, aA, aB, aC, aD, aE, aAA, aBB, aDA, aCB, aSP, aLE, aRI, x2, z2, x3, z3, aSC, aPT, aRS, aAN, rfl, hLW, hDW, hDV⟩⟩)
end
section
/-! digits of 16 bits: the reference's numbers -/
abbrev cB : Int := 65536
theorem ms16 (a : Int64) : (a >>> ((nI 16).toInt64 &&& 63)).toInt = a.toInt / 65536 := tl_shr a (nI 16) 16 (by decide)
theorem ms15 (a : Int64) : (a >>> ((nI 15).toInt64 &&& 63)).toInt = a.toInt / 32768 := tl_shr a (nI 15) 15 (by decide)
def pD (k : Nat) : Int := if k = 0 then 65517 else if k = 15 then 32767 else 65535
theorem pD_sum : sv cB pD 16 = pP := by decide
theorem pD_in (k : Nat) : 0 ≤ pD k ∧ pD k < 65536 := by
  unfold pD
  repeat' split
  all_goals omega
theorem C16 : (cB : Int) ^ 16 = 115792089237316195423570985008687907853269984665640564039457584007913129639936 := by decide
theorem sv16 (f : Nat → Int) : sv cB f 16 = sv cB f 15 + f 15 * 1766847064778384329583297500742918515827483896875618958121606201292619776 := by
  show sv cB f 15 + f 15 * cB ^ 15 = _
  rw [show (cB : Int) ^ 15 = 1766847064778384329583297500742918515827483896875618958121606201292619776 from by decide]
theorem C15 : (cB : Int) ^ 15 = 1766847064778384329583297500742918515827483896875618958121606201292619776 := by decide
/-- every place at most c: the sum at most c times that of ones -/
theorem sv_le {B c : Int} {f : Nat → Int} (hB : 0 ≤ B) : ∀ {n : Nat}, (∀ j, j < n → f j ≤ c) → sv B f n ≤ c * sv B (fun _ => 1) n := by
  intro n
  induction n with
  | zero => intro _; show (0 : Int) ≤ c * 0; omega
  | succ n ih =>
    intro h
    show sv B f n + f n * B ^ n ≤ c * (sv B (fun _ => 1) n + 1 * B ^ n)
    have h1 := ih (fun j hj => h j (by omega))
    have h2 := Int.mul_le_mul_of_nonneg_right (h n (by omega)) (show 0 ≤ B ^ n from Int.pow_nonneg hB)
    rw [Int.mul_add, Int.one_mul]
    omega
/-! carry over sixteen -/
def Jcar (f g : Nat → Int64) (i : Nat) (o : Int64) : Prop := (∀ j, j < i → 0 ≤ fI g j ∧ fI g j < cB) ∧ (∀ j, i ≤ j → g j = f j) ∧ 0 ≤ o.toInt ∧ o.toInt < 268435456 ∧ sv cB (fI g) i + o.toInt * cB ^ i = sv cB (fI f) i
theorem Jcar_0 (f : Nat → Int64) : Jcar f f 0 0 := ⟨fun j h => by omega, fun _ _ => rfl, by decide, by decide, by simp [sv]⟩
theorem Jcar_s {f g : Nat → Int64} {i : Nat} {o v r o' : Int64} (h : Jcar f g i o) (hf : 0 ≤ fI f i ∧ fI f i < 8796093022208) (hv : v = g i + o) (hr : r = v &&& 65535) (ho : o' = v >>> ((nI 16).toInt64 &&& 63)) : Jcar f (vp_updL g i r) (i + 1) o' := by
  obtain ⟨h1, h2, h3, h4, h5⟩ := h
  have hg : (g i).toInt = fI f i := by rw [h2 i (Nat.le_refl i)]; rfl
  have hvi : v.toInt = fI f i + o.toInt := by rw [hv, tl_add (by rw [hg]; omega) (by rw [hg]; omega), hg]
  have hri : r.toInt = v.toInt % 65536 := by rw [hr]; exact tl_m16 v
  have hoi : o'.toInt = v.toInt / 65536 := by rw [ho]; exact ms16 v
  refine ⟨fun j hj => ?_, fun j hj => ?_, by omega, by omega, ?_⟩
  · by_cases e : j = i
    · subst e; rw [fI_us, hri]; exact ⟨by omega, by show _ < (65536 : Int); omega⟩
    · rw [fI_un e]; exact h1 j (by omega)
  · show (if j = i then r else g j) = f j
    rw [if_neg (by omega)]
    exact h2 j (by omega)
  · show sv cB (fI (vp_updL g i r)) i + fI (vp_updL g i r) i * cB ^ i + o'.toInt * cB ^ (i + 1) = sv cB (fI f) i + fI f i * cB ^ i
    rw [fI_us, fI_upd, sv_up (Nat.le_refl i), ← h5, Int.pow_succ]
    have hd : v.toInt = 65536 * o'.toInt + r.toInt := by omega
    have : fI f i = 65536 * o'.toInt + r.toInt - o.toInt := by omega
    rw [this]
    show _ + _ + o'.toInt * (cB ^ i * 65536) = _
    generalize (cB : Int) ^ i = t
    grind
/-- one turn of store -/
def TurnP (f h : Nat → Int64) : Prop := ∃ a : Int, 0 ≤ a ∧ a < 1073741824 ∧ (∀ k, 1 ≤ k → k < 16 → 0 ≤ fI h k ∧ fI h k < 65536) ∧ 0 ≤ fI h 0 ∧ fI h 0 < 65536 + 19 * a ∧ sv cB (fI h) 16 = sv cB (fI f) 16 - a * 57896044618658097711785492504343953926634992332820282019728792003956564819968 + 19 * a ∧ 0 ≤ sv cB (fI f) 16 - a * 57896044618658097711785492504343953926634992332820282019728792003956564819968 ∧ sv cB (fI f) 16 - a * 57896044618658097711785492504343953926634992332820282019728792003956564819968 < 57896044618658097711785492504343953926634992332820282019728792003956564819968
theorem Jcar_t {f g : Nat → Int64} {o a2 b ab z c d : Int64} (h : Jcar f g 16 o) (h2 : a2 = o * 2) (hb : b = g 15 >>> ((nI 15).toInt64 &&& 63)) (hab : ab = a2 + b) (hz : z = g 15 &&& 32767) (hc : c = 19 * ab) (hd : d = g 0 + c) : TurnP f (vp_updL (vp_updL g 15 z) 0 d) := by
  obtain ⟨h1, -, h3, h4, h5⟩ := h
  have hB : (cB : Int) = 65536 := rfl
  have e2 : (2 : Int64).toInt = 2 := by decide
  have e19 : (19 : Int64).toInt = 19 := by decide
  have g15 := h1 15 (by omega)
  have g0 := h1 0 (by omega)
  have ga : (g 15).toInt = fI g 15 := rfl
  have gb : (g 0).toInt = fI g 0 := rfl
  have i2 : a2.toInt = o.toInt * 2 := by rw [h2, tl_mul (by rw [e2]; omega) (by rw [e2]; omega), e2]
  have ib : b.toInt = fI g 15 / 32768 := by rw [hb]; exact ms15 _
  have iab : ab.toInt = o.toInt * 2 + fI g 15 / 32768 := by rw [hab, tl_add (by omega) (by omega), i2, ib]
  have iz : z.toInt = fI g 15 % 32768 := by rw [hz]; exact tl_m15 _
  have ic : c.toInt = 19 * ab.toInt := by rw [hc, tl_mul (by rw [e19]; omega) (by rw [e19]; omega), e19]
  have id : d.toInt = fI g 0 + 19 * ab.toInt := by rw [hd, tl_add (by omega) (by omega), ic, gb]
  have hn := sv_nn (B := cB) (f := fI g) (by decide) (n := 15) (fun j hj => (h1 j (by omega)).1)
  have hl := sv_lt (B := cB) (f := fI g) (by decide) (n := 15) (fun j hj => h1 j (by omega))
  rw [C15] at hl
  have hv : sv cB (fI f) 16 = sv cB (fI g) 15 + fI g 15 * 1766847064778384329583297500742918515827483896875618958121606201292619776 + o.toInt * 115792089237316195423570985008687907853269984665640564039457584007913129639936 := by
    rw [← h5, sv16, C16]
  refine ⟨ab.toInt, by omega, by omega, fun k k1 k2 => ?_, ?_, ?_, ?_, ?_, ?_⟩
  · rw [fI_un (by omega)]
    by_cases e : k = 15
    · subst e; rw [fI_us, iz]; omega
    · rw [fI_un e]; exact h1 k (by omega)
  · rw [fI_us, id]; omega
  · rw [fI_us, id]; omega
  · rw [fI_upd, sv_upd (by omega), fI_un (by omega), fI_upd, sv_upd (by omega), id, iz, Int.pow_zero, C15, show sv cB (fI g) 16 = sv cB (fI g) 15 + fI g 15 * 1766847064778384329583297500742918515827483896875618958121606201292619776 from sv16 _, hv, iab]
    have hq := Int.emod_add_mul_ediv (fI g 15) 32768
    generalize fI g 15 / 32768 = q at *
    generalize fI g 15 % 32768 = r at *
    omega
  · rw [hv, iab]; omega
  · rw [hv, iab]; omega
theorem turn_1 {f h : Nat → Int64} (H : TurnP f h) : (∀ k, k < 16 → 0 ≤ fI h k ∧ fI h k < 8796093022208) ∧ cg (sv cB (fI h) 16) (sv cB (fI f) 16) ∧ sv cB (fI h) 16 < 57896044618658097711785492504343953926634992332820282019728792003956564819968 + 20401094656 := by
  obtain ⟨a, a0, a1, h1, h2, h3, h4, h5, h6⟩ := H
  refine ⟨fun k hk => ?_, ⟨-a, by unfold pP; omega⟩, by omega⟩
  by_cases e : k = 0
  · subst e; omega
  · have := h1 k (by omega) hk; omega
theorem turn_2 {f h : Nat → Int64} (H : TurnP f h) (hf : sv cB (fI f) 16 < 57896044618658097711785492504343953926634992332820282019728792003956564819968 + 20401094656) : sv cB (fI h) 16 < 57896044618658097711785492504343953926634992332820282019728792003956564819968 := by
  obtain ⟨a, a0, a1, h1, h2, h3, h4, h5, h6⟩ := H
  have : a ≤ 1 := by omega
  rcases (show a = 0 ∨ a = 1 by omega) with rfl | rfl <;> omega
/-- behind i turns -/
def Jt (f g : Nat → Int64) (i : Nat) : Prop := (∀ k, k < 16 → 0 ≤ fI g k ∧ fI g k < 8796093022208) ∧ cg (sv cB (fI g) 16) (sv cB (fI f) 16) ∧ (1 ≤ i → sv cB (fI g) 16 < 57896044618658097711785492504343953926634992332820282019728792003956564819968 + 20401094656) ∧ (2 ≤ i → sv cB (fI g) 16 < 57896044618658097711785492504343953926634992332820282019728792003956564819968)
theorem Jt_0 {f : Nat → Int64} (h : ∀ k, k < 16 → 0 ≤ fI f k ∧ fI f k < 8796093022208) : Jt f f 0 := ⟨h, cg_refl _, fun h => by omega, fun h => by omega⟩
theorem Jt_s {f g h : Nat → Int64} {i : Nat} (H : Jt f g i) (T : TurnP g h) : Jt f h (i + 1) := by
  obtain ⟨a1, a2, a3, a4⟩ := H
  obtain ⟨b1, b2, b3⟩ := turn_1 T
  exact ⟨b1, cg_trans b2 a2, fun _ => b3, fun q => turn_2 T (a3 (by omega))⟩
theorem Jcar_e {f g : Nat → Int64} {o : Int64} (h : Jcar f g 16 o) (hf : sv cB (fI f) 16 < 57896044618658097711785492504343953926634992332820282019728792003956564819968) : (∀ k, k < 16 → 0 ≤ fI g k ∧ fI g k < cB) ∧ sv cB (fI g) 16 = sv cB (fI f) 16 := by
  obtain ⟨h1, -, h3, h4, h5⟩ := h
  have hn := sv_nn (B := cB) (f := fI g) (by decide) (n := 16) (fun j hj => (h1 j hj).1)
  rw [C16] at h5
  exact ⟨h1, by omega⟩
/-! is it P or more -/
theorem great_gt {s : Nat → Int} {k : Nat} (hs : ∀ j, j < 16 → 0 ≤ s j ∧ s j < cB) (hk : k < 16) (he : ∀ j, k < j → j < 16 → s j = pD j) (hgt : pD k < s k) : pP < sv cB s 16 := by
  have hp := pD_sum
  obtain ⟨r, hr⟩ : ∃ r, 16 = (k + 1) + r := ⟨15 - k, by omega⟩
  rw [hr, sv_split] at hp ⊢
  rw [sv_congr (f := fun j => s (k + 1 + j)) (g := fun j => pD (k + 1 + j)) (fun j hj => he _ (by omega) (by omega)), ← hp]
  have a1 : sv cB pD k < cB ^ k := sv_lt (by decide) (fun j _ => pD_in j)
  have a2 : 0 ≤ sv cB s k := sv_nn (by decide) (fun j hj => (hs j (by omega)).1)
  have a3 := Int.mul_le_mul_of_nonneg_right (show pD k + 1 ≤ s k by omega) (show (0 : Int) ≤ cB ^ k from Int.pow_nonneg (by decide))
  rw [Int.add_mul, Int.one_mul] at a3
  show sv cB pD k + pD k * cB ^ k + _ < sv cB s k + s k * cB ^ k + _
  omega
theorem great_lt {s : Nat → Int} {k : Nat} (hs : ∀ j, j < 16 → 0 ≤ s j ∧ s j < cB) (hk : k < 16) (he : ∀ j, k < j → j < 16 → s j = pD j) (hlt : s k < pD k) : sv cB s 16 < pP := by
  have hp := pD_sum
  obtain ⟨r, hr⟩ : ∃ r, 16 = (k + 1) + r := ⟨15 - k, by omega⟩
  rw [hr, sv_split] at hp ⊢
  rw [sv_congr (f := fun j => s (k + 1 + j)) (g := fun j => pD (k + 1 + j)) (fun j hj => he _ (by omega) (by omega)), ← hp]
  have a1 : sv cB s k < cB ^ k := sv_lt (by decide) (fun j hj => hs j (by omega))
  have a2 : 0 ≤ sv cB pD k := sv_nn (by decide) (fun j _ => (pD_in j).1)
  have a3 := Int.mul_le_mul_of_nonneg_right (show s k + 1 ≤ pD k by omega) (show (0 : Int) ≤ cB ^ k from Int.pow_nonneg (by decide))
  rw [Int.add_mul, Int.one_mul] at a3
  show sv cB s k + s k * cB ^ k + _ < sv cB pD k + pD k * cB ^ k + _
  omega
theorem great_eq {s : Nat → Int} (he : ∀ j, j < 16 → s j = pD j) : sv cB s 16 = pP := by rw [sv_congr he, pD_sum]
/-! digits by number -/
def dd (dg : Nat → Int32) (a k : Nat) : Int := (dg (16 * a + k)).toInt
def dh (dg : Nat → Int32) (a : Nat) (x : Int) : Prop := (∀ k, k < 16 → 0 ≤ dd dg a k ∧ dd dg a k < cB) ∧ sv cB (dd dg a) 16 = x ∧ x < pP
theorem dh_in {dg : Nat → Int32} {a : Nat} {x : Int} (h : dh dg a x) : 0 ≤ x ∧ x < pP := ⟨h.2.1 ▸ sv_nn (by decide) (fun j hj => (h.1 j hj).1), h.2.2⟩
theorem dh_kp {dg dg' : Nat → Int32} {a to : Nat} {x : Int} (h : dh dg a x) (hne : a ≠ to) (hk : ∀ i, i / 16 ≠ to → dg' i = dg i) : dh dg' a x := by
  have e : ∀ k, k < 16 → dd dg' a k = dd dg a k := fun k hk2 => by unfold dd; rw [hk _ (by omega)]
  refine ⟨fun k hk2 => by rw [e k hk2]; exact h.1 k hk2, by rw [sv_congr e]; exact h.2.1, h.2.2⟩
theorem i32_of {z : Int64} (h0 : 0 ≤ z.toInt) (h1 : z.toInt < 65536) : z.toInt32.toInt = z.toInt := by
  rw [Int64.toInt_toInt32]
  exact Int.bmod_eq_of_le (by omega) (by omega)
/-- the last loop of store: digits of what is left -/
def Jst (s : Nat → Int) (gr : Bool) (dg dg' : Nat → Int32) (to i : Nat) (o : Int64) : Prop := (∀ j, j < i → 0 ≤ dd dg' to j ∧ dd dg' to j < cB) ∧ (∀ j, j / 16 ≠ to → dg' j = dg j) ∧ -1 ≤ o.toInt ∧ o.toInt ≤ 0 ∧ sv cB (dd dg' to) i + o.toInt * cB ^ i = sv cB s i - (if gr then sv cB pD i else 0)
theorem Jst_0 (s : Nat → Int) (gr : Bool) (dg : Nat → Int32) (to : Nat) : Jst s gr dg dg to 0 0 := ⟨fun j h => by omega, fun _ _ => rfl, by decide, by decide, by cases gr <;> simp [sv]⟩
theorem upd_s {f : Nat → Int32} {k : Nat} {x : Int32} : upd f k x k = x := pk_us
theorem Jst_s {s : Nat → Int} {gr : Bool} {dg dg' : Nat → Int32} {to i : Nat} {o x y z lf r o' : Int64} {c : Int32} (h : Jst s gr dg dg' to i o) (hi : i < 16) (hs : 0 ≤ s i ∧ s i < cB) (hx : x.toInt = s i) (hy : y.toInt = if gr then pD i else 0) (hz : z = x - y) (hl : lf = z + o) (hr : r = lf &&& 65535) (hc : c = r.toInt32) (ho : o' = lf >>> ((nI 16).toInt64 &&& 63)) : Jst s gr dg (upd dg' (16 * to + i) c) to (i + 1) o' := by
  obtain ⟨h1, h2, h3, h4, h5⟩ := h
  have hB : (cB : Int) = 65536 := rfl
  have hp := pD_in i
  have hy0 : 0 ≤ y.toInt ∧ y.toInt < 65536 := by rw [hy]; split <;> omega
  have iz : z.toInt = s i - y.toInt := by rw [hz, tl_sub (by omega) (by omega), hx]
  have il : lf.toInt = s i - y.toInt + o.toInt := by rw [hl, tl_add (by omega) (by omega), iz]
  have ir : r.toInt = lf.toInt % 65536 := by rw [hr]; exact tl_m16 _
  have io : o'.toInt = lf.toInt / 65536 := by rw [ho]; exact ms16 _
  have ic : c.toInt = lf.toInt % 65536 := by rw [hc, i32_of (by omega) (by omega), ir]
  have dS : dd (upd dg' (16 * to + i) c) to i = c.toInt := by unfold dd; rw [pk_us]
  have dN : ∀ j, j ≠ i → dd (upd dg' (16 * to + i) c) to j = dd dg' to j := fun j hj => by unfold dd; rw [pk_un (by omega)]
  refine ⟨fun j hj => ?_, fun j hj => ?_, by omega, by omega, ?_⟩
  · by_cases e : j = i
    · subst e; rw [dS, ic]; omega
    · rw [dN j e]; exact h1 j (by omega)
  · rw [pk_un (by omega)]; exact h2 j hj
  · show sv cB (dd (upd dg' (16 * to + i) c) to) i + dd (upd dg' (16 * to + i) c) to i * cB ^ i + o'.toInt * cB ^ (i + 1) = sv cB s i + s i * cB ^ i - (if gr then sv cB pD i + pD i * cB ^ i else 0)
    rw [dS, sv_congr (g := dd dg' to) (fun j hj => dN j (by omega)), Int.pow_succ]
    have hd : lf.toInt = 65536 * o'.toInt + c.toInt := by omega
    have e : s i = 65536 * o'.toInt + c.toInt - o.toInt + y.toInt := by omega
    rw [e]
    show _ + _ + o'.toInt * (cB ^ i * 65536) = _
    generalize (cB : Int) ^ i = t at *
    cases gr with
    | true =>
      simp only [if_true] at h5 hy ⊢
      rw [hy]
      grind
    | false =>
      simp only [Bool.false_eq_true, if_false] at h5 hy ⊢
      rw [hy]
      grind
theorem Jst_e {s : Nat → Int} {gr : Bool} {dg dg' : Nat → Int32} {to : Nat} {o : Int64} (h : Jst s gr dg dg' to 16 o) (hs0 : 0 ≤ sv cB s 16) (hs1 : sv cB s 16 < 57896044618658097711785492504343953926634992332820282019728792003956564819968) (hg : gr = true ↔ pP ≤ sv cB s 16) : dh dg' to (sv cB s 16 % pP) := by
  obtain ⟨h1, h2, h3, h4, h5⟩ := h
  have hn := sv_nn (B := cB) (f := dd dg' to) (by decide) (n := 16) (fun j hj => (h1 j hj).1)
  have hl := sv_lt (B := cB) (f := dd dg' to) (by decide) (n := 16) h1
  rw [C16] at h5 hl
  rw [pD_sum] at h5
  have hpv : pP = 57896044618658097711785492504343953926634992332820282019728792003956564819949 := rfl
  refine ⟨h1, ?_, (mod_in _).2⟩
  cases gr with
  | true =>
    have hge := hg.mp rfl
    simp only [if_true] at h5
    have e : sv cB s 16 % pP = sv cB s 16 - pP := by rw [← Int.sub_emod_right, Int.emod_eq_of_lt (by omega) (by omega)]
    rw [e]
    omega
  | false =>
    have hlt : sv cB s 16 < pP := by
      apply Int.lt_of_not_ge
      intro h
      exact absurd (hg.mpr h) (by decide)
    simp only [Bool.false_eq_true, if_false] at h5
    rw [Int.emod_eq_of_lt hs0 hlt]
    omega
end
section
section ZM
variable {p : Program} {l : Launch} {e : Env} {R : Room} {s : State} {m : MethodId} {args : Array Value} {below : List Frame} {meth : Method} {c : Code} {H : Heap} {locs : List Loc} {cells slots : Nat} {Q : State → Prop}
variable {cc : ByteArray} {pc : Nat} {ls : Array Slot} {rest : List Value} {D : va_G} {A : Nat → Prop} {tys : List (ClassId × FieldType)} {ws : va_W} {H0 : Heap} {cA : ClassId} {a : Nat}
theorem y_ld (hexec : p.tables.exec = Jvm.exec) (hb : c.code = cc) (hK : va_K D vwCl tys s) (hP : va_P D vwCl ws H) (q0 t0 : Nat) {N : Nat} {f : Nat → Int64} (ha : ws[q0]? = some (a, .inl (cA, N, .inr (.inl f)))) (ht : tys[t0]? = some (cA, .long)) {i : Int32} (j : Nat) (hi : i = nI j) (hj : j < N) (hN : N < 2147483648) (hdg : decode cc pc = .ok (.laload, 1))
    (kk : W p l e R s m args below meth c H locs cells slots Q (F0 m (pc + 1) ls (.long (f j) :: rest))) : W p l e R s m args below meth c H locs cells slots Q (F0 m pc ls (.int i :: .ref a :: rest)) := by
  subst hi
  refine va_lald hexec hb hK hP q0 t0 ha ht (vp_in_nI hj (by omega)) hdg ?_
  rw [nI_clamp (by omega)]
  exact kk
theorem y_ldi (hexec : p.tables.exec = Jvm.exec) (hb : c.code = cc) (hK : va_K D vwCl tys s) (hP : va_P D vwCl ws H) (q0 t0 : Nat) {N : Nat} {f : Nat → Int32} (ha : ws[q0]? = some (a, .inl (cA, N, .inl f))) (ht : tys[t0]? = some (cA, .int)) {i : Int32} (j : Nat) (hi : i = nI j) (hj : j < N) (hN : N < 2147483648) (hdg : decode cc pc = .ok (.iaload, 1))
    (kk : W p l e R s m args below meth c H locs cells slots Q (F0 m (pc + 1) ls (.int (f j) :: rest))) : W p l e R s m args below meth c H locs cells slots Q (F0 m pc ls (.int i :: .ref a :: rest)) := by
  subst hi
  refine va_iald hexec hb hK hP q0 t0 ha ht (vp_in_nI hj (by omega)) hdg ?_
  rw [nI_clamp (by omega)]
  exact kk
theorem y_st (hexec : p.tables.exec = Jvm.exec) (hb : c.code = cc) (hK : va_K D vwCl tys s) (hP : va_P D vwCl ws H) (hD : va_D A ws) (hS : va_S A H0 H locs) (q0 t0 : Nat) {N : Nat} {f : Nat → Int64} (ha : ws[q0]? = some (a, .inl (cA, N, .inr (.inl f)))) (ht : tys[t0]? = some (cA, .long)) {i : Int32} (j : Nat) (hi : i = nI j) (hj : j < N) (hN : N < 2147483648) {x : Int64} (hdg : decode cc pc = .ok (.lastore, 1))
    (kk : ∀ (H1 : Heap) (locs1 : List Loc), va_P D vwCl (ws.set q0 (a, .inl (cA, N, .inr (.inl (vp_updL f j x))))) H1 → va_D A (ws.set q0 (a, .inl (cA, N, .inr (.inl (vp_updL f j x))))) → va_S A H0 H1 locs1 → W p l e R s m args below meth c H1 locs1 cells slots Q (F0 m (pc + 1) ls rest)) : W p l e R s m args below meth c H locs cells slots Q (F0 m pc ls (.long x :: .int i :: .ref a :: rest)) := by
  subst hi
  refine va_last hexec hb hK hP hD hS q0 t0 ha ht (vp_in_nI hj (by omega)) hdg ?_
  rw [nI_clamp (by omega)]
  exact kk
theorem y_sti (hexec : p.tables.exec = Jvm.exec) (hb : c.code = cc) (hK : va_K D vwCl tys s) (hP : va_P D vwCl ws H) (hD : va_D A ws) (hS : va_S A H0 H locs) (q0 t0 : Nat) {N : Nat} {f : Nat → Int32} (ha : ws[q0]? = some (a, .inl (cA, N, .inl f))) (ht : tys[t0]? = some (cA, .int)) {i : Int32} (j : Nat) (hi : i = nI j) (hj : j < N) (hN : N < 2147483648) {x : Int32} (hdg : decode cc pc = .ok (.iastore, 1))
    (kk : ∀ (H1 : Heap) (locs1 : List Loc), va_P D vwCl (ws.set q0 (a, .inl (cA, N, .inl (upd f j x)))) H1 → va_D A (ws.set q0 (a, .inl (cA, N, .inl (upd f j x)))) → va_S A H0 H1 locs1 → W p l e R s m args below meth c H1 locs1 cells slots Q (F0 m (pc + 1) ls rest)) : W p l e R s m args below meth c H locs cells slots Q (F0 m pc ls (.int x :: .int i :: .ref a :: rest)) := by
  subst hi
  refine va_iast hexec hb hK hP hD hS q0 t0 ha ht (vp_in_nI hj (by omega)) hdg ?_
  rw [nI_clamp (by omega)]
  exact kk
end ZM
/-! differences -/
def Jsu (dg : Nat → Int32) (a b : Nat) (g : Nat → Int64) (i : Nat) (o : Int64) : Prop := (∀ j, j < i → 0 ≤ fI g j ∧ fI g j < cB) ∧ -1 ≤ o.toInt ∧ o.toInt ≤ 1 ∧ sv cB (fI g) i + o.toInt * cB ^ i = sv cB (dd dg a) i + sv cB pD i - sv cB (dd dg b) i
theorem Jsu_0 (dg : Nat → Int32) (a b : Nat) (g : Nat → Int64) : Jsu dg a b g 0 0 := ⟨fun j h => by omega, by decide, by decide, by simp [sv]⟩
theorem Jsu_s {dg : Nat → Int32} {a b i : Nat} {g : Nat → Int64} {o x1 x2 x3 x4 x5 x6 r o' : Int64} (h : Jsu dg a b g i o) (ha : 0 ≤ dd dg a i ∧ dd dg a i < cB) (hb : 0 ≤ dd dg b i ∧ dd dg b i < cB) (h1 : x1.toInt = dd dg a i) (h2 : x2.toInt = pD i) (h3 : x3 = x1 + x2) (h4 : x4.toInt = dd dg b i) (h5 : x5 = x3 - x4) (h6 : x6 = x5 + o) (hr : r = x6 &&& 65535) (ho : o' = x6 >>> ((nI 16).toInt64 &&& 63)) : Jsu dg a b (vp_updL g i r) (i + 1) o' := by
  obtain ⟨k1, k2, k3, k4⟩ := h
  have hB : (cB : Int) = 65536 := rfl
  have hp := pD_in i
  have i3 : x3.toInt = dd dg a i + pD i := by rw [h3, tl_add (by omega) (by omega), h1, h2]
  have i5 : x5.toInt = dd dg a i + pD i - dd dg b i := by rw [h5, tl_sub (by omega) (by omega), i3, h4]
  have i6 : x6.toInt = dd dg a i + pD i - dd dg b i + o.toInt := by rw [h6, tl_add (by omega) (by omega), i5]
  have ir : r.toInt = x6.toInt % 65536 := by rw [hr]; exact tl_m16 _
  have io : o'.toInt = x6.toInt / 65536 := by rw [ho]; exact ms16 _
  refine ⟨fun j hj => ?_, by omega, by omega, ?_⟩
  · by_cases e : j = i
    · subst e; rw [fI_us, ir]; omega
    · rw [fI_un e]; exact k1 j (by omega)
  · show sv cB (fI (vp_updL g i r)) i + fI (vp_updL g i r) i * cB ^ i + o'.toInt * cB ^ (i + 1) = sv cB (dd dg a) i + dd dg a i * cB ^ i + (sv cB pD i + pD i * cB ^ i) - (sv cB (dd dg b) i + dd dg b i * cB ^ i)
    rw [fI_us, fI_upd, sv_up (Nat.le_refl i), Int.pow_succ]
    have hd : x6.toInt = 65536 * o'.toInt + r.toInt := by omega
    have e : dd dg a i = 65536 * o'.toInt + r.toInt - o.toInt + dd dg b i - pD i := by omega
    rw [e]
    show _ + _ + o'.toInt * (cB ^ i * 65536) = _
    generalize (cB : Int) ^ i = t at *
    grind
theorem Jsu_e {dg : Nat → Int32} {a b : Nat} {g : Nat → Int64} {o m z : Int64} {x y : Int} (h : Jsu dg a b g 16 o) (ha : dh dg a x) (hb : dh dg b y) (hm : m = o * 65536) (hz : z = g 15 + m) : (∀ k, k < 16 → 0 ≤ fI (vp_updL g 15 z) k ∧ fI (vp_updL g 15 z) k < 8796093022208) ∧ sv cB (fI (vp_updL g 15 z)) 16 % pP = (x - y) % pP := by
  obtain ⟨k1, k2, k3, k4⟩ := h
  have hB : (cB : Int) = 65536 := rfl
  have e6 : (65536 : Int64).toInt = 65536 := by decide
  have im : m.toInt = o.toInt * 65536 := by rw [hm, tl_mul (by rw [e6]; omega) (by rw [e6]; omega), e6]
  have g15 := k1 15 (by omega)
  have gg : (g 15).toInt = fI g 15 := rfl
  have iz : z.toInt = fI g 15 + o.toInt * 65536 := by rw [hz, tl_add (by omega) (by omega), im, gg]
  have hx := dh_in ha
  have hy := dh_in hb
  rw [ha.2.1, hb.2.1, pD_sum, C16] at k4
  have hn := sv_nn (B := cB) (f := fI g) (by decide) (n := 15) (fun j hj => (k1 j (by omega)).1)
  have hl := sv_lt (B := cB) (f := fI g) (by decide) (n := 15) (fun j hj => k1 j (by omega))
  rw [C15] at hl
  have hs := sv16 (fI g)
  have hv : sv cB (fI (vp_updL g 15 z)) 16 = x + pP - y := by
    rw [fI_upd, sv_upd (by omega), C15, iz, ← k4]
    omega
  refine ⟨fun k hk => ?_, ?_⟩
  · by_cases e : k = 15
    · subst e
      rw [fI_us, iz]
      refine ⟨?_, by omega⟩
      omega
    · rw [fI_un e]
      have := k1 k hk
      omega
  · rw [hv, show x + pP - y = x - y + pP by omega, Int.add_emod_right]
/-! products -/
def Kgo (dg : Nat → Int32) (a b : Nat) (w : Nat → Int64) (i : Nat) : Prop := (∀ k, k < 32 → 0 ≤ fI w k ∧ fI w k ≤ i * 4294967296) ∧ sv cB (fI w) 32 = sv cB (dd dg a) i * sv cB (dd dg b) 16
def Kgi (dg : Nat → Int32) (a b : Nat) (w : Nat → Int64) (i j : Nat) : Prop := (∀ k, k < 32 → 0 ≤ fI w k ∧ fI w k ≤ (i + 1) * 4294967296 ∧ (i + j ≤ k → fI w k ≤ i * 4294967296)) ∧ sv cB (fI w) 32 = sv cB (dd dg a) i * sv cB (dd dg b) 16 + dd dg a i * cB ^ i * sv cB (dd dg b) j
theorem sv_0c {w : Nat → Int} : ∀ {n : Nat}, (∀ j, j < n → w j = 0) → sv cB w n = 0 := by
  intro n
  induction n with
  | zero => intro _; rfl
  | succ n ih =>
    intro h
    show sv cB w n + w n * cB ^ n = 0
    rw [ih (fun j hj => h j (by omega)), h n (by omega)]
    omega
theorem Kgo_0 {dg : Nat → Int32} {a b : Nat} {w : Nat → Int64} (hw : ∀ k, k < 32 → w k = 0) : Kgo dg a b w 0 := by
  have h0 : ∀ k, k < 32 → fI w k = 0 := fun k hk => by rw [fI_at, hw k hk]; rfl
  refine ⟨fun k hk => by rw [h0 k hk]; omega, ?_⟩
  rw [sv_0c h0]
  show 0 = 0 * _
  omega
theorem Kgi_0 {dg : Nat → Int32} {a b : Nat} {w : Nat → Int64} {i : Nat} (H : Kgo dg a b w i) : Kgi dg a b w i 0 := by
  refine ⟨fun k hk => ?_, ?_⟩
  · have := H.1 k hk; omega
  · rw [H.2]; show _ = _ + _ * 0; omega
theorem Kgi_e {dg : Nat → Int32} {a b : Nat} {w : Nat → Int64} {i : Nat} (H : Kgi dg a b w i 16) : Kgo dg a b w (i + 1) := by
  refine ⟨fun k hk => ?_, ?_⟩
  · have := H.1 k hk; omega
  · rw [H.2]
    show _ = (sv cB (dd dg a) i + dd dg a i * cB ^ i) * sv cB (dd dg b) 16
    rw [Int.add_mul]
theorem Kgi_s {dg : Nat → Int32} {a b : Nat} {w : Nat → Int64} {i j : Nat} {x1 x2 x y : Int64} (H : Kgi dg a b w i j) (hi : i < 16) (hj : j < 16) (ha : 0 ≤ dd dg a i ∧ dd dg a i < cB) (hb : 0 ≤ dd dg b j ∧ dd dg b j < cB) (h1 : x1.toInt = dd dg a i) (h2 : x2.toInt = dd dg b j) (hx : x = x1 * x2) (hy : y = w (i + j) + x) : Kgi dg a b (vp_updL w (i + j) y) i (j + 1) := by
  obtain ⟨k1, k2⟩ := H
  have hB : (cB : Int) = 65536 := rfl
  have c0 : 0 ≤ dd dg a i * dd dg b j := Int.mul_nonneg ha.1 hb.1
  have c1 : dd dg a i * dd dg b j ≤ 65536 * 65536 := Int.mul_le_mul (by omega) (by omega) hb.1 (by omega)
  have hxi : x.toInt = dd dg a i * dd dg b j := by rw [hx, tl_mul (by rw [h1, h2]; omega) (by rw [h1, h2]; omega), h1, h2]
  have k0 := k1 (i + j) (by omega)
  have k3 := k0.2.2 (by omega)
  have hwi : (w (i + j)).toInt = fI w (i + j) := rfl
  have hyi : y.toInt = fI w (i + j) + dd dg a i * dd dg b j := by
    rw [hy, tl_add (by rw [hxi]; omega) (by rw [hxi]; omega), hxi, hwi]
  refine ⟨fun k hk => ?_, ?_⟩
  · by_cases e : k = i + j
    · subst e; rw [fI_us, hyi]; omega
    · rw [fI_un e]
      have := k1 k hk
      exact ⟨this.1, this.2.1, fun q => this.2.2 (by omega)⟩
  · rw [fI_upd, sv_upd (by omega), k2, hyi]
    show _ = _ + dd dg a i * cB ^ i * (sv cB (dd dg b) j + dd dg b j * cB ^ j)
    rw [Int.pow_add]
    generalize (cB : Int) ^ i = t
    generalize (cB : Int) ^ j = t2
    grind
theorem Kgo_e {dg : Nat → Int32} {a b : Nat} {w t : Nat → Int64} {x y : Int} (H : Kgo dg a b w 16) (ha : dh dg a x) (hb : dh dg b y) (ht : ∀ j, j < 16 → t j = w j + 38 * w (16 + j)) : (∀ k, k < 16 → 0 ≤ fI t k ∧ fI t k < 8796093022208) ∧ sv cB (fI t) 16 % pP = x * y % pP := by
  obtain ⟨k1, k2⟩ := H
  have e : (38 : Int64).toInt = 38 := by decide
  have hti : ∀ j, j < 16 → fI t j = fI w j + 38 * fI w (16 + j) := fun j hj => by
    have a1 := k1 j (by omega)
    have a2 := k1 (16 + j) (by omega)
    have hm : (38 * w (16 + j)).toInt = 38 * fI w (16 + j) := by rw [tl_mul (by rw [e]; show _ ≤ 38 * fI w (16 + j); omega) (by rw [e]; show 38 * fI w (16 + j) < _; omega), e]; rfl
    rw [fI_at, ht j hj, tl_add (by rw [hm]; show _ ≤ fI w j + _; omega) (by rw [hm]; show fI w j + _ < _; omega), hm]
    rfl
  refine ⟨fun k hk => ?_, ?_⟩
  · have a1 := k1 k (by omega)
    have a2 := k1 (16 + k) (by omega)
    rw [hti k hk]
    omega
  · rw [sv_congr (g := fun j => fI w j + 38 * fI w (16 + j)) hti, sv_add, sv_mul]
    rw [ha.2.1, hb.2.1, show (32 : Nat) = 16 + 16 from rfl, sv_split, C16] at k2
    apply cg_emod
    rw [← k2]
    exact ⟨-2 * sv cB (fun j => fI w (16 + j)) 16, by unfold pP; omega⟩
/-! sums, and times a small number -/
theorem add_m {dg : Nat → Int32} {a b : Nat} {t : Nat → Int64} {x y : Int} (ha : dh dg a x) (hb : dh dg b y) (ht : ∀ j, j < 16 → fI t j = dd dg a j + dd dg b j) : (∀ k, k < 16 → 0 ≤ fI t k ∧ fI t k < 8796093022208) ∧ sv cB (fI t) 16 % pP = (x + y) % pP := by
  have hB : (cB : Int) = 65536 := rfl
  refine ⟨fun k hk => ?_, ?_⟩
  · have a1 := ha.1 k hk
    have a2 := hb.1 k hk
    rw [ht k hk]
    omega
  · rw [sv_congr (g := fun j => dd dg a j + dd dg b j) ht, sv_add, ha.2.1, hb.2.1]
theorem small_m {dg : Nat → Int32} {a : Nat} {t : Nat → Int64} {x : Int} (ha : dh dg a x) (ht : ∀ j, j < 16 → fI t j = 121665 * dd dg a j) : (∀ k, k < 16 → 0 ≤ fI t k ∧ fI t k < 8796093022208) ∧ sv cB (fI t) 16 % pP = (121665 * x) % pP := by
  have hB : (cB : Int) = 65536 := rfl
  refine ⟨fun k hk => ?_, ?_⟩
  · have a1 := ha.1 k hk
    rw [ht k hk]
    omega
  · rw [sv_congr (g := fun j => 121665 * dd dg a j) ht, sv_mul, ha.2.1]
theorem mod_mod (x : Int) : x % pP % pP = x % pP := Int.emod_emod_of_dvd x (Int.dvd_refl pP)
end
section
set_option maxRecDepth 100000 in
set_option maxHeartbeats 4000000 in
theorem c_ofP (l : Launch) (D : va_G) (tys : List (ClassId × FieldType)) (ws : va_W) (k : Nat) (hk : k < 16) : zCi l D tys yX3_ofP wsX3_ofP ({ frames := 0, cells := 0, slots := 0, locals := 0 }) [.int (nI k)] (ws) (fun r u => u = ws ∧ r.toInt = pD k) := by
  refine z_met (fun A => va_Qi (fun r u => u = ws ∧ r.toInt = pD k) (zB D tys A) A) (by decide) rfl (Nat.le_of_ble_eq_true rfl) ?_
  intro p e s m below meth c hx hb hr hml hts hown hlocks hname A hA hP hK hD hS ls hl
  have hown : s.vm.findClass RX3 = some m.cls := hown
  have hl : lv_has ls 1 [(0, .int (nI k))] := hl
  refine lv_iload_n hx hb dX3_ofP_0 rfl (lv_at hl 0 rfl) ?_
  refine lv_if_ne (tgt := 9) hx hb dX3_ofP_1 (by decide) (fun c1 => ?_) (fun c1 => ?_)
  · have hc : ¬ k = 0 := fun e => c1 (by rw [e]; rfl)
    refine lv_iload_n hx hb dX3_ofP_9 rfl (lv_at hl 0 rfl) ?_
    refine lv_bipush (v := nI 15) hx hb dX3_ofP_10 (by decide) ?_
    refine lv_icmp_ne (tgt := 21) hx hb dX3_ofP_12 (by decide) (fun c12 => ?_) (fun c12 => ?_)
    · have hc2 : ¬ k = 15 := fun e => c12 (by rw [e])
      refine lv_ldc (v := 65535) hx hb hown (hts (.constant RX3 28 (65535)) (by decide +kernel)) dX3_ofP_21 ?_
      exact z_iret hx hb hr hlocks dX3_ofP_23 hK hP hD hS (⟨rfl, by unfold pD; rw [if_neg hc, if_neg hc2]; decide⟩)
    · have hc2 : k = 15 := (nI_eq (by omega) (by omega)).mp c12
      refine lv_sipush (v := nI 32767) hx hb dX3_ofP_15 (by decide) ?_
      refine lv_goto (tgt := 23) hx hb dX3_ofP_18 (by decide) ?_
      exact z_iret hx hb hr hlocks dX3_ofP_23 hK hP hD hS (⟨rfl, by unfold pD; rw [if_neg hc, if_pos hc2]; decide⟩)
  · have hc : k = 0 := (nI_eq (by omega) (by omega)).mp c1
    refine lv_ldc (v := 65517) hx hb hown (hts (.constant RX3 27 (65517)) (by decide +kernel)) dX3_ofP_4 ?_
    refine lv_goto (tgt := 23) hx hb dX3_ofP_6 (by decide) ?_
    exact z_iret hx hb hr hlocks dX3_ofP_23 hK hP hD hS (⟨rfl, by unfold pD; rw [if_pos hc]; decide⟩)
set_option maxRecDepth 100000 in
set_option maxHeartbeats 4000000 in
theorem m_setSmall (l : Launch) (D : va_G) (cA cI : ClassId) (tys : List (ClassId × FieldType)) (om aSc aPt aDg aSu : Nat) (fp fs fr : Int32) (scf ptf : Nat → Int64) (dg : Nat → Int32) (su : Nat → Int64) (to : Nat) (hto : to < 13) (v : Int32) : zCv l D ((cA, .long) :: (cI, .int) :: tys) yX3_setSmall wsX3_setSmall ({ frames := 0, cells := 0, slots := 0, locals := 0 }) [.ref om, .int (nI to), .int v] ([(om, .inr (3, [.int fp, .int fs, .int fr, .ref aSc, .ref aPt, .ref aDg, .ref aSu])), (aSc, .inl (cA, 4, .inr (.inl scf))), (aPt, .inl (cA, 4, .inr (.inl ptf))), (aDg, .inl (cI, 208, .inl dg)), (aSu, .inl (cA, 32, .inr (.inl su)))]) (fun (u : va_W) => ∃ dg' : Nat → Int32, (∀ i, i / 16 ≠ to → dg' i = dg i) ∧ (∀ k, k < 16 → dg' (16 * to + k) = if k = 0 then v else 0) ∧ u = [(om, .inr (3, [.int fp, .int fs, .int fr, .ref aSc, .ref aPt, .ref aDg, .ref aSu])), (aSc, .inl (cA, 4, .inr (.inl scf))), (aPt, .inl (cA, 4, .inr (.inl ptf))), (aDg, .inl (cI, 208, .inl dg')), (aSu, .inl (cA, 32, .inr (.inl su)))]) := by
  refine z_met (fun A => va_Qv (fun (u : va_W) => ∃ dg' : Nat → Int32, (∀ i, i / 16 ≠ to → dg' i = dg i) ∧ (∀ k, k < 16 → dg' (16 * to + k) = if k = 0 then v else 0) ∧ u = [(om, .inr (3, [.int fp, .int fs, .int fr, .ref aSc, .ref aPt, .ref aDg, .ref aSu])), (aSc, .inl (cA, 4, .inr (.inl scf))), (aPt, .inl (cA, 4, .inr (.inl ptf))), (aDg, .inl (cI, 208, .inl dg')), (aSu, .inl (cA, 32, .inr (.inl su)))]) (zB D ((cA, .long) :: (cI, .int) :: tys) A) A) (by decide) rfl (Nat.le_of_ble_eq_true rfl) ?_
  intro p e s m below meth c hx hb hr hml hts hown hlocks hname A hA hP hK hD hS ls hl
  have hown : s.vm.findClass RX3 = some m.cls := hown
  have hl : lv_has ls 4 [(0, .ref om), (1, .int (nI to)), (2, .int v)] := hl
  refine lv_iconst (v := nI 0) hx hb dX3_setSmall_0 (by decide) ?_
  refine lv_istore_n (lv' := [(3, .int (nI 0)), (0, .ref om), (1, .int (nI to)), (2, .int v)]) hx hb dX3_setSmall_1 rfl hl (by decide) rfl (fun ls hl => ?_)
  refine z_loop (fun i H locs ls => ∃ dg' : Nat → Int32, (∀ j, j / 16 ≠ to → dg' j = dg j) ∧ (∀ k, k < i → dg' (16 * to + k) = if k = 0 then v else 0) ∧ zH D A s.heap ([(om, .inr (3, [.int fp, .int fs, .int fr, .ref aSc, .ref aPt, .ref aDg, .ref aSu])), (aSc, .inl (cA, 4, .inr (.inl scf))), (aPt, .inl (cA, 4, .inr (.inl ptf))), (aDg, .inl (cI, 208, .inl dg')), (aSu, .inl (cA, 32, .inr (.inl su)))]) H locs ∧ lv_has ls 4 [(3, .int (nI i)), (0, .ref om), (1, .int (nI to)), (2, .int v)]) 16 ?_ ?_ ?_
  · exact ⟨dg, fun _ _ => rfl, fun k h => by omega, ⟨hP, hD, hS⟩, hl⟩
  · rintro i H locs ls hi ⟨dg', h1, h2, ⟨hP, hD, hS⟩, hl⟩ ih
    refine lv_iload_n hx hb dX3_setSmall_2 rfl (lv_at hl 0 rfl) ?_
    refine lv_bipush (v := nI 16) hx hb dX3_setSmall_3 (by decide) ?_
    refine lv_icmp_ge (tgt := 34) hx hb dX3_setSmall_5 (by decide) (fun c5 => absurd ((nI_leI (by omega) (by omega)).mp c5) (by omega)) (fun c5 => ?_)
    refine lv_aload_n hx hb dX3_setSmall_8 rfl (lv_at hl 1 rfl) ?_
    refine va_get (D := D) (ci := 3) (v := .ref aDg) (C := RX3) (T := TX3) (N := 7) hx hb hts (by decide +kernel) hown hK hP 0 rfl rfl 5 (by decide) (hts (.fieldLink RX3 16 "LadderDeskModel" "digits" "[I") (by decide +kernel)) (fun _ h9 => h9) rfl dX3_setSmall_9 ?_
    refine lv_bipush (v := nI 16) hx hb dX3_setSmall_12 (by decide) ?_
    refine lv_iload_n hx hb dX3_setSmall_14 rfl (lv_at hl 2 rfl) ?_
    refine lv_imul hx hb dX3_setSmall_15 ?_
    refine zi (pk_mul _ _) ?_
    refine lv_iload_n hx hb dX3_setSmall_16 rfl (lv_at hl 0 rfl) ?_
    refine lv_iadd hx hb dX3_setSmall_17 ?_
    refine zi (nI_add _ _) ?_
    refine lv_iload_n hx hb dX3_setSmall_18 rfl (lv_at hl 0 rfl) ?_
    refine lv_if_ne (tgt := 26) hx hb dX3_setSmall_19 (by decide) (fun c19 => ?_) (fun c19 => ?_)
    · have hc : ¬ i = 0 := fun e => c19 (by rw [e]; rfl)
      refine lv_iconst (v := nI 0) hx hb dX3_setSmall_26 (by decide) ?_
      refine y_sti hx hb hK hP hD hS 3 1 rfl rfl ((16 * to) + i) rfl (by omega) (by omega) dX3_setSmall_27 (fun H locs hP hD hS => ?_)
      have hP : va_P D vwCl ([(om, .inr (3, [.int fp, .int fs, .int fr, .ref aSc, .ref aPt, .ref aDg, .ref aSu])), (aSc, .inl (cA, 4, .inr (.inl scf))), (aPt, .inl (cA, 4, .inr (.inl ptf))), (aDg, .inl (cI, 208, .inl (upd dg' ((16 * to) + i) (nI 0)))), (aSu, .inl (cA, 32, .inr (.inl su)))]) H := hP
      have hD : va_D A ([(om, .inr (3, [.int fp, .int fs, .int fr, .ref aSc, .ref aPt, .ref aDg, .ref aSu])), (aSc, .inl (cA, 4, .inr (.inl scf))), (aPt, .inl (cA, 4, .inr (.inl ptf))), (aDg, .inl (cI, 208, .inl (upd dg' ((16 * to) + i) (nI 0)))), (aSu, .inl (cA, 32, .inr (.inl su)))]) := hD
      refine lv_iinc (v := nI (i + 1)) (lv' := [(3, .int (nI (i + 1))), (0, .ref om), (1, .int (nI to)), (2, .int v)]) hx hb dX3_setSmall_28 hl (k := 0) rfl (by show nI _ + nI 1 = _; exact nI_add _ _) (by decide) rfl (fun ls hl => ?_)
      refine lv_goto (tgt := 2) hx hb dX3_setSmall_31 (by decide) ?_
      exact ih _ _ _ ⟨_, fun j hj => by rw [pk_un (by omega)]; exact h1 j hj, fun k hk => by
        by_cases e : k = i
        · subst e; rw [pk_us, if_neg hc]; rfl
        · rw [pk_un (by omega)]; exact h2 k (by omega), ⟨hP, hD, hS⟩, hl⟩
    · have hc : i = 0 := (nI_eq (by omega) (by omega)).mp c19
      refine lv_iload_n hx hb dX3_setSmall_22 rfl (lv_at hl 3 rfl) ?_
      refine lv_goto (tgt := 27) hx hb dX3_setSmall_23 (by decide) ?_
      refine y_sti hx hb hK hP hD hS 3 1 rfl rfl ((16 * to) + i) rfl (by omega) (by omega) dX3_setSmall_27 (fun H locs hP hD hS => ?_)
      have hP : va_P D vwCl ([(om, .inr (3, [.int fp, .int fs, .int fr, .ref aSc, .ref aPt, .ref aDg, .ref aSu])), (aSc, .inl (cA, 4, .inr (.inl scf))), (aPt, .inl (cA, 4, .inr (.inl ptf))), (aDg, .inl (cI, 208, .inl (upd dg' ((16 * to) + i) v))), (aSu, .inl (cA, 32, .inr (.inl su)))]) H := hP
      have hD : va_D A ([(om, .inr (3, [.int fp, .int fs, .int fr, .ref aSc, .ref aPt, .ref aDg, .ref aSu])), (aSc, .inl (cA, 4, .inr (.inl scf))), (aPt, .inl (cA, 4, .inr (.inl ptf))), (aDg, .inl (cI, 208, .inl (upd dg' ((16 * to) + i) v))), (aSu, .inl (cA, 32, .inr (.inl su)))]) := hD
      refine lv_iinc (v := nI (i + 1)) (lv' := [(3, .int (nI (i + 1))), (0, .ref om), (1, .int (nI to)), (2, .int v)]) hx hb dX3_setSmall_28 hl (k := 0) rfl (by show nI _ + nI 1 = _; exact nI_add _ _) (by decide) rfl (fun ls hl => ?_)
      refine lv_goto (tgt := 2) hx hb dX3_setSmall_31 (by decide) ?_
      exact ih _ _ _ ⟨_, fun j hj => by rw [pk_un (by omega)]; exact h1 j hj, fun k hk => by
        by_cases e : k = i
        · subst e; rw [pk_us, if_pos hc]
        · rw [pk_un (by omega)]; exact h2 k (by omega), ⟨hP, hD, hS⟩, hl⟩
  · rintro H locs ls ⟨dg', h1, h2, ⟨hP, hD, hS⟩, hl⟩
    refine lv_iload_n hx hb dX3_setSmall_2 rfl (lv_at hl 0 rfl) ?_
    refine lv_bipush (v := nI 16) hx hb dX3_setSmall_3 (by decide) ?_
    refine lv_icmp_ge (tgt := 34) hx hb dX3_setSmall_5 (by decide) (fun c5 => ?_) (fun c5 => absurd ((nI_leI (by omega) (by omega)).mpr (by omega)) c5)
    exact z_vret hx hb hr hlocks dX3_setSmall_34 hK hP hD hS (⟨dg', h1, h2, rfl⟩)
set_option maxRecDepth 100000 in
set_option maxHeartbeats 4000000 in
theorem m_copy (l : Launch) (D : va_G) (cA cI : ClassId) (tys : List (ClassId × FieldType)) (om aSc aPt aDg aSu : Nat) (fp fs fr : Int32) (scf ptf : Nat → Int64) (dg : Nat → Int32) (su : Nat → Int64) (to a : Nat) (hto : to < 13) (ha : a < 13) (hne : a ≠ to) : zCv l D ((cA, .long) :: (cI, .int) :: tys) yX3_copy wsX3_copy ({ frames := 0, cells := 0, slots := 0, locals := 0 }) [.ref om, .int (nI to), .int (nI a)] ([(om, .inr (3, [.int fp, .int fs, .int fr, .ref aSc, .ref aPt, .ref aDg, .ref aSu])), (aSc, .inl (cA, 4, .inr (.inl scf))), (aPt, .inl (cA, 4, .inr (.inl ptf))), (aDg, .inl (cI, 208, .inl dg)), (aSu, .inl (cA, 32, .inr (.inl su)))]) (fun (u : va_W) => ∃ dg' : Nat → Int32, (∀ i, i / 16 ≠ to → dg' i = dg i) ∧ (∀ k, k < 16 → dg' (16 * to + k) = dg (16 * a + k)) ∧ u = [(om, .inr (3, [.int fp, .int fs, .int fr, .ref aSc, .ref aPt, .ref aDg, .ref aSu])), (aSc, .inl (cA, 4, .inr (.inl scf))), (aPt, .inl (cA, 4, .inr (.inl ptf))), (aDg, .inl (cI, 208, .inl dg')), (aSu, .inl (cA, 32, .inr (.inl su)))]) := by
  refine z_met (fun A => va_Qv (fun (u : va_W) => ∃ dg' : Nat → Int32, (∀ i, i / 16 ≠ to → dg' i = dg i) ∧ (∀ k, k < 16 → dg' (16 * to + k) = dg (16 * a + k)) ∧ u = [(om, .inr (3, [.int fp, .int fs, .int fr, .ref aSc, .ref aPt, .ref aDg, .ref aSu])), (aSc, .inl (cA, 4, .inr (.inl scf))), (aPt, .inl (cA, 4, .inr (.inl ptf))), (aDg, .inl (cI, 208, .inl dg')), (aSu, .inl (cA, 32, .inr (.inl su)))]) (zB D ((cA, .long) :: (cI, .int) :: tys) A) A) (by decide) rfl (Nat.le_of_ble_eq_true rfl) ?_
  intro p e s m below meth c hx hb hr hml hts hown hlocks hname A hA hP hK hD hS ls hl
  have hown : s.vm.findClass RX3 = some m.cls := hown
  have hl : lv_has ls 4 [(0, .ref om), (1, .int (nI to)), (2, .int (nI a))] := hl
  refine lv_iconst (v := nI 0) hx hb dX3_copy_0 (by decide) ?_
  refine lv_istore_n (lv' := [(3, .int (nI 0)), (0, .ref om), (1, .int (nI to)), (2, .int (nI a))]) hx hb dX3_copy_1 rfl hl (by decide) rfl (fun ls hl => ?_)
  refine z_loop (fun i H locs ls => ∃ dg' : Nat → Int32, (∀ j, j / 16 ≠ to → dg' j = dg j) ∧ (∀ k, k < i → dg' (16 * to + k) = dg (16 * a + k)) ∧ zH D A s.heap ([(om, .inr (3, [.int fp, .int fs, .int fr, .ref aSc, .ref aPt, .ref aDg, .ref aSu])), (aSc, .inl (cA, 4, .inr (.inl scf))), (aPt, .inl (cA, 4, .inr (.inl ptf))), (aDg, .inl (cI, 208, .inl dg')), (aSu, .inl (cA, 32, .inr (.inl su)))]) H locs ∧ lv_has ls 4 [(3, .int (nI i)), (0, .ref om), (1, .int (nI to)), (2, .int (nI a))]) 16 ?_ ?_ ?_
  · exact ⟨dg, fun _ _ => rfl, fun k h => by omega, ⟨hP, hD, hS⟩, hl⟩
  · rintro i H locs ls hi ⟨dg', h1, h2, ⟨hP, hD, hS⟩, hl⟩ ih
    refine lv_iload_n hx hb dX3_copy_2 rfl (lv_at hl 0 rfl) ?_
    refine lv_bipush (v := nI 16) hx hb dX3_copy_3 (by decide) ?_
    refine lv_icmp_ge (tgt := 36) hx hb dX3_copy_5 (by decide) (fun c5 => absurd ((nI_leI (by omega) (by omega)).mp c5) (by omega)) (fun c5 => ?_)
    refine lv_aload_n hx hb dX3_copy_8 rfl (lv_at hl 1 rfl) ?_
    refine va_get (D := D) (ci := 3) (v := .ref aDg) (C := RX3) (T := TX3) (N := 7) hx hb hts (by decide +kernel) hown hK hP 0 rfl rfl 5 (by decide) (hts (.fieldLink RX3 16 "LadderDeskModel" "digits" "[I") (by decide +kernel)) (fun _ h9 => h9) rfl dX3_copy_9 ?_
    refine lv_bipush (v := nI 16) hx hb dX3_copy_12 (by decide) ?_
    refine lv_iload_n hx hb dX3_copy_14 rfl (lv_at hl 2 rfl) ?_
    refine lv_imul hx hb dX3_copy_15 ?_
    refine zi (pk_mul _ _) ?_
    refine lv_iload_n hx hb dX3_copy_16 rfl (lv_at hl 0 rfl) ?_
    refine lv_iadd hx hb dX3_copy_17 ?_
    refine zi (nI_add _ _) ?_
    refine lv_aload_n hx hb dX3_copy_18 rfl (lv_at hl 1 rfl) ?_
    refine va_get (D := D) (ci := 3) (v := .ref aDg) (C := RX3) (T := TX3) (N := 7) hx hb hts (by decide +kernel) hown hK hP 0 rfl rfl 5 (by decide) (hts (.fieldLink RX3 16 "LadderDeskModel" "digits" "[I") (by decide +kernel)) (fun _ h9 => h9) rfl dX3_copy_19 ?_
    refine lv_bipush (v := nI 16) hx hb dX3_copy_22 (by decide) ?_
    refine lv_iload_n hx hb dX3_copy_24 rfl (lv_at hl 3 rfl) ?_
    refine lv_imul hx hb dX3_copy_25 ?_
    refine zi (pk_mul _ _) ?_
    refine lv_iload_n hx hb dX3_copy_26 rfl (lv_at hl 0 rfl) ?_
    refine lv_iadd hx hb dX3_copy_27 ?_
    refine zi (nI_add _ _) ?_
    refine y_ldi hx hb hK hP 3 1 rfl rfl ((16 * a) + i) rfl (by omega) (by omega) dX3_copy_28 ?_
    refine lv_topi (fun v28 e28 => ?_)
    refine y_sti hx hb hK hP hD hS 3 1 rfl rfl ((16 * to) + i) rfl (by omega) (by omega) dX3_copy_29 (fun H locs hP hD hS => ?_)
    have hP : va_P D vwCl ([(om, .inr (3, [.int fp, .int fs, .int fr, .ref aSc, .ref aPt, .ref aDg, .ref aSu])), (aSc, .inl (cA, 4, .inr (.inl scf))), (aPt, .inl (cA, 4, .inr (.inl ptf))), (aDg, .inl (cI, 208, .inl (upd dg' ((16 * to) + i) v28))), (aSu, .inl (cA, 32, .inr (.inl su)))]) H := hP
    have hD : va_D A ([(om, .inr (3, [.int fp, .int fs, .int fr, .ref aSc, .ref aPt, .ref aDg, .ref aSu])), (aSc, .inl (cA, 4, .inr (.inl scf))), (aPt, .inl (cA, 4, .inr (.inl ptf))), (aDg, .inl (cI, 208, .inl (upd dg' ((16 * to) + i) v28))), (aSu, .inl (cA, 32, .inr (.inl su)))]) := hD
    refine lv_iinc (v := nI (i + 1)) (lv' := [(3, .int (nI (i + 1))), (0, .ref om), (1, .int (nI to)), (2, .int (nI a))]) hx hb dX3_copy_30 hl (k := 0) rfl (by show nI _ + nI 1 = _; exact nI_add _ _) (by decide) rfl (fun ls hl => ?_)
    refine lv_goto (tgt := 2) hx hb dX3_copy_33 (by decide) ?_
    exact ih _ _ _ ⟨_, fun j hj => by rw [pk_un (by omega)]; exact h1 j hj, fun k hk => by
      by_cases e : k = i
      · subst e; rw [pk_us, e28, h1 _ (by omega)]
      · rw [pk_un (by omega)]; exact h2 k (by omega), ⟨hP, hD, hS⟩, hl⟩
  · rintro H locs ls ⟨dg', h1, h2, ⟨hP, hD, hS⟩, hl⟩
    refine lv_iload_n hx hb dX3_copy_2 rfl (lv_at hl 0 rfl) ?_
    refine lv_bipush (v := nI 16) hx hb dX3_copy_3 (by decide) ?_
    refine lv_icmp_ge (tgt := 36) hx hb dX3_copy_5 (by decide) (fun c5 => ?_) (fun c5 => absurd ((nI_leI (by omega) (by omega)).mpr (by omega)) c5)
    exact z_vret hx hb hr hlocks dX3_copy_36 hK hP hD hS (⟨dg', h1, h2, rfl⟩)
theorem dh_cp {dg dg' : Nat → Int32} {a to : Nat} {x : Int} (h : dh dg a x) (hc : ∀ k, k < 16 → dg' (16 * to + k) = dg (16 * a + k)) : dh dg' to x := by
  have e : ∀ k, k < 16 → dd dg' to k = dd dg a k := fun k hk => by unfold dd; rw [hc k hk]
  exact ⟨fun k hk => by rw [e k hk]; exact h.1 k hk, by rw [sv_congr e]; exact h.2.1, h.2.2⟩
set_option maxRecDepth 100000 in
set_option maxHeartbeats 4000000 in
theorem m_swap (l : Launch) (D : va_G) (cA cI : ClassId) (tys : List (ClassId × FieldType)) (om aSc aPt aDg aSu : Nat) (fp fs fr : Int32) (scf ptf : Nat → Int64) (dg : Nat → Int32) (su : Nat → Int64) (a b : Nat) (ha : a < 12) (hb12 : b < 12) (hne : a ≠ b) (x y : Int) (hxa : dh dg a x) (hyb : dh dg b y) : zCv l D ((cA, .long) :: (cI, .int) :: tys) yX3_swap wsX3_swap ({ frames := 1, cells := 0, slots := 0, locals := 23 }) [.ref om, .int (nI a), .int (nI b)] ([(om, .inr (3, [.int fp, .int fs, .int fr, .ref aSc, .ref aPt, .ref aDg, .ref aSu])), (aSc, .inl (cA, 4, .inr (.inl scf))), (aPt, .inl (cA, 4, .inr (.inl ptf))), (aDg, .inl (cI, 208, .inl dg)), (aSu, .inl (cA, 32, .inr (.inl su)))]) (fun (u : va_W) => ∃ dg' : Nat → Int32, (∀ i, i / 16 ≠ a → i / 16 ≠ b → i / 16 ≠ 12 → dg' i = dg i) ∧ dh dg' a y ∧ dh dg' b x ∧ u = [(om, .inr (3, [.int fp, .int fs, .int fr, .ref aSc, .ref aPt, .ref aDg, .ref aSu])), (aSc, .inl (cA, 4, .inr (.inl scf))), (aPt, .inl (cA, 4, .inr (.inl ptf))), (aDg, .inl (cI, 208, .inl dg')), (aSu, .inl (cA, 32, .inr (.inl su)))]) := by
  refine z_met (fun A => va_Qv (fun (u : va_W) => ∃ dg' : Nat → Int32, (∀ i, i / 16 ≠ a → i / 16 ≠ b → i / 16 ≠ 12 → dg' i = dg i) ∧ dh dg' a y ∧ dh dg' b x ∧ u = [(om, .inr (3, [.int fp, .int fs, .int fr, .ref aSc, .ref aPt, .ref aDg, .ref aSu])), (aSc, .inl (cA, 4, .inr (.inl scf))), (aPt, .inl (cA, 4, .inr (.inl ptf))), (aDg, .inl (cI, 208, .inl dg')), (aSu, .inl (cA, 32, .inr (.inl su)))]) (zB D ((cA, .long) :: (cI, .int) :: tys) A) A) (by decide) rfl (Nat.le_of_ble_eq_true rfl) ?_
  intro p e s m below meth c hx hb hr hml hts hown hlocks hname A hA hP hK hD hS ls hl
  have hown : s.vm.findClass RX3 = some m.cls := hown
  have hl : lv_has ls 3 [(0, .ref om), (1, .int (nI a)), (2, .int (nI b))] := hl
  refine lv_aload_n hx hb dX3_swap_0 rfl (lv_at hl 0 rfl) ?_
  refine lv_bipush (v := nI 12) hx hb dX3_swap_1 (by decide) ?_
  refine lv_iload_n hx hb dX3_swap_3 rfl (lv_at hl 1 rfl) ?_
  refine z_callv (va_runV (As := [.int (nI 12), .int (nI a)]) (rest := []) ⟨hx, hb, hml, hown, hts⟩ (m_copy l D cA cI tys om aSc aPt aDg aSu fp fs fr scf ptf dg su 12 a (by omega) (by omega) (by omega) _) (cwV 2 hts gX3_swap_X3_copy rfl rfl rfl (by decide +kernel) ⟨Nat.le_of_ble_eq_true rfl, Nat.le_of_ble_eq_true rfl⟩) (z_preV _ hK hP hD (ci := 3) (q0 := 0) rfl rfl) rfl rfl hl.1 rfl (lv_room (Nat.le_of_ble_eq_true rfl)) dX3_swap_4 ⟨Nat.le_of_ble_eq_true rfl, Nat.le_of_ble_eq_true rfl⟩) hD hS hA (fun u H locs hu hP hD hS => ?_)
  obtain ⟨d1, k1, c1, rfl⟩ := hu
  refine lv_aload_n hx hb dX3_swap_7 rfl (lv_at hl 0 rfl) ?_
  refine lv_iload_n hx hb dX3_swap_8 rfl (lv_at hl 1 rfl) ?_
  refine lv_iload_n hx hb dX3_swap_9 rfl (lv_at hl 2 rfl) ?_
  refine z_callv (va_runV (As := [.int (nI a), .int (nI b)]) (rest := []) ⟨hx, hb, hml, hown, hts⟩ (m_copy l D cA cI tys om aSc aPt aDg aSu fp fs fr scf ptf d1 su a b (by omega) (by omega) (fun e => hne e.symm) _) (cwV 2 hts gX3_swap_X3_copy rfl rfl rfl (by decide +kernel) ⟨Nat.le_of_ble_eq_true rfl, Nat.le_of_ble_eq_true rfl⟩) (z_preV _ hK hP hD (ci := 3) (q0 := 0) rfl rfl) rfl rfl hl.1 rfl (lv_room (Nat.le_of_ble_eq_true rfl)) dX3_swap_10 ⟨Nat.le_of_ble_eq_true rfl, Nat.le_of_ble_eq_true rfl⟩) hD hS hA (fun u H locs hu hP hD hS => ?_)
  obtain ⟨d2, k2, c2, rfl⟩ := hu
  refine lv_aload_n hx hb dX3_swap_13 rfl (lv_at hl 0 rfl) ?_
  refine lv_iload_n hx hb dX3_swap_14 rfl (lv_at hl 2 rfl) ?_
  refine lv_bipush (v := nI 12) hx hb dX3_swap_15 (by decide) ?_
  refine z_callv (va_runV (As := [.int (nI b), .int (nI 12)]) (rest := []) ⟨hx, hb, hml, hown, hts⟩ (m_copy l D cA cI tys om aSc aPt aDg aSu fp fs fr scf ptf d2 su b 12 (by omega) (by omega) (by omega) _) (cwV 2 hts gX3_swap_X3_copy rfl rfl rfl (by decide +kernel) ⟨Nat.le_of_ble_eq_true rfl, Nat.le_of_ble_eq_true rfl⟩) (z_preV _ hK hP hD (ci := 3) (q0 := 0) rfl rfl) rfl rfl hl.1 rfl (lv_room (Nat.le_of_ble_eq_true rfl)) dX3_swap_17 ⟨Nat.le_of_ble_eq_true rfl, Nat.le_of_ble_eq_true rfl⟩) hD hS hA (fun u H locs hu hP hD hS => ?_)
  obtain ⟨d3, k3, c3, rfl⟩ := hu
  exact z_vret hx hb hr hlocks dX3_swap_20 hK hP hD hS (⟨d3, fun i h1 h2 h3 => by rw [k3 i h2, k2 i h1, k1 i h3], dh_kp (dh_cp (dh_kp hyb (by omega) k1) c2) hne k3, dh_cp (dh_kp (dh_cp hxa c1) (by omega) k2) c3, rfl⟩)
theorem dn_15 : ∀ i, i < 16 → nI (15 - i) + Int32.ofInt (-1) = nI 15 - nI (i + 1) := by decide +kernel
set_option maxRecDepth 100000 in
set_option maxHeartbeats 4000000 in
theorem m_isGreat (l : Launch) (D : va_G) (cA cI : ClassId) (tys : List (ClassId × FieldType)) (om aSc aPt aDg aSu : Nat) (fp fs fr : Int32) (scf ptf : Nat → Int64) (dg : Nat → Int32) (su : Nat → Int64) (hs : ∀ k, k < 16 → 0 ≤ fI su k ∧ fI su k < cB) : zCi l D ((cA, .long) :: (cI, .int) :: tys) yX3_isGreat wsX3_isGreat ({ frames := 1, cells := 0, slots := 0, locals := 20 }) [.ref om] ([(om, .inr (3, [.int fp, .int fs, .int fr, .ref aSc, .ref aPt, .ref aDg, .ref aSu])), (aSc, .inl (cA, 4, .inr (.inl scf))), (aPt, .inl (cA, 4, .inr (.inl ptf))), (aDg, .inl (cI, 208, .inl dg)), (aSu, .inl (cA, 32, .inr (.inl su)))]) (fun r (u : va_W) => (∃ gr : Bool, (gr = true ↔ pP ≤ sv cB (fI su) 16) ∧ r = if gr then 1 else 0) ∧ u = [(om, .inr (3, [.int fp, .int fs, .int fr, .ref aSc, .ref aPt, .ref aDg, .ref aSu])), (aSc, .inl (cA, 4, .inr (.inl scf))), (aPt, .inl (cA, 4, .inr (.inl ptf))), (aDg, .inl (cI, 208, .inl dg)), (aSu, .inl (cA, 32, .inr (.inl su)))]) := by
  refine z_met (fun A => va_Qi (fun r (u : va_W) => (∃ gr : Bool, (gr = true ↔ pP ≤ sv cB (fI su) 16) ∧ r = if gr then 1 else 0) ∧ u = [(om, .inr (3, [.int fp, .int fs, .int fr, .ref aSc, .ref aPt, .ref aDg, .ref aSu])), (aSc, .inl (cA, 4, .inr (.inl scf))), (aPt, .inl (cA, 4, .inr (.inl ptf))), (aDg, .inl (cI, 208, .inl dg)), (aSu, .inl (cA, 32, .inr (.inl su)))]) (zB D ((cA, .long) :: (cI, .int) :: tys) A) A) (by decide) rfl (Nat.le_of_ble_eq_true rfl) ?_
  intro p e s m below meth c hx hb hr hml hts hown hlocks hname A hA hP hK hD hS ls hl
  have hown : s.vm.findClass RX3 = some m.cls := hown
  have hl : lv_has ls 2 [(0, .ref om)] := hl
  refine lv_bipush (v := nI 15) hx hb dX3_isGreat_0 (by decide) ?_
  refine lv_istore_n (lv' := [(1, .int (nI 15)), (0, .ref om)]) hx hb dX3_isGreat_2 rfl hl (by decide) rfl (fun ls hl => ?_)
  refine z_loop (fun i H locs ls => (∀ j, 16 ≤ j + i → j < 16 → fI su j = pD j) ∧ zH D A s.heap ([(om, .inr (3, [.int fp, .int fs, .int fr, .ref aSc, .ref aPt, .ref aDg, .ref aSu])), (aSc, .inl (cA, 4, .inr (.inl scf))), (aPt, .inl (cA, 4, .inr (.inl ptf))), (aDg, .inl (cI, 208, .inl dg)), (aSu, .inl (cA, 32, .inr (.inl su)))]) H locs ∧ lv_has ls 2 [(1, .int (nI 15 - nI i)), (0, .ref om)]) 16 ?_ ?_ ?_
  · exact ⟨fun j h1 h2 => by omega, ⟨hP, hD, hS⟩, lv_eq (by rw [show nI 15 - nI 0 = nI 15 from by decide]) hl⟩
  · rintro i H locs ls hi ⟨h1, ⟨hP, hD, hS⟩, hl⟩ ih
    have hl : lv_has ls 2 [(1, .int (nI (15 - i))), (0, .ref om)] := by rw [← pk_sub (show i ≤ 15 by omega)]; exact hl
    refine lv_iload_n hx hb dX3_isGreat_3 rfl (lv_at hl 0 rfl) ?_
    refine lv_if_lt (tgt := 49) hx hb dX3_isGreat_4 (by decide) (fun c4 => absurd c4 (nI_pos (by omega))) (fun c4 => ?_)
    refine lv_aload_n hx hb dX3_isGreat_7 rfl (lv_at hl 1 rfl) ?_
    refine va_get (D := D) (ci := 3) (v := .ref aSu) (C := RX3) (T := TX3) (N := 7) hx hb hts (by decide +kernel) hown hK hP 0 rfl rfl 6 (by decide) (hts (.fieldLink RX3 20 "LadderDeskModel" "sums" "[J") (by decide +kernel)) (fun _ h9 => h9) rfl dX3_isGreat_8 ?_
    refine lv_iload_n hx hb dX3_isGreat_11 rfl (lv_at hl 0 rfl) ?_
    refine y_ld hx hb hK hP 4 0 rfl rfl (15 - i) rfl (by omega) (by omega) dX3_isGreat_12 ?_
    refine lv_topl (fun v12 e12 => ?_)
    refine lv_iload_n hx hb dX3_isGreat_13 rfl (lv_at hl 0 rfl) ?_
    refine z_calli (va_runS (As := [.int (nI (15 - i))]) (rest := [.long v12]) ⟨hx, hb, hml, hown, hts⟩ (c_ofP l D ((cA, .long) :: (cI, .int) :: tys) _ (15 - i) (by omega) _) (va_cwS 1 hts gX3_isGreat_X3_ofP rfl rfl rfl (by decide +kernel) ⟨Nat.le_of_ble_eq_true rfl, Nat.le_of_ble_eq_true rfl⟩) (z_preS _ hK hP hD) rfl rfl hl.1 rfl (lv_room (Nat.le_of_ble_eq_true rfl)) dX3_isGreat_14 ⟨Nat.le_of_ble_eq_true rfl, Nat.le_of_ble_eq_true rfl⟩) hD hS hA (fun r14 u H locs hu hP hD hS => ?_)
    obtain ⟨rfl, ho14⟩ := hu
    refine lv_i2l hx hb dX3_isGreat_17 rfl ?_
    refine lv_topl (fun v17 e17 => ?_)
    refine W.lcmp hx hb dX3_isGreat_18 ?_
    refine lv_if_eq (tgt := 43) hx hb dX3_isGreat_19 (by decide) (fun c19 => ?_) (fun c19 => ?_)
    · have hc := (lg_cmp_eq _ _).mp c19
      have he : fI su (15 - i) = pD (15 - i) := by rw [fI_at, ← e12, hc, e17, tl_i2l, ho14]
      refine lv_iinc (v := nI 15 - nI (i + 1)) (lv' := [(1, .int (nI 15 - nI (i + 1))), (0, .ref om)]) hx hb dX3_isGreat_43 hl (k := 0) rfl (dn_15 i hi) (by decide) rfl (fun ls hl => ?_)
      refine lv_goto (tgt := 3) hx hb dX3_isGreat_46 (by decide) ?_
      exact ih _ _ _ ⟨fun j a1 a2 => by
        by_cases e : j = 15 - i
        · rw [e]; exact he
        · exact h1 j (by omega) a2, ⟨hP, hD, hS⟩, hl⟩
    · have hc := cmp_ne c19
      have hne : fI su (15 - i) ≠ pD (15 - i) := fun h => hc (Int64.toInt_inj.mp (by rw [e12, e17, tl_i2l, ho14]; exact h))
      refine lv_aload_n hx hb dX3_isGreat_22 rfl (lv_at hl 1 rfl) ?_
      refine va_get (D := D) (ci := 3) (v := .ref aSu) (C := RX3) (T := TX3) (N := 7) hx hb hts (by decide +kernel) hown hK hP 0 rfl rfl 6 (by decide) (hts (.fieldLink RX3 20 "LadderDeskModel" "sums" "[J") (by decide +kernel)) (fun _ h9 => h9) rfl dX3_isGreat_23 ?_
      refine lv_iload_n hx hb dX3_isGreat_26 rfl (lv_at hl 0 rfl) ?_
      refine y_ld hx hb hK hP 4 0 rfl rfl (15 - i) rfl (by omega) (by omega) dX3_isGreat_27 ?_
      refine lv_topl (fun v27 e27 => ?_)
      refine lv_iload_n hx hb dX3_isGreat_28 rfl (lv_at hl 0 rfl) ?_
      refine z_calli (va_runS (As := [.int (nI (15 - i))]) (rest := [.long v27]) ⟨hx, hb, hml, hown, hts⟩ (c_ofP l D ((cA, .long) :: (cI, .int) :: tys) _ (15 - i) (by omega) _) (va_cwS 1 hts gX3_isGreat_X3_ofP rfl rfl rfl (by decide +kernel) ⟨Nat.le_of_ble_eq_true rfl, Nat.le_of_ble_eq_true rfl⟩) (z_preS _ hK hP hD) rfl rfl hl.1 rfl (lv_room (Nat.le_of_ble_eq_true rfl)) dX3_isGreat_29 ⟨Nat.le_of_ble_eq_true rfl, Nat.le_of_ble_eq_true rfl⟩) hD hS hA (fun r29 u H locs hu hP hD hS => ?_)
      obtain ⟨rfl, ho29⟩ := hu
      refine lv_i2l hx hb dX3_isGreat_32 rfl ?_
      refine lv_topl (fun v32 e32 => ?_)
      refine W.lcmp hx hb dX3_isGreat_33 ?_
      refine lv_if_le (tgt := 41) hx hb dX3_isGreat_34 (by decide) (fun c34 => ?_) (fun c34 => ?_)
      · have hc2 := Int64.le_iff_toInt_le.mp ((lg_cmp_le _ _).mp c34)
        rw [e27, e32, tl_i2l, ho29] at hc2
        have hlt : fI su (15 - i) < pD (15 - i) := by have : (su (15 - i)).toInt = fI su (15 - i) := rfl; omega
        have hv := great_lt (s := fI su) (k := 15 - i) hs (by omega) (fun j a1 a2 => h1 j (by omega) a2) hlt
        refine lv_iconst (v := nI 0) hx hb dX3_isGreat_41 (by decide) ?_
        exact z_zret hx hb hr hlocks dX3_isGreat_42 rfl hK hP hD hS (⟨⟨false, ⟨fun h => absurd h (by decide), fun h => by omega⟩, rfl⟩, rfl⟩)
      · have hc2 := mt (fun h => (lg_cmp_le v27 v32).mpr (Int64.le_iff_toInt_le.mpr h)) c34
        rw [e27, e32, tl_i2l, ho29] at hc2
        have hgt : pD (15 - i) < fI su (15 - i) := by have : (su (15 - i)).toInt = fI su (15 - i) := rfl; omega
        have hv := great_gt (s := fI su) (k := 15 - i) hs (by omega) (fun j a1 a2 => h1 j (by omega) a2) hgt
        refine lv_iconst (v := nI 1) hx hb dX3_isGreat_37 (by decide) ?_
        refine lv_goto (tgt := 42) hx hb dX3_isGreat_38 (by decide) ?_
        exact z_zret hx hb hr hlocks dX3_isGreat_42 rfl hK hP hD hS (⟨⟨true, ⟨fun _ => by omega, fun _ => rfl⟩, rfl⟩, rfl⟩)
  · rintro H locs ls ⟨h1, ⟨hP, hD, hS⟩, hl⟩
    refine lv_iload_n hx hb dX3_isGreat_3 rfl (lv_at hl 0 rfl) ?_
    refine lv_if_lt (tgt := 49) hx hb dX3_isGreat_4 (by decide) (fun c4 => ?_) (fun c4 => absurd (by decide) c4)
    have hv := great_eq (s := fI su) (fun j hj => h1 j (by omega) hj)
    refine lv_iconst (v := nI 1) hx hb dX3_isGreat_49 (by decide) ?_
    exact z_zret hx hb hr hlocks dX3_isGreat_50 rfl hK hP hD hS (⟨⟨true, ⟨fun _ => by omega, fun _ => rfl⟩, rfl⟩, rfl⟩)
set_option maxRecDepth 100000 in
set_option maxHeartbeats 4000000 in
theorem m_store (l : Launch) (D : va_G) (cA cI : ClassId) (tys : List (ClassId × FieldType)) (om aSc aPt aDg aSu : Nat) (fp fs fr : Int32) (scf ptf : Nat → Int64) (dg : Nat → Int32) (su : Nat → Int64) (to : Nat) (hto : to < 13) (hs : ∀ k, k < 16 → 0 ≤ fI su k ∧ fI su k < 8796093022208) : zCv l D ((cA, .long) :: (cI, .int) :: tys) yX3_store wsX3_store ({ frames := 2, cells := 0, slots := 0, locals := 41 }) [.ref om, .int (nI to)] ([(om, .inr (3, [.int fp, .int fs, .int fr, .ref aSc, .ref aPt, .ref aDg, .ref aSu])), (aSc, .inl (cA, 4, .inr (.inl scf))), (aPt, .inl (cA, 4, .inr (.inl ptf))), (aDg, .inl (cI, 208, .inl dg)), (aSu, .inl (cA, 32, .inr (.inl su)))]) (fun (u : va_W) => ∃ (dg' : Nat → Int32) (su' : Nat → Int64), (∀ i, i / 16 ≠ to → dg' i = dg i) ∧ dh dg' to (sv cB (fI su) 16 % pP) ∧ u = [(om, .inr (3, [.int fp, .int fs, .int fr, .ref aSc, .ref aPt, .ref aDg, .ref aSu])), (aSc, .inl (cA, 4, .inr (.inl scf))), (aPt, .inl (cA, 4, .inr (.inl ptf))), (aDg, .inl (cI, 208, .inl dg')), (aSu, .inl (cA, 32, .inr (.inl su')))]) := by
  refine z_met (fun A => va_Qv (fun (u : va_W) => ∃ (dg' : Nat → Int32) (su' : Nat → Int64), (∀ i, i / 16 ≠ to → dg' i = dg i) ∧ dh dg' to (sv cB (fI su) 16 % pP) ∧ u = [(om, .inr (3, [.int fp, .int fs, .int fr, .ref aSc, .ref aPt, .ref aDg, .ref aSu])), (aSc, .inl (cA, 4, .inr (.inl scf))), (aPt, .inl (cA, 4, .inr (.inl ptf))), (aDg, .inl (cI, 208, .inl dg')), (aSu, .inl (cA, 32, .inr (.inl su')))]) (zB D ((cA, .long) :: (cI, .int) :: tys) A) A) (by decide) rfl (Nat.le_of_ble_eq_true rfl) ?_
  intro p e s m below meth c hx hb hr hml hts hown hlocks hname A hA hP hK hD hS ls hl
  have hown : s.vm.findClass RX3 = some m.cls := hown
  have hl : lv_has ls 10 [(0, .ref om), (1, .int (nI to))] := hl
  refine lv_iconst (v := nI 0) hx hb dX3_store_0 (by decide) ?_
  refine lv_istore_n (lv' := [(2, .int (nI 0)), (0, .ref om), (1, .int (nI to))]) hx hb dX3_store_1 rfl hl (by decide) rfl (fun ls hl => ?_)
  refine z_loop (fun i H locs ls => ∃ f : Nat → Int64, Jt su f i ∧ zH D A s.heap ([(om, .inr (3, [.int fp, .int fs, .int fr, .ref aSc, .ref aPt, .ref aDg, .ref aSu])), (aSc, .inl (cA, 4, .inr (.inl scf))), (aPt, .inl (cA, 4, .inr (.inl ptf))), (aDg, .inl (cI, 208, .inl dg)), (aSu, .inl (cA, 32, .inr (.inl f)))]) H locs ∧ lv_has ls 10 [(2, .int (nI i)), (0, .ref om), (1, .int (nI to))]) 3 ?_ ?_ ?_
  · exact ⟨su, Jt_0 hs, ⟨hP, hD, hS⟩, hl⟩
  · rintro i H locs ls hi ⟨f, hJ, ⟨hP, hD, hS⟩, hl⟩ ih
    refine lv_iload_n hx hb dX3_store_2 rfl (lv_at hl 0 rfl) ?_
    refine lv_iconst (v := nI 3) hx hb dX3_store_3 (by decide) ?_
    refine lv_icmp_ge (tgt := 116) hx hb dX3_store_4 (by decide) (fun c4 => absurd ((nI_leI (by omega) (by omega)).mp c4) (by omega)) (fun c4 => ?_)
    refine lv_lconst (v := 0) hx hb dX3_store_7 (by decide) ?_
    refine lv_lstore_n (lv' := [(3, .long 0), (2, .int (nI i)), (0, .ref om), (1, .int (nI to))]) hx hb dX3_store_8 rfl hl (by decide) rfl (fun ls hl => ?_)
    refine lv_iconst (v := nI 0) hx hb dX3_store_9 (by decide) ?_
    refine lv_istore (lv' := [(5, .int (nI 0)), (3, .long 0), (2, .int (nI i)), (0, .ref om), (1, .int (nI to))]) hx hb dX3_store_10 hl (by decide) rfl (fun ls hl => ?_)
    refine z_loop (fun k H locs ls => ∃ (g : Nat → Int64) (o : Int64), Jcar f g k o ∧ zH D A s.heap ([(om, .inr (3, [.int fp, .int fs, .int fr, .ref aSc, .ref aPt, .ref aDg, .ref aSu])), (aSc, .inl (cA, 4, .inr (.inl scf))), (aPt, .inl (cA, 4, .inr (.inl ptf))), (aDg, .inl (cI, 208, .inl dg)), (aSu, .inl (cA, 32, .inr (.inl g)))]) H locs ∧ lv_has ls 10 [(5, .int (nI k)), (3, .long o), (2, .int (nI i)), (0, .ref om), (1, .int (nI to))]) 16 ?_ ?_ ?_
    · exact ⟨f, 0, Jcar_0 f, ⟨hP, hD, hS⟩, hl⟩
    · rintro k H locs ls hk ⟨g, o, hC, ⟨hP, hD, hS⟩, hl⟩ ih2
      refine lv_iload hx hb dX3_store_12 (lv_at hl 0 rfl) ?_
      refine lv_bipush (v := nI 16) hx hb dX3_store_14 (by decide) ?_
      refine lv_icmp_ge (tgt := 55) hx hb dX3_store_16 (by decide) (fun c16 => absurd ((nI_leI (by omega) (by omega)).mp c16) (by omega)) (fun c16 => ?_)
      refine lv_aload_n hx hb dX3_store_19 rfl (lv_at hl 3 rfl) ?_
      refine va_get (D := D) (ci := 3) (v := .ref aSu) (C := RX3) (T := TX3) (N := 7) hx hb hts (by decide +kernel) hown hK hP 0 rfl rfl 6 (by decide) (hts (.fieldLink RX3 20 "LadderDeskModel" "sums" "[J") (by decide +kernel)) (fun _ h9 => h9) rfl dX3_store_20 ?_
      refine lv_iload hx hb dX3_store_23 (lv_at hl 0 rfl) ?_
      refine y_ld hx hb hK hP 4 0 rfl rfl k rfl (by omega) (by omega) dX3_store_25 ?_
      refine lv_topl (fun v25 e25 => ?_)
      refine lv_lload_n hx hb dX3_store_26 rfl (lv_at hl 1 rfl) ?_
      refine lv_ladd hx hb dX3_store_27 ?_
      refine lv_topl (fun v27 e27 => ?_)
      refine lv_lstore (lv' := [(6, .long v27), (5, .int (nI k)), (3, .long o), (2, .int (nI i)), (0, .ref om), (1, .int (nI to))]) hx hb dX3_store_28 hl (by decide) rfl (fun ls hl => ?_)
      refine lv_aload_n hx hb dX3_store_30 rfl (lv_at hl 4 rfl) ?_
      refine va_get (D := D) (ci := 3) (v := .ref aSu) (C := RX3) (T := TX3) (N := 7) hx hb hts (by decide +kernel) hown hK hP 0 rfl rfl 6 (by decide) (hts (.fieldLink RX3 20 "LadderDeskModel" "sums" "[J") (by decide +kernel)) (fun _ h9 => h9) rfl dX3_store_31 ?_
      refine lv_iload hx hb dX3_store_34 (lv_at hl 1 rfl) ?_
      refine lv_lload hx hb dX3_store_36 (lv_at hl 0 rfl) ?_
      refine lv_ldc2 (v := 65535) hx hb hown (hts (.constantLong RX3 33 (65535)) (by decide +kernel)) dX3_store_38 ?_
      refine lv_land hx hb dX3_store_41 ?_
      refine lv_topl (fun v41 e41 => ?_)
      refine y_st hx hb hK hP hD hS 4 0 rfl rfl k rfl (by omega) (by omega) dX3_store_42 (fun H locs hP hD hS => ?_)
      have hP : va_P D vwCl ([(om, .inr (3, [.int fp, .int fs, .int fr, .ref aSc, .ref aPt, .ref aDg, .ref aSu])), (aSc, .inl (cA, 4, .inr (.inl scf))), (aPt, .inl (cA, 4, .inr (.inl ptf))), (aDg, .inl (cI, 208, .inl dg)), (aSu, .inl (cA, 32, .inr (.inl (vp_updL g k v41))))]) H := hP
      have hD : va_D A ([(om, .inr (3, [.int fp, .int fs, .int fr, .ref aSc, .ref aPt, .ref aDg, .ref aSu])), (aSc, .inl (cA, 4, .inr (.inl scf))), (aPt, .inl (cA, 4, .inr (.inl ptf))), (aDg, .inl (cI, 208, .inl dg)), (aSu, .inl (cA, 32, .inr (.inl (vp_updL g k v41))))]) := hD
      refine lv_lload hx hb dX3_store_43 (lv_at hl 0 rfl) ?_
      refine lv_bipush (v := nI 16) hx hb dX3_store_45 (by decide) ?_
      refine lv_lshr hx hb dX3_store_47 rfl ?_
      refine lv_topl (fun v47 e47 => ?_)
      refine lv_lstore_n (lv' := [(3, .long v47), (6, .long v27), (5, .int (nI k)), (2, .int (nI i)), (0, .ref om), (1, .int (nI to))]) hx hb dX3_store_48 rfl hl (by decide) rfl (fun ls hl => ?_)
      refine lv_iinc (v := nI (k + 1)) (lv' := [(5, .int (nI (k + 1))), (3, .long v47), (6, .long v27), (2, .int (nI i)), (0, .ref om), (1, .int (nI to))]) hx hb dX3_store_49 hl (k := 2) rfl (by show nI _ + nI 1 = _; exact nI_add _ _) (by decide) rfl (fun ls hl => ?_)
      refine lv_goto (tgt := 12) hx hb dX3_store_52 (by decide) ?_
      exact ih2 _ _ _ ⟨_, _, Jcar_s (v := v27) hC (hJ.1 k hk) (by rw [e27, e25]) e41 e47, ⟨hP, hD, hS⟩, lv_sub hl [0, 1, 3, 4, 5] rfl⟩
    · rintro H locs ls ⟨g, o, hC, ⟨hP, hD, hS⟩, hl⟩
      refine lv_iload hx hb dX3_store_12 (lv_at hl 0 rfl) ?_
      refine lv_bipush (v := nI 16) hx hb dX3_store_14 (by decide) ?_
      refine lv_icmp_ge (tgt := 55) hx hb dX3_store_16 (by decide) (fun c16 => ?_) (fun c16 => absurd ((nI_leI (by omega) (by omega)).mpr (by omega)) c16)
      refine lv_lload_n hx hb dX3_store_55 rfl (lv_at hl 1 rfl) ?_
      refine lv_ldc2 (v := 2) hx hb hown (hts (.constantLong RX3 35 (2)) (by decide +kernel)) dX3_store_56 ?_
      refine lv_lmul hx hb dX3_store_59 ?_
      refine lv_topl (fun v59 e59 => ?_)
      refine lv_aload_n hx hb dX3_store_60 rfl (lv_at hl 3 rfl) ?_
      refine va_get (D := D) (ci := 3) (v := .ref aSu) (C := RX3) (T := TX3) (N := 7) hx hb hts (by decide +kernel) hown hK hP 0 rfl rfl 6 (by decide) (hts (.fieldLink RX3 20 "LadderDeskModel" "sums" "[J") (by decide +kernel)) (fun _ h9 => h9) rfl dX3_store_61 ?_
      refine lv_bipush (v := nI 15) hx hb dX3_store_64 (by decide) ?_
      refine y_ld hx hb hK hP 4 0 rfl rfl 15 rfl (by omega) (by omega) dX3_store_66 ?_
      refine lv_topl (fun v66 e66 => ?_)
      refine lv_bipush (v := nI 15) hx hb dX3_store_67 (by decide) ?_
      refine lv_lshr hx hb dX3_store_69 rfl ?_
      refine lv_topl (fun v69 e69 => ?_)
      refine lv_ladd hx hb dX3_store_70 ?_
      refine lv_topl (fun v70 e70 => ?_)
      refine lv_lstore (lv' := [(5, .long v70), (3, .long o), (2, .int (nI i)), (0, .ref om), (1, .int (nI to))]) hx hb dX3_store_71 hl (by decide) rfl (fun ls hl => ?_)
      refine lv_aload_n hx hb dX3_store_73 rfl (lv_at hl 3 rfl) ?_
      refine va_get (D := D) (ci := 3) (v := .ref aSu) (C := RX3) (T := TX3) (N := 7) hx hb hts (by decide +kernel) hown hK hP 0 rfl rfl 6 (by decide) (hts (.fieldLink RX3 20 "LadderDeskModel" "sums" "[J") (by decide +kernel)) (fun _ h9 => h9) rfl dX3_store_74 ?_
      refine lv_bipush (v := nI 15) hx hb dX3_store_77 (by decide) ?_
      refine lv_aload_n hx hb dX3_store_79 rfl (lv_at hl 3 rfl) ?_
      refine va_get (D := D) (ci := 3) (v := .ref aSu) (C := RX3) (T := TX3) (N := 7) hx hb hts (by decide +kernel) hown hK hP 0 rfl rfl 6 (by decide) (hts (.fieldLink RX3 20 "LadderDeskModel" "sums" "[J") (by decide +kernel)) (fun _ h9 => h9) rfl dX3_store_80 ?_
      refine lv_bipush (v := nI 15) hx hb dX3_store_83 (by decide) ?_
      refine y_ld hx hb hK hP 4 0 rfl rfl 15 rfl (by omega) (by omega) dX3_store_85 ?_
      refine lv_topl (fun v85 e85 => ?_)
      refine lv_ldc2 (v := 32767) hx hb hown (hts (.constantLong RX3 37 (32767)) (by decide +kernel)) dX3_store_86 ?_
      refine lv_land hx hb dX3_store_89 ?_
      refine lv_topl (fun v89 e89 => ?_)
      refine y_st hx hb hK hP hD hS 4 0 rfl rfl 15 rfl (by omega) (by omega) dX3_store_90 (fun H locs hP hD hS => ?_)
      have hP : va_P D vwCl ([(om, .inr (3, [.int fp, .int fs, .int fr, .ref aSc, .ref aPt, .ref aDg, .ref aSu])), (aSc, .inl (cA, 4, .inr (.inl scf))), (aPt, .inl (cA, 4, .inr (.inl ptf))), (aDg, .inl (cI, 208, .inl dg)), (aSu, .inl (cA, 32, .inr (.inl (vp_updL g 15 v89))))]) H := hP
      have hD : va_D A ([(om, .inr (3, [.int fp, .int fs, .int fr, .ref aSc, .ref aPt, .ref aDg, .ref aSu])), (aSc, .inl (cA, 4, .inr (.inl scf))), (aPt, .inl (cA, 4, .inr (.inl ptf))), (aDg, .inl (cI, 208, .inl dg)), (aSu, .inl (cA, 32, .inr (.inl (vp_updL g 15 v89))))]) := hD
      refine lv_aload_n hx hb dX3_store_91 rfl (lv_at hl 3 rfl) ?_
      refine va_get (D := D) (ci := 3) (v := .ref aSu) (C := RX3) (T := TX3) (N := 7) hx hb hts (by decide +kernel) hown hK hP 0 rfl rfl 6 (by decide) (hts (.fieldLink RX3 20 "LadderDeskModel" "sums" "[J") (by decide +kernel)) (fun _ h9 => h9) rfl dX3_store_92 ?_
      refine lv_iconst (v := nI 0) hx hb dX3_store_95 (by decide) ?_
      refine lv_aload_n hx hb dX3_store_96 rfl (lv_at hl 3 rfl) ?_
      refine va_get (D := D) (ci := 3) (v := .ref aSu) (C := RX3) (T := TX3) (N := 7) hx hb hts (by decide +kernel) hown hK hP 0 rfl rfl 6 (by decide) (hts (.fieldLink RX3 20 "LadderDeskModel" "sums" "[J") (by decide +kernel)) (fun _ h9 => h9) rfl dX3_store_97 ?_
      refine lv_iconst (v := nI 0) hx hb dX3_store_100 (by decide) ?_
      refine y_ld hx hb hK hP 4 0 rfl rfl 0 rfl (by omega) (by omega) dX3_store_101 ?_
      refine lv_topl (fun v101 e101 => ?_)
      refine lv_ldc2 (v := 19) hx hb hown (hts (.constantLong RX3 39 (19)) (by decide +kernel)) dX3_store_102 ?_
      refine lv_lload hx hb dX3_store_105 (lv_at hl 0 rfl) ?_
      refine lv_lmul hx hb dX3_store_107 ?_
      refine lv_topl (fun v107 e107 => ?_)
      refine lv_ladd hx hb dX3_store_108 ?_
      refine lv_topl (fun v108 e108 => ?_)
      refine y_st hx hb hK hP hD hS 4 0 rfl rfl 0 rfl (by omega) (by omega) dX3_store_109 (fun H locs hP hD hS => ?_)
      have hP : va_P D vwCl ([(om, .inr (3, [.int fp, .int fs, .int fr, .ref aSc, .ref aPt, .ref aDg, .ref aSu])), (aSc, .inl (cA, 4, .inr (.inl scf))), (aPt, .inl (cA, 4, .inr (.inl ptf))), (aDg, .inl (cI, 208, .inl dg)), (aSu, .inl (cA, 32, .inr (.inl (vp_updL (vp_updL g 15 v89) 0 v108))))]) H := hP
      have hD : va_D A ([(om, .inr (3, [.int fp, .int fs, .int fr, .ref aSc, .ref aPt, .ref aDg, .ref aSu])), (aSc, .inl (cA, 4, .inr (.inl scf))), (aPt, .inl (cA, 4, .inr (.inl ptf))), (aDg, .inl (cI, 208, .inl dg)), (aSu, .inl (cA, 32, .inr (.inl (vp_updL (vp_updL g 15 v89) 0 v108))))]) := hD
      refine lv_iinc (v := nI (i + 1)) (lv' := [(2, .int (nI (i + 1))), (5, .long v70), (3, .long o), (0, .ref om), (1, .int (nI to))]) hx hb dX3_store_110 hl (k := 2) rfl (by show nI _ + nI 1 = _; exact nI_add _ _) (by decide) rfl (fun ls hl => ?_)
      refine lv_goto (tgt := 2) hx hb dX3_store_113 (by decide) ?_
      have e101 : v101 = g 0 := by rw [e101]; unfold vp_updL; rw [if_neg (by omega)]
      exact ih _ _ _ ⟨_, Jt_s hJ (Jcar_t (a2 := v59) (b := v69) (ab := v70) (z := v89) (c := v107) (d := v108) hC e59 (by rw [e69, e66]) e70 (by rw [e89, e85]) e107 (by rw [e108, e101])), ⟨hP, hD, hS⟩, lv_sub hl [0, 3, 4] rfl⟩
  · rintro H locs ls ⟨f, hJ, ⟨hP, hD, hS⟩, hl⟩
    have hJ2 := hJ.2.2.2 (by omega)
    refine lv_iload_n hx hb dX3_store_2 rfl (lv_at hl 0 rfl) ?_
    refine lv_iconst (v := nI 3) hx hb dX3_store_3 (by decide) ?_
    refine lv_icmp_ge (tgt := 116) hx hb dX3_store_4 (by decide) (fun c4 => ?_) (fun c4 => absurd ((nI_leI (by omega) (by omega)).mpr (by omega)) c4)
    refine lv_lconst (v := 0) hx hb dX3_store_116 (by decide) ?_
    refine lv_lstore_n (lv' := [(2, .long 0), (0, .ref om), (1, .int (nI to))]) hx hb dX3_store_117 rfl hl (by decide) rfl (fun ls hl => ?_)
    refine lv_iconst (v := nI 0) hx hb dX3_store_118 (by decide) ?_
    refine lv_istore (lv' := [(4, .int (nI 0)), (2, .long 0), (0, .ref om), (1, .int (nI to))]) hx hb dX3_store_119 hl (by decide) rfl (fun ls hl => ?_)
    refine z_loop (fun k H locs ls => ∃ (g : Nat → Int64) (o : Int64), Jcar f g k o ∧ zH D A s.heap ([(om, .inr (3, [.int fp, .int fs, .int fr, .ref aSc, .ref aPt, .ref aDg, .ref aSu])), (aSc, .inl (cA, 4, .inr (.inl scf))), (aPt, .inl (cA, 4, .inr (.inl ptf))), (aDg, .inl (cI, 208, .inl dg)), (aSu, .inl (cA, 32, .inr (.inl g)))]) H locs ∧ lv_has ls 10 [(4, .int (nI k)), (2, .long o), (0, .ref om), (1, .int (nI to))]) 16 ?_ ?_ ?_
    · exact ⟨f, 0, Jcar_0 f, ⟨hP, hD, hS⟩, lv_sub hl [0, 1, 2, 3] rfl⟩
    · rintro k H locs ls hk ⟨g, o, hC, ⟨hP, hD, hS⟩, hl⟩ ih2
      refine lv_iload hx hb dX3_store_121 (lv_at hl 0 rfl) ?_
      refine lv_bipush (v := nI 16) hx hb dX3_store_123 (by decide) ?_
      refine lv_icmp_ge (tgt := 164) hx hb dX3_store_125 (by decide) (fun c125 => absurd ((nI_leI (by omega) (by omega)).mp c125) (by omega)) (fun c125 => ?_)
      refine lv_aload_n hx hb dX3_store_128 rfl (lv_at hl 2 rfl) ?_
      refine va_get (D := D) (ci := 3) (v := .ref aSu) (C := RX3) (T := TX3) (N := 7) hx hb hts (by decide +kernel) hown hK hP 0 rfl rfl 6 (by decide) (hts (.fieldLink RX3 20 "LadderDeskModel" "sums" "[J") (by decide +kernel)) (fun _ h9 => h9) rfl dX3_store_129 ?_
      refine lv_iload hx hb dX3_store_132 (lv_at hl 0 rfl) ?_
      refine y_ld hx hb hK hP 4 0 rfl rfl k rfl (by omega) (by omega) dX3_store_134 ?_
      refine lv_topl (fun v134 e134 => ?_)
      refine lv_lload_n hx hb dX3_store_135 rfl (lv_at hl 1 rfl) ?_
      refine lv_ladd hx hb dX3_store_136 ?_
      refine lv_topl (fun v136 e136 => ?_)
      refine lv_lstore (lv' := [(5, .long v136), (4, .int (nI k)), (2, .long o), (0, .ref om), (1, .int (nI to))]) hx hb dX3_store_137 hl (by decide) rfl (fun ls hl => ?_)
      refine lv_aload_n hx hb dX3_store_139 rfl (lv_at hl 3 rfl) ?_
      refine va_get (D := D) (ci := 3) (v := .ref aSu) (C := RX3) (T := TX3) (N := 7) hx hb hts (by decide +kernel) hown hK hP 0 rfl rfl 6 (by decide) (hts (.fieldLink RX3 20 "LadderDeskModel" "sums" "[J") (by decide +kernel)) (fun _ h9 => h9) rfl dX3_store_140 ?_
      refine lv_iload hx hb dX3_store_143 (lv_at hl 1 rfl) ?_
      refine lv_lload hx hb dX3_store_145 (lv_at hl 0 rfl) ?_
      refine lv_ldc2 (v := 65535) hx hb hown (hts (.constantLong RX3 33 (65535)) (by decide +kernel)) dX3_store_147 ?_
      refine lv_land hx hb dX3_store_150 ?_
      refine lv_topl (fun v150 e150 => ?_)
      refine y_st hx hb hK hP hD hS 4 0 rfl rfl k rfl (by omega) (by omega) dX3_store_151 (fun H locs hP hD hS => ?_)
      have hP : va_P D vwCl ([(om, .inr (3, [.int fp, .int fs, .int fr, .ref aSc, .ref aPt, .ref aDg, .ref aSu])), (aSc, .inl (cA, 4, .inr (.inl scf))), (aPt, .inl (cA, 4, .inr (.inl ptf))), (aDg, .inl (cI, 208, .inl dg)), (aSu, .inl (cA, 32, .inr (.inl (vp_updL g k v150))))]) H := hP
      have hD : va_D A ([(om, .inr (3, [.int fp, .int fs, .int fr, .ref aSc, .ref aPt, .ref aDg, .ref aSu])), (aSc, .inl (cA, 4, .inr (.inl scf))), (aPt, .inl (cA, 4, .inr (.inl ptf))), (aDg, .inl (cI, 208, .inl dg)), (aSu, .inl (cA, 32, .inr (.inl (vp_updL g k v150))))]) := hD
      refine lv_lload hx hb dX3_store_152 (lv_at hl 0 rfl) ?_
      refine lv_bipush (v := nI 16) hx hb dX3_store_154 (by decide) ?_
      refine lv_lshr hx hb dX3_store_156 rfl ?_
      refine lv_topl (fun v156 e156 => ?_)
      refine lv_lstore_n (lv' := [(2, .long v156), (5, .long v136), (4, .int (nI k)), (0, .ref om), (1, .int (nI to))]) hx hb dX3_store_157 rfl hl (by decide) rfl (fun ls hl => ?_)
      refine lv_iinc (v := nI (k + 1)) (lv' := [(4, .int (nI (k + 1))), (2, .long v156), (5, .long v136), (0, .ref om), (1, .int (nI to))]) hx hb dX3_store_158 hl (k := 2) rfl (by show nI _ + nI 1 = _; exact nI_add _ _) (by decide) rfl (fun ls hl => ?_)
      refine lv_goto (tgt := 121) hx hb dX3_store_161 (by decide) ?_
      exact ih2 _ _ _ ⟨_, _, Jcar_s (v := v136) hC (hJ.1 k hk) (by rw [e136, e134]) e150 e156, ⟨hP, hD, hS⟩, lv_sub hl [0, 1, 3, 4] rfl⟩
    · rintro H locs ls ⟨g, o, hC, ⟨hP, hD, hS⟩, hl⟩
      obtain ⟨hG1, hG2⟩ := Jcar_e hC hJ2
      refine lv_iload hx hb dX3_store_121 (lv_at hl 0 rfl) ?_
      refine lv_bipush (v := nI 16) hx hb dX3_store_123 (by decide) ?_
      refine lv_icmp_ge (tgt := 164) hx hb dX3_store_125 (by decide) (fun c125 => ?_) (fun c125 => absurd ((nI_leI (by omega) (by omega)).mpr (by omega)) c125)
      refine lv_aload_n hx hb dX3_store_164 rfl (lv_at hl 2 rfl) ?_
      refine z_calli (va_runV (As := []) (rest := []) ⟨hx, hb, hml, hown, hts⟩ (m_isGreat l D cA cI tys om aSc aPt aDg aSu fp fs fr scf ptf dg g hG1 _) (cwV 0 hts gX3_store_X3_isGreat rfl rfl rfl (by decide +kernel) ⟨Nat.le_of_ble_eq_true rfl, Nat.le_of_ble_eq_true rfl⟩) (z_preV _ hK hP hD (ci := 3) (q0 := 0) rfl rfl) rfl rfl hl.1 rfl (lv_room (Nat.le_of_ble_eq_true rfl)) dX3_store_165 ⟨Nat.le_of_ble_eq_true rfl, Nat.le_of_ble_eq_true rfl⟩) hD hS hA (fun r165 u H locs hu hP hD hS => ?_)
      obtain ⟨⟨gr, hgr, hr165⟩, rfl⟩ := hu
      refine lv_istore (lv' := [(4, .int r165), (2, .long o), (0, .ref om), (1, .int (nI to))]) hx hb dX3_store_168 hl (by decide) rfl (fun ls hl => ?_)
      refine lv_lconst (v := 0) hx hb dX3_store_170 (by decide) ?_
      refine lv_lstore (lv' := [(5, .long 0), (4, .int r165), (2, .long o), (0, .ref om), (1, .int (nI to))]) hx hb dX3_store_171 hl (by decide) rfl (fun ls hl => ?_)
      refine lv_iconst (v := nI 0) hx hb dX3_store_173 (by decide) ?_
      refine lv_istore (lv' := [(7, .int (nI 0)), (5, .long 0), (4, .int r165), (2, .long o), (0, .ref om), (1, .int (nI to))]) hx hb dX3_store_174 hl (by decide) rfl (fun ls hl => ?_)
      refine z_loop (fun k H locs ls => ∃ (dg' : Nat → Int32) (o : Int64), Jst (fI g) gr dg dg' to k o ∧ zH D A s.heap ([(om, .inr (3, [.int fp, .int fs, .int fr, .ref aSc, .ref aPt, .ref aDg, .ref aSu])), (aSc, .inl (cA, 4, .inr (.inl scf))), (aPt, .inl (cA, 4, .inr (.inl ptf))), (aDg, .inl (cI, 208, .inl dg')), (aSu, .inl (cA, 32, .inr (.inl g)))]) H locs ∧ lv_has ls 10 [(7, .int (nI k)), (5, .long o), (4, .int r165), (0, .ref om), (1, .int (nI to))]) 16 ?_ ?_ ?_
      · exact ⟨dg, 0, Jst_0 _ gr dg to, ⟨hP, hD, hS⟩, lv_sub hl [0, 1, 2, 4, 5] rfl⟩
      · rintro k H locs ls hk ⟨dg', o, hC2, ⟨hP, hD, hS⟩, hl⟩ ih2
        refine lv_iload hx hb dX3_store_176 (lv_at hl 0 rfl) ?_
        refine lv_bipush (v := nI 16) hx hb dX3_store_178 (by decide) ?_
        refine lv_icmp_ge (tgt := 243) hx hb dX3_store_180 (by decide) (fun c180 => absurd ((nI_leI (by omega) (by omega)).mp c180) (by omega)) (fun c180 => ?_)
        refine lv_aload_n hx hb dX3_store_183 rfl (lv_at hl 3 rfl) ?_
        refine va_get (D := D) (ci := 3) (v := .ref aSu) (C := RX3) (T := TX3) (N := 7) hx hb hts (by decide +kernel) hown hK hP 0 rfl rfl 6 (by decide) (hts (.fieldLink RX3 20 "LadderDeskModel" "sums" "[J") (by decide +kernel)) (fun _ h9 => h9) rfl dX3_store_184 ?_
        refine lv_iload hx hb dX3_store_187 (lv_at hl 0 rfl) ?_
        refine y_ld hx hb hK hP 4 0 rfl rfl k rfl (by omega) (by omega) dX3_store_189 ?_
        refine lv_topl (fun v189 e189 => ?_)
        refine lv_iload hx hb dX3_store_190 (lv_at hl 2 rfl) ?_
        refine lv_if_eq (tgt := 203) hx hb dX3_store_192 (by decide) (fun c192 => ?_) (fun c192 => ?_)
        · have hf : gr = false := by cases gr with | false => rfl | true => rw [hr165] at c192; exact absurd c192 (by decide)
          refine lv_iconst (v := nI 0) hx hb dX3_store_203 (by decide) ?_
          refine lv_i2l hx hb dX3_store_204 rfl ?_
          refine lv_topl (fun v204 e204 => ?_)
          refine lv_lsub hx hb dX3_store_205 ?_
          refine lv_topl (fun v205 e205 => ?_)
          refine lv_lload hx hb dX3_store_206 (lv_at hl 1 rfl) ?_
          refine lv_ladd hx hb dX3_store_208 ?_
          refine lv_topl (fun v208 e208 => ?_)
          refine lv_lstore (lv' := [(8, .long v208), (7, .int (nI k)), (5, .long o), (4, .int r165), (0, .ref om), (1, .int (nI to))]) hx hb dX3_store_209 hl (by decide) rfl (fun ls hl => ?_)
          refine lv_aload_n hx hb dX3_store_211 rfl (lv_at hl 4 rfl) ?_
          refine va_get (D := D) (ci := 3) (v := .ref aDg) (C := RX3) (T := TX3) (N := 7) hx hb hts (by decide +kernel) hown hK hP 0 rfl rfl 5 (by decide) (hts (.fieldLink RX3 16 "LadderDeskModel" "digits" "[I") (by decide +kernel)) (fun _ h9 => h9) rfl dX3_store_212 ?_
          refine lv_bipush (v := nI 16) hx hb dX3_store_215 (by decide) ?_
          refine lv_iload_n hx hb dX3_store_217 rfl (lv_at hl 5 rfl) ?_
          refine lv_imul hx hb dX3_store_218 ?_
          refine zi (pk_mul _ _) ?_
          refine lv_iload hx hb dX3_store_219 (lv_at hl 1 rfl) ?_
          refine lv_iadd hx hb dX3_store_221 ?_
          refine zi (nI_add _ _) ?_
          refine lv_lload hx hb dX3_store_222 (lv_at hl 0 rfl) ?_
          refine lv_ldc2 (v := 65535) hx hb hown (hts (.constantLong RX3 33 (65535)) (by decide +kernel)) dX3_store_224 ?_
          refine lv_land hx hb dX3_store_227 ?_
          refine lv_topl (fun v227 e227 => ?_)
          refine lv_l2i hx hb dX3_store_228 rfl ?_
          refine lv_topi (fun v228 e228 => ?_)
          refine y_sti hx hb hK hP hD hS 3 1 rfl rfl ((16 * to) + k) rfl (by omega) (by omega) dX3_store_229 (fun H locs hP hD hS => ?_)
          have hP : va_P D vwCl ([(om, .inr (3, [.int fp, .int fs, .int fr, .ref aSc, .ref aPt, .ref aDg, .ref aSu])), (aSc, .inl (cA, 4, .inr (.inl scf))), (aPt, .inl (cA, 4, .inr (.inl ptf))), (aDg, .inl (cI, 208, .inl (upd dg' ((16 * to) + k) v228))), (aSu, .inl (cA, 32, .inr (.inl g)))]) H := hP
          have hD : va_D A ([(om, .inr (3, [.int fp, .int fs, .int fr, .ref aSc, .ref aPt, .ref aDg, .ref aSu])), (aSc, .inl (cA, 4, .inr (.inl scf))), (aPt, .inl (cA, 4, .inr (.inl ptf))), (aDg, .inl (cI, 208, .inl (upd dg' ((16 * to) + k) v228))), (aSu, .inl (cA, 32, .inr (.inl g)))]) := hD
          refine lv_lload hx hb dX3_store_230 (lv_at hl 0 rfl) ?_
          refine lv_bipush (v := nI 16) hx hb dX3_store_232 (by decide) ?_
          refine lv_lshr hx hb dX3_store_234 rfl ?_
          refine lv_topl (fun v234 e234 => ?_)
          refine lv_lstore (lv' := [(5, .long v234), (8, .long v208), (7, .int (nI k)), (4, .int r165), (0, .ref om), (1, .int (nI to))]) hx hb dX3_store_235 hl (by decide) rfl (fun ls hl => ?_)
          refine lv_iinc (v := nI (k + 1)) (lv' := [(7, .int (nI (k + 1))), (5, .long v234), (8, .long v208), (4, .int r165), (0, .ref om), (1, .int (nI to))]) hx hb dX3_store_237 hl (k := 2) rfl (by show nI _ + nI 1 = _; exact nI_add _ _) (by decide) rfl (fun ls hl => ?_)
          refine lv_goto (tgt := 176) hx hb dX3_store_240 (by decide) ?_
          exact ih2 _ _ _ ⟨_, _, Jst_s (x := v189) (y := v204) (z := v205) (lf := v208) (r := v227) hC2 hk (hG1 k hk) (by rw [e189]; rfl) (by rw [e204, tl_i2l, hf]; rfl) e205 e208 e227 e228 e234, ⟨hP, hD, hS⟩, lv_sub hl [0, 1, 3, 4, 5] rfl⟩
        · have hf : gr = true := by cases gr with | true => rfl | false => rw [hr165] at c192; exact absurd rfl c192
          refine lv_iload hx hb dX3_store_195 (lv_at hl 0 rfl) ?_
          refine z_calli (va_runS (As := [.int (nI k)]) (rest := [.long v189]) ⟨hx, hb, hml, hown, hts⟩ (c_ofP l D ((cA, .long) :: (cI, .int) :: tys) _ k (by omega) _) (va_cwS 1 hts gX3_store_X3_ofP rfl rfl rfl (by decide +kernel) ⟨Nat.le_of_ble_eq_true rfl, Nat.le_of_ble_eq_true rfl⟩) (z_preS _ hK hP hD) rfl rfl hl.1 rfl (lv_room (Nat.le_of_ble_eq_true rfl)) dX3_store_197 ⟨Nat.le_of_ble_eq_true rfl, Nat.le_of_ble_eq_true rfl⟩) hD hS hA (fun r197 u H locs hu hP hD hS => ?_)
          obtain ⟨rfl, ho197⟩ := hu
          refine lv_goto (tgt := 204) hx hb dX3_store_200 (by decide) ?_
          refine lv_i2l hx hb dX3_store_204 rfl ?_
          refine lv_topl (fun v204 e204 => ?_)
          refine lv_lsub hx hb dX3_store_205 ?_
          refine lv_topl (fun v205 e205 => ?_)
          refine lv_lload hx hb dX3_store_206 (lv_at hl 1 rfl) ?_
          refine lv_ladd hx hb dX3_store_208 ?_
          refine lv_topl (fun v208 e208 => ?_)
          refine lv_lstore (lv' := [(8, .long v208), (7, .int (nI k)), (5, .long o), (4, .int r165), (0, .ref om), (1, .int (nI to))]) hx hb dX3_store_209 hl (by decide) rfl (fun ls hl => ?_)
          refine lv_aload_n hx hb dX3_store_211 rfl (lv_at hl 4 rfl) ?_
          refine va_get (D := D) (ci := 3) (v := .ref aDg) (C := RX3) (T := TX3) (N := 7) hx hb hts (by decide +kernel) hown hK hP 0 rfl rfl 5 (by decide) (hts (.fieldLink RX3 16 "LadderDeskModel" "digits" "[I") (by decide +kernel)) (fun _ h9 => h9) rfl dX3_store_212 ?_
          refine lv_bipush (v := nI 16) hx hb dX3_store_215 (by decide) ?_
          refine lv_iload_n hx hb dX3_store_217 rfl (lv_at hl 5 rfl) ?_
          refine lv_imul hx hb dX3_store_218 ?_
          refine zi (pk_mul _ _) ?_
          refine lv_iload hx hb dX3_store_219 (lv_at hl 1 rfl) ?_
          refine lv_iadd hx hb dX3_store_221 ?_
          refine zi (nI_add _ _) ?_
          refine lv_lload hx hb dX3_store_222 (lv_at hl 0 rfl) ?_
          refine lv_ldc2 (v := 65535) hx hb hown (hts (.constantLong RX3 33 (65535)) (by decide +kernel)) dX3_store_224 ?_
          refine lv_land hx hb dX3_store_227 ?_
          refine lv_topl (fun v227 e227 => ?_)
          refine lv_l2i hx hb dX3_store_228 rfl ?_
          refine lv_topi (fun v228 e228 => ?_)
          refine y_sti hx hb hK hP hD hS 3 1 rfl rfl ((16 * to) + k) rfl (by omega) (by omega) dX3_store_229 (fun H locs hP hD hS => ?_)
          have hP : va_P D vwCl ([(om, .inr (3, [.int fp, .int fs, .int fr, .ref aSc, .ref aPt, .ref aDg, .ref aSu])), (aSc, .inl (cA, 4, .inr (.inl scf))), (aPt, .inl (cA, 4, .inr (.inl ptf))), (aDg, .inl (cI, 208, .inl (upd dg' ((16 * to) + k) v228))), (aSu, .inl (cA, 32, .inr (.inl g)))]) H := hP
          have hD : va_D A ([(om, .inr (3, [.int fp, .int fs, .int fr, .ref aSc, .ref aPt, .ref aDg, .ref aSu])), (aSc, .inl (cA, 4, .inr (.inl scf))), (aPt, .inl (cA, 4, .inr (.inl ptf))), (aDg, .inl (cI, 208, .inl (upd dg' ((16 * to) + k) v228))), (aSu, .inl (cA, 32, .inr (.inl g)))]) := hD
          refine lv_lload hx hb dX3_store_230 (lv_at hl 0 rfl) ?_
          refine lv_bipush (v := nI 16) hx hb dX3_store_232 (by decide) ?_
          refine lv_lshr hx hb dX3_store_234 rfl ?_
          refine lv_topl (fun v234 e234 => ?_)
          refine lv_lstore (lv' := [(5, .long v234), (8, .long v208), (7, .int (nI k)), (4, .int r165), (0, .ref om), (1, .int (nI to))]) hx hb dX3_store_235 hl (by decide) rfl (fun ls hl => ?_)
          refine lv_iinc (v := nI (k + 1)) (lv' := [(7, .int (nI (k + 1))), (5, .long v234), (8, .long v208), (4, .int r165), (0, .ref om), (1, .int (nI to))]) hx hb dX3_store_237 hl (k := 2) rfl (by show nI _ + nI 1 = _; exact nI_add _ _) (by decide) rfl (fun ls hl => ?_)
          refine lv_goto (tgt := 176) hx hb dX3_store_240 (by decide) ?_
          exact ih2 _ _ _ ⟨_, _, Jst_s (x := v189) (y := v204) (z := v205) (lf := v208) (r := v227) hC2 hk (hG1 k hk) (by rw [e189]; rfl) (by rw [e204, tl_i2l, hf, ho197]; rfl) e205 e208 e227 e228 e234, ⟨hP, hD, hS⟩, lv_sub hl [0, 1, 3, 4, 5] rfl⟩
      · rintro H locs ls ⟨dg', o, hC2, ⟨hP, hD, hS⟩, hl⟩
        refine lv_iload hx hb dX3_store_176 (lv_at hl 0 rfl) ?_
        refine lv_bipush (v := nI 16) hx hb dX3_store_178 (by decide) ?_
        refine lv_icmp_ge (tgt := 243) hx hb dX3_store_180 (by decide) (fun c180 => ?_) (fun c180 => absurd ((nI_leI (by omega) (by omega)).mpr (by omega)) c180)
        have hE := Jst_e hC2 (sv_nn (by decide) (fun j hj => (hG1 j hj).1)) (by omega) hgr
        rw [hG2, cg_emod hJ.2.1] at hE
        exact z_vret hx hb hr hlocks dX3_store_243 hK hP hD hS (⟨dg', g, hC2.2.1, hE, rfl⟩)
end
section
/-- the number a stands for e, by its rest -/
def dc (dg : Nat → Int32) (a : Nat) (e : Int) : Prop := dh dg a (e % pP)
theorem dc_of {dg : Nat → Int32} {a : Nat} {x : Int} (h : dh dg a x) : dc dg a x := by
  unfold dc
  rw [Int.emod_eq_of_lt (dh_in h).1 (dh_in h).2]
  exact h
theorem dc_kp {dg dg' : Nat → Int32} {a to : Nat} {x : Int} (h : dc dg a x) (hne : a ≠ to) (hk : ∀ i, i / 16 ≠ to → dg' i = dg i) : dc dg' a x := dh_kp h hne hk
theorem dc_cg {dg : Nat → Int32} {a : Nat} {x y : Int} (h : dc dg a x) (e : cg x y) : dc dg a y := by
  unfold dc
  rw [← cg_emod e]
  exact h
theorem dc_mod {dg : Nat → Int32} {a : Nat} {x : Int} (h : dc dg a x) : dc dg a (x % pP) := dc_cg h (cg_symm (cg_mod x))
/-- digits by the number -/
theorem dd_of {dg : Nat → Int32} {a : Nat} {x : Int} (h : dh dg a x) {k : Nat} (hk : k < 16) : dd dg a k = x / cB ^ k % cB := by
  rw [← h.2.1]
  exact (sv_dig (by decide) h.1 k hk).symm
theorem same_iff {dg : Nat → Int32} {a b : Nat} {x y : Int} (ha : dh dg a x) (hb : dh dg b y) : (∀ k, k < 16 → dd dg a k = dd dg b k) ↔ x = y := by
  constructor
  · intro h
    rw [← ha.2.1, ← hb.2.1]
    exact sv_congr h
  · intro h k hk
    rw [dd_of ha hk, dd_of hb hk, h]
theorem zero_iff {dg : Nat → Int32} {a : Nat} {x : Int} (ha : dh dg a x) : (∀ k, k < 16 → dd dg a k = 0) ↔ x = 0 := by
  constructor
  · intro h
    rw [← ha.2.1]
    exact sv_0c h
  · intro h k hk
    rw [dd_of ha hk, h]
    simp
theorem sm_dh {dg : Nat → Int32} {to : Nat} {v : Int32} (h : ∀ k, k < 16 → dg (16 * to + k) = if k = 0 then v else 0) (hv : 0 ≤ v.toInt ∧ v.toInt < 65536) : dc dg to v.toInt := by
  apply dc_of
  have e : ∀ k, k < 16 → dd dg to k = if k = 0 then v.toInt else 0 := fun k hk => by
    unfold dd
    rw [h k hk]
    split
    · rfl
    · rfl
  refine ⟨fun k hk => ?_, ?_, ?_⟩
  · rw [e k hk]
    have hB : (cB : Int) = 65536 := rfl
    split <;> omega
  · rw [sv_congr e]
    simp [sv]
  · have hpv : pP = 57896044618658097711785492504343953926634992332820282019728792003956564819949 := rfl
    omega
/-! one bit by an arithmetic shift -/
theorem sbit {x v w : Int64} {s : Nat} (hs : s < 64) (hv : v = x >>> ((nI s).toInt64 &&& 63)) (hw : w = v &&& 1) : (uw x).testBit s = true ↔ w = 1 := by
  have hb : v.toBitVec = x.toBitVec.sshiftRight s := by
    rw [hv, wb_c s hs]
    show x.toBitVec.sshiftRight ((lN s).toBitVec.smod 64).toNat = _
    rw [wb_tb, wb_sm s hs, BitVec.toNat_ofNat, Nat.mod_eq_of_lt (by omega)]
  have h1 : (uw v).testBit 0 = (uw x).testBit s := by
    show v.toBitVec.getLsbD 0 = x.toBitVec.getLsbD s
    rw [hb, BitVec.getLsbD_sshiftRight]
    simp [hs]
  have h2 : uw w = uw v % 2 := by
    rw [hw]
    exact tl_maskN v 1 1 (by decide)
  rw [← h1, Nat.testBit_zero, decide_eq_true_iff]
  constructor
  · intro h
    apply uw_inj
    rw [h2, h]
    decide
  · intro h
    rw [← h2, h]
    decide
/-! digits out of words -/
theorem lN_m16 {n : Nat} (hn : n < 18446744073709551616) : (lN n &&& 65535).toInt = ((n % 65536 : Nat) : Int) := by
  rw [show (65535 : Int64) = lN (2 ^ 16 - 1) from by decide, wb_mask (by omega) (by omega), uw_ls (by omega)]
theorem rd_16 {x v w : Int64} {sh : Nat} (hsh : sh < 64) (hv : v = (x.toUInt64 >>> ((nI sh).toInt64.toUInt64 &&& Int64.toUInt64 63)).toInt64) (hw : w = v &&& 65535) : w.toInt = ((uw x / 2 ^ sh % 65536 : Nat) : Int) := by
  have hx := uw_lt x
  rw [hw, hv, uw_eq x, wb_shr (by omega) hsh, uw_of hx, lN_m16 (Nat.lt_of_le_of_lt (Nat.div_le_self _ _) hx)]
theorem svx (f : Nat → Int) : sv cB f 16 = f 0 + f 1 * 65536 + f 2 * 4294967296 + f 3 * 281474976710656 + f 4 * 18446744073709551616 + f 5 * 1208925819614629174706176 + f 6 * 79228162514264337593543950336 + f 7 * 5192296858534827628530496329220096 + f 8 * 340282366920938463463374607431768211456 + f 9 * 22300745198530623141535718272648361505980416 + f 10 * 1461501637330902918203684832716283019655932542976 + f 11 * 95780971304118053647396689196894323976171195136475136 + f 12 * 6277101735386680763835789423207666416102355444464034512896 + f 13 * 411376139330301510538742295639337626245683966408394965837152256 + f 14 * 26959946667150639794667015087019630673637144422540572481103610249216 + f 15 * 1766847064778384329583297500742918515827483896875618958121606201292619776 := by
  simp [sv, cB]
theorem word4 {w : Nat} (h : w < 18446744073709551616) : w % 65536 + w / 65536 % 65536 * 65536 + w / 4294967296 % 65536 * 4294967296 + w / 281474976710656 % 65536 * 281474976710656 = w := by omega
theorem word4t {w : Nat} (h : w < 18446744073709551616) : w % 65536 + w / 65536 % 65536 * 65536 + w / 4294967296 % 65536 * 4294967296 + w / 281474976710656 % 32768 * 281474976710656 = w % 9223372036854775808 := by omega
theorem makeU_sum {f : Nat → Int64} {t : Nat → Int64} {z : Int64} (ht : ∀ k, k < 16 → fI t k = ((uw (f (k / 4)) / 2 ^ (16 * (k % 4)) % 65536 : Nat) : Int)) (hz : z = t 15 &&& 32767) : (∀ k, k < 16 → 0 ≤ fI (vp_updL t 15 z) k ∧ fI (vp_updL t 15 z) k < 8796093022208) ∧ sv cB (fI (vp_updL t 15 z)) 16 % pP = (uo f : Int) := by
  have hzi : z.toInt = fI t 15 % 32768 := by rw [hz]; exact tl_m15 _
  have h15 : z.toInt = ((uw (f 3) / 281474976710656 % 32768 : Nat) : Int) := by
    rw [hzi, ht 15 (by omega)]
    show (((uw (f 3) / 281474976710656 % 65536 : Nat) : Int)) % 32768 = _
    omega
  refine ⟨fun k hk => ?_, ?_⟩
  · by_cases e : k = 15
    · subst e; rw [fI_us, h15]; omega
    · rw [fI_un e, ht k hk]; omega
  · have e0 := word4 (uw_lt (f 0))
    have e1 := word4 (uw_lt (f 1))
    have e2 := word4 (uw_lt (f 2))
    have e3 := word4t (uw_lt (f 3))
    have hs : sv cB (fI (vp_updL t 15 z)) 16 = ((uw (f 0) + uw (f 1) * 18446744073709551616 + uw (f 2) * 340282366920938463463374607431768211456 + uw (f 3) % 9223372036854775808 * 6277101735386680763835789423207666416102355444464034512896 : Nat) : Int) := by
      rw [svx, fI_us, fI_un (show (0 : Nat) ≠ 15 by omega), fI_un (show (1 : Nat) ≠ 15 by omega), fI_un (show (2 : Nat) ≠ 15 by omega), fI_un (show (3 : Nat) ≠ 15 by omega), fI_un (show (4 : Nat) ≠ 15 by omega), fI_un (show (5 : Nat) ≠ 15 by omega), fI_un (show (6 : Nat) ≠ 15 by omega), fI_un (show (7 : Nat) ≠ 15 by omega), fI_un (show (8 : Nat) ≠ 15 by omega), fI_un (show (9 : Nat) ≠ 15 by omega), fI_un (show (10 : Nat) ≠ 15 by omega), fI_un (show (11 : Nat) ≠ 15 by omega), fI_un (show (12 : Nat) ≠ 15 by omega), fI_un (show (13 : Nat) ≠ 15 by omega), fI_un (show (14 : Nat) ≠ 15 by omega), h15]
      rw [show fI t 0 = ((uw (f 0) % 65536 : Nat) : Int) from (ht 0 (by omega)).trans (by simp), show fI t 1 = ((uw (f 0) / 65536 % 65536 : Nat) : Int) from ht 1 (by omega), show fI t 2 = ((uw (f 0) / 4294967296 % 65536 : Nat) : Int) from ht 2 (by omega), show fI t 3 = ((uw (f 0) / 281474976710656 % 65536 : Nat) : Int) from ht 3 (by omega)]
      rw [show fI t 4 = ((uw (f 1) % 65536 : Nat) : Int) from (ht 4 (by omega)).trans (by simp), show fI t 5 = ((uw (f 1) / 65536 % 65536 : Nat) : Int) from ht 5 (by omega), show fI t 6 = ((uw (f 1) / 4294967296 % 65536 : Nat) : Int) from ht 6 (by omega), show fI t 7 = ((uw (f 1) / 281474976710656 % 65536 : Nat) : Int) from ht 7 (by omega)]
      rw [show fI t 8 = ((uw (f 2) % 65536 : Nat) : Int) from (ht 8 (by omega)).trans (by simp), show fI t 9 = ((uw (f 2) / 65536 % 65536 : Nat) : Int) from ht 9 (by omega), show fI t 10 = ((uw (f 2) / 4294967296 % 65536 : Nat) : Int) from ht 10 (by omega), show fI t 11 = ((uw (f 2) / 281474976710656 % 65536 : Nat) : Int) from ht 11 (by omega)]
      rw [show fI t 12 = ((uw (f 3) % 65536 : Nat) : Int) from (ht 12 (by omega)).trans (by simp), show fI t 13 = ((uw (f 3) / 65536 % 65536 : Nat) : Int) from ht 13 (by omega), show fI t 14 = ((uw (f 3) / 4294967296 % 65536 : Nat) : Int) from ht 14 (by omega)]
      rw [← e3]
      generalize uw (f 3) % 65536 = a0 at *
      generalize uw (f 3) / 65536 % 65536 = a1 at *
      generalize uw (f 3) / 4294967296 % 65536 = a2 at *
      generalize uw (f 3) / 281474976710656 % 32768 = a3 at *
      generalize hb0 : uw (f 0) % 65536 = b0 at *
      generalize hb1 : uw (f 0) / 65536 % 65536 = b1 at *
      generalize hb2 : uw (f 0) / 4294967296 % 65536 = b2 at *
      generalize hb3 : uw (f 0) / 281474976710656 % 65536 = b3 at *
      generalize hc0 : uw (f 1) % 65536 = c0 at *
      generalize hc1 : uw (f 1) / 65536 % 65536 = c1 at *
      generalize hc2 : uw (f 1) / 4294967296 % 65536 = c2 at *
      generalize hc3 : uw (f 1) / 281474976710656 % 65536 = c3 at *
      generalize hd0 : uw (f 2) % 65536 = d0 at *
      generalize hd1 : uw (f 2) / 65536 % 65536 = d1 at *
      generalize hd2 : uw (f 2) / 4294967296 % 65536 = d2 at *
      generalize hd3 : uw (f 2) / 281474976710656 % 65536 = d3 at *
      clear hb0 hb1 hb2 hb3 hc0 hc1 hc2 hc3 hd0 hd1 hd2 hd3 ht hz hzi h15
      generalize uw (f 0) = w0 at *
      generalize uw (f 1) = w1 at *
      generalize uw (f 2) = w2 at *
      subst e0 e1 e2
      simp only [Int.natCast_add, Int.natCast_mul]
      omega
    have hu : wv f % 57896044618658097711785492504343953926634992332820282019728792003956564819968 = uw (f 0) + uw (f 1) * 18446744073709551616 + uw (f 2) * 340282366920938463463374607431768211456 + uw (f 3) % 9223372036854775808 * 6277101735386680763835789423207666416102355444464034512896 := by
      have a0 := uw_lt (f 0)
      have a1 := uw_lt (f 1)
      have a2 := uw_lt (f 2)
      unfold wv
      omega
    rw [hs, ← hu, ← nP_pP]
    unfold uo
    exact (Int.natCast_emod _ _).symm
/-! words out of digits -/
def la (dg : Nat → Int32) (b : Nat) : Nat → Nat
  | 0 => 0
  | i + 1 => la dg b i * 65536 + (dg (b + (3 - i))).toInt.toNat
theorem la_s {dg : Nat → Int32} {b i : Nat} {v w x y : Int64} {d : Int32} (hv : v = lN (la dg b i)) (hd : d = dg (b + (3 - i))) (h0 : 0 ≤ d.toInt) (hw : w = v * 65536) (hx : x = d.toInt64) (hy : y = w + x) : y = lN (la dg b (i + 1)) := by
  have hx1 : x = lN d.toInt.toNat := by
    apply Int64.toInt_inj.mp
    have := d.toInt_lt
    rw [hx, tl_i2l, uw_ls (by omega)]
    omega
  rw [hy, hw, hv, hx1, show (65536 : Int64) = lN 65536 from rfl, lN_mul, lN_add]
  show _ = lN (la dg b i * 65536 + (dg (b + (3 - i))).toInt.toNat)
  rw [hd]
theorem laE (dg : Nat → Int32) (b : Nat) : la dg b 4 = (dg (b + 0)).toInt.toNat + (dg (b + 1)).toInt.toNat * 65536 + (dg (b + 2)).toInt.toNat * 4294967296 + (dg (b + 3)).toInt.toNat * 281474976710656 := by
  show (((0 * 65536 + (dg (b + 3)).toInt.toNat) * 65536 + (dg (b + 2)).toInt.toNat) * 65536 + (dg (b + 1)).toInt.toNat) * 65536 + (dg (b + 0)).toInt.toNat = _
  omega
theorem la_4 {dg : Nat → Int32} {a k : Nat} {x : Int} (h : dh dg a x) (hk : k < 4) : lN (la dg (16 * a + 4 * k) 4) = ow x.toNat k := by
  have hin := dh_in h
  have hd : ∀ j, j < 16 → (dd dg a j = ((dg (16 * a + j)).toInt.toNat : Int) ∧ (dg (16 * a + j)).toInt.toNat < 65536) := fun j hj => by
    have h1 := h.1 j hj
    have hB : (cB : Int) = 65536 := rfl
    have h2 : dd dg a j = (dg (16 * a + j)).toInt := rfl
    omega
  have hx : x = _ := h.2.1.symm.trans (svx _)
  rw [(hd 0 (by omega)).1, (hd 1 (by omega)).1, (hd 2 (by omega)).1, (hd 3 (by omega)).1, (hd 4 (by omega)).1, (hd 5 (by omega)).1, (hd 6 (by omega)).1, (hd 7 (by omega)).1, (hd 8 (by omega)).1, (hd 9 (by omega)).1, (hd 10 (by omega)).1, (hd 11 (by omega)).1, (hd 12 (by omega)).1, (hd 13 (by omega)).1, (hd 14 (by omega)).1, (hd 15 (by omega)).1] at hx
  have b0 := (hd 0 (by omega)).2
  have b1 := (hd 1 (by omega)).2
  have b2 := (hd 2 (by omega)).2
  have b3 := (hd 3 (by omega)).2
  have b4 := (hd 4 (by omega)).2
  have b5 := (hd 5 (by omega)).2
  have b6 := (hd 6 (by omega)).2
  have b7 := (hd 7 (by omega)).2
  have b8 := (hd 8 (by omega)).2
  have b9 := (hd 9 (by omega)).2
  have b10 := (hd 10 (by omega)).2
  have b11 := (hd 11 (by omega)).2
  have b12 := (hd 12 (by omega)).2
  have b13 := (hd 13 (by omega)).2
  have b14 := (hd 14 (by omega)).2
  have b15 := (hd 15 (by omega)).2
  have wl : ∀ p q r t : Nat, p < 65536 → q < 65536 → r < 65536 → t < 65536 → p + q * 65536 + r * 4294967296 + t * 281474976710656 < 18446744073709551616 := fun p q r t h1 h2 h3 h4 => by omega
  have hx0 : 0 ≤ x := hin.1
  clear hd h hin
  generalize h0e : (dg (16 * a + 0)).toInt.toNat = e0 at *
  generalize h1e : (dg (16 * a + 1)).toInt.toNat = e1 at *
  generalize h2e : (dg (16 * a + 2)).toInt.toNat = e2 at *
  generalize h3e : (dg (16 * a + 3)).toInt.toNat = e3 at *
  generalize h4e : (dg (16 * a + 4)).toInt.toNat = e4 at *
  generalize h5e : (dg (16 * a + 5)).toInt.toNat = e5 at *
  generalize h6e : (dg (16 * a + 6)).toInt.toNat = e6 at *
  generalize h7e : (dg (16 * a + 7)).toInt.toNat = e7 at *
  generalize h8e : (dg (16 * a + 8)).toInt.toNat = e8 at *
  generalize h9e : (dg (16 * a + 9)).toInt.toNat = e9 at *
  generalize h10e : (dg (16 * a + 10)).toInt.toNat = e10 at *
  generalize h11e : (dg (16 * a + 11)).toInt.toNat = e11 at *
  generalize h12e : (dg (16 * a + 12)).toInt.toNat = e12 at *
  generalize h13e : (dg (16 * a + 13)).toInt.toNat = e13 at *
  generalize h14e : (dg (16 * a + 14)).toInt.toNat = e14 at *
  generalize h15e : (dg (16 * a + 15)).toInt.toNat = e15 at *
  have hl := fun k => laE dg (16 * a + 4 * k)
  have u0 := wl e0 e1 e2 e3 b0 b1 b2 b3
  have u1 := wl e4 e5 e6 e7 b4 b5 b6 b7
  have u2 := wl e8 e9 e10 e11 b8 b9 b10 b11
  have u3 := wl e12 e13 e14 e15 b12 b13 b14 b15
  obtain ⟨w0, hw0⟩ : ∃ w, w = e0 + e1 * 65536 + e2 * 4294967296 + e3 * 281474976710656 := ⟨_, rfl⟩
  obtain ⟨w1, hw1⟩ : ∃ w, w = e4 + e5 * 65536 + e6 * 4294967296 + e7 * 281474976710656 := ⟨_, rfl⟩
  obtain ⟨w2, hw2⟩ : ∃ w, w = e8 + e9 * 65536 + e10 * 4294967296 + e11 * 281474976710656 := ⟨_, rfl⟩
  obtain ⟨w3, hw3⟩ : ∃ w, w = e12 + e13 * 65536 + e14 * 4294967296 + e15 * 281474976710656 := ⟨_, rfl⟩
  have hxn : x.toNat = w0 + w1 * 18446744073709551616 + w2 * 340282366920938463463374607431768211456 + w3 * 6277101735386680763835789423207666416102355444464034512896 := by
    clear hl u0 u1 u2 u3 b0 b1 b2 b3 b4 b5 b6 b7 b8 b9 b10 b11 b12 b13 b14 b15 wl
    omega
  rw [← hw0] at u0
  rw [← hw1] at u1
  rw [← hw2] at u2
  rw [← hw3] at u3
  unfold ow
  rw [wb_mod (x.toNat / 18446744073709551616 ^ k), hxn]
  clear hx hxn b0 b1 b2 b3 b4 b5 b6 b7 b8 b9 b10 b11 b12 b13 b14 b15 wl hx0
  congr 1
  rcases (show k = 0 ∨ k = 1 ∨ k = 2 ∨ k = 3 by omega) with rfl | rfl | rfl | rfl
  · rw [hl 0]
    show (dg (16 * a + 0)).toInt.toNat + (dg (16 * a + 1)).toInt.toNat * 65536 + (dg (16 * a + 2)).toInt.toNat * 4294967296 + (dg (16 * a + 3)).toInt.toNat * 281474976710656 = _
    rw [h0e, h1e, h2e, h3e, ← hw0]
    clear hw0 hw1 hw2 hw3
    omega
  · rw [hl 1]
    show (dg (16 * a + 4)).toInt.toNat + (dg (16 * a + 5)).toInt.toNat * 65536 + (dg (16 * a + 6)).toInt.toNat * 4294967296 + (dg (16 * a + 7)).toInt.toNat * 281474976710656 = _
    rw [h4e, h5e, h6e, h7e, ← hw1]
    clear hw0 hw1 hw2 hw3
    omega
  · rw [hl 2]
    show (dg (16 * a + 8)).toInt.toNat + (dg (16 * a + 9)).toInt.toNat * 65536 + (dg (16 * a + 10)).toInt.toNat * 4294967296 + (dg (16 * a + 11)).toInt.toNat * 281474976710656 = _
    rw [h8e, h9e, h10e, h11e, ← hw2]
    clear hw0 hw1 hw2 hw3
    omega
  · rw [hl 3]
    show (dg (16 * a + 12)).toInt.toNat + (dg (16 * a + 13)).toInt.toNat * 65536 + (dg (16 * a + 14)).toInt.toNat * 4294967296 + (dg (16 * a + 15)).toInt.toNat * 281474976710656 = _
    rw [h12e, h13e, h14e, h15e, ← hw3]
    clear hw0 hw1 hw2 hw3
    omega
end
section
set_option maxRecDepth 100000 in
set_option maxHeartbeats 4000000 in
theorem m_add (l : Launch) (D : va_G) (cA cI : ClassId) (tys : List (ClassId × FieldType)) (om aSc aPt aDg aSu : Nat) (fp fs fr : Int32) (scf ptf : Nat → Int64) (dg : Nat → Int32) (su : Nat → Int64) (to a b : Nat) (hto : to < 13) (ha13 : a < 13) (hb13 : b < 13) (x y : Int) (hxa : dc dg a x) (hyb : dc dg b y) : zCv l D ((cA, .long) :: (cI, .int) :: tys) yX3_add wsX3_add ({ frames := 3, cells := 0, slots := 0, locals := 70 }) [.ref om, .int (nI to), .int (nI a), .int (nI b)] ([(om, .inr (3, [.int fp, .int fs, .int fr, .ref aSc, .ref aPt, .ref aDg, .ref aSu])), (aSc, .inl (cA, 4, .inr (.inl scf))), (aPt, .inl (cA, 4, .inr (.inl ptf))), (aDg, .inl (cI, 208, .inl dg)), (aSu, .inl (cA, 32, .inr (.inl su)))]) (fun (u : va_W) => ∃ (dg' : Nat → Int32) (su' : Nat → Int64), (∀ i, i / 16 ≠ to → dg' i = dg i) ∧ dc dg' to (x + y) ∧ u = [(om, .inr (3, [.int fp, .int fs, .int fr, .ref aSc, .ref aPt, .ref aDg, .ref aSu])), (aSc, .inl (cA, 4, .inr (.inl scf))), (aPt, .inl (cA, 4, .inr (.inl ptf))), (aDg, .inl (cI, 208, .inl dg')), (aSu, .inl (cA, 32, .inr (.inl su')))]) := by
  refine z_met (fun A => va_Qv (fun (u : va_W) => ∃ (dg' : Nat → Int32) (su' : Nat → Int64), (∀ i, i / 16 ≠ to → dg' i = dg i) ∧ dc dg' to (x + y) ∧ u = [(om, .inr (3, [.int fp, .int fs, .int fr, .ref aSc, .ref aPt, .ref aDg, .ref aSu])), (aSc, .inl (cA, 4, .inr (.inl scf))), (aPt, .inl (cA, 4, .inr (.inl ptf))), (aDg, .inl (cI, 208, .inl dg')), (aSu, .inl (cA, 32, .inr (.inl su')))]) (zB D ((cA, .long) :: (cI, .int) :: tys) A) A) (by decide) rfl (Nat.le_of_ble_eq_true rfl) ?_
  intro p e s m below meth c hx hb hr hml hts hown hlocks hname A hA hP hK hD hS ls hl
  have hown : s.vm.findClass RX3 = some m.cls := hown
  have hl : lv_has ls 5 [(0, .ref om), (1, .int (nI to)), (2, .int (nI a)), (3, .int (nI b))] := hl
  refine lv_iconst (v := nI 0) hx hb dX3_add_0 (by decide) ?_
  refine lv_istore (lv' := [(4, .int (nI 0)), (0, .ref om), (1, .int (nI to)), (2, .int (nI a)), (3, .int (nI b))]) hx hb dX3_add_1 hl (by decide) rfl (fun ls hl => ?_)
  refine z_loop (fun i H locs ls => ∃ f : Nat → Int64, (∀ j, j < i → fI f j = dd dg a j + dd dg b j) ∧ zH D A s.heap ([(om, .inr (3, [.int fp, .int fs, .int fr, .ref aSc, .ref aPt, .ref aDg, .ref aSu])), (aSc, .inl (cA, 4, .inr (.inl scf))), (aPt, .inl (cA, 4, .inr (.inl ptf))), (aDg, .inl (cI, 208, .inl dg)), (aSu, .inl (cA, 32, .inr (.inl f)))]) H locs ∧ lv_has ls 5 [(4, .int (nI i)), (0, .ref om), (1, .int (nI to)), (2, .int (nI a)), (3, .int (nI b))]) 16 ?_ ?_ ?_
  · exact ⟨su, fun j h => by omega, ⟨hP, hD, hS⟩, hl⟩
  · rintro i H locs ls hi ⟨f, h1, ⟨hP, hD, hS⟩, hl⟩ ih
    refine lv_iload hx hb dX3_add_3 (lv_at hl 0 rfl) ?_
    refine lv_bipush (v := nI 16) hx hb dX3_add_5 (by decide) ?_
    refine lv_icmp_ge (tgt := 50) hx hb dX3_add_7 (by decide) (fun c7 => absurd ((nI_leI (by omega) (by omega)).mp c7) (by omega)) (fun c7 => ?_)
    refine lv_aload_n hx hb dX3_add_10 rfl (lv_at hl 1 rfl) ?_
    refine va_get (D := D) (ci := 3) (v := .ref aSu) (C := RX3) (T := TX3) (N := 7) hx hb hts (by decide +kernel) hown hK hP 0 rfl rfl 6 (by decide) (hts (.fieldLink RX3 20 "LadderDeskModel" "sums" "[J") (by decide +kernel)) (fun _ h9 => h9) rfl dX3_add_11 ?_
    refine lv_iload hx hb dX3_add_14 (lv_at hl 0 rfl) ?_
    refine lv_aload_n hx hb dX3_add_16 rfl (lv_at hl 1 rfl) ?_
    refine va_get (D := D) (ci := 3) (v := .ref aDg) (C := RX3) (T := TX3) (N := 7) hx hb hts (by decide +kernel) hown hK hP 0 rfl rfl 5 (by decide) (hts (.fieldLink RX3 16 "LadderDeskModel" "digits" "[I") (by decide +kernel)) (fun _ h9 => h9) rfl dX3_add_17 ?_
    refine lv_bipush (v := nI 16) hx hb dX3_add_20 (by decide) ?_
    refine lv_iload_n hx hb dX3_add_22 rfl (lv_at hl 3 rfl) ?_
    refine lv_imul hx hb dX3_add_23 ?_
    refine zi (pk_mul _ _) ?_
    refine lv_iload hx hb dX3_add_24 (lv_at hl 0 rfl) ?_
    refine lv_iadd hx hb dX3_add_26 ?_
    refine zi (nI_add _ _) ?_
    refine y_ldi hx hb hK hP 3 1 rfl rfl ((16 * a) + i) rfl (by omega) (by omega) dX3_add_27 ?_
    refine lv_topi (fun v27 e27 => ?_)
    refine lv_i2l hx hb dX3_add_28 rfl ?_
    refine lv_topl (fun v28 e28 => ?_)
    refine lv_aload_n hx hb dX3_add_29 rfl (lv_at hl 1 rfl) ?_
    refine va_get (D := D) (ci := 3) (v := .ref aDg) (C := RX3) (T := TX3) (N := 7) hx hb hts (by decide +kernel) hown hK hP 0 rfl rfl 5 (by decide) (hts (.fieldLink RX3 16 "LadderDeskModel" "digits" "[I") (by decide +kernel)) (fun _ h9 => h9) rfl dX3_add_30 ?_
    refine lv_bipush (v := nI 16) hx hb dX3_add_33 (by decide) ?_
    refine lv_iload_n hx hb dX3_add_35 rfl (lv_at hl 4 rfl) ?_
    refine lv_imul hx hb dX3_add_36 ?_
    refine zi (pk_mul _ _) ?_
    refine lv_iload hx hb dX3_add_37 (lv_at hl 0 rfl) ?_
    refine lv_iadd hx hb dX3_add_39 ?_
    refine zi (nI_add _ _) ?_
    refine y_ldi hx hb hK hP 3 1 rfl rfl ((16 * b) + i) rfl (by omega) (by omega) dX3_add_40 ?_
    refine lv_topi (fun v40 e40 => ?_)
    refine lv_i2l hx hb dX3_add_41 rfl ?_
    refine lv_topl (fun v41 e41 => ?_)
    refine lv_ladd hx hb dX3_add_42 ?_
    refine lv_topl (fun v42 e42 => ?_)
    refine y_st hx hb hK hP hD hS 4 0 rfl rfl i rfl (by omega) (by omega) dX3_add_43 (fun H locs hP hD hS => ?_)
    have hP : va_P D vwCl ([(om, .inr (3, [.int fp, .int fs, .int fr, .ref aSc, .ref aPt, .ref aDg, .ref aSu])), (aSc, .inl (cA, 4, .inr (.inl scf))), (aPt, .inl (cA, 4, .inr (.inl ptf))), (aDg, .inl (cI, 208, .inl dg)), (aSu, .inl (cA, 32, .inr (.inl (vp_updL f i v42))))]) H := hP
    have hD : va_D A ([(om, .inr (3, [.int fp, .int fs, .int fr, .ref aSc, .ref aPt, .ref aDg, .ref aSu])), (aSc, .inl (cA, 4, .inr (.inl scf))), (aPt, .inl (cA, 4, .inr (.inl ptf))), (aDg, .inl (cI, 208, .inl dg)), (aSu, .inl (cA, 32, .inr (.inl (vp_updL f i v42))))]) := hD
    refine lv_iinc (v := nI (i + 1)) (lv' := [(4, .int (nI (i + 1))), (0, .ref om), (1, .int (nI to)), (2, .int (nI a)), (3, .int (nI b))]) hx hb dX3_add_44 hl (k := 0) rfl (by show nI _ + nI 1 = _; exact nI_add _ _) (by decide) rfl (fun ls hl => ?_)
    refine lv_goto (tgt := 3) hx hb dX3_add_47 (by decide) ?_
    have a1 := hxa.1 i hi
    have a2 := hyb.1 i hi
    have hB : (cB : Int) = 65536 := rfl
    have i1 : v28.toInt = dd dg a i := by rw [e28, tl_i2l, e27]; rfl
    have i2 : v41.toInt = dd dg b i := by rw [e41, tl_i2l, e40]; rfl
    have i3 : v42.toInt = dd dg a i + dd dg b i := by rw [e42, tl_add (by omega) (by omega), i1, i2]
    exact ih _ _ _ ⟨_, fun j hj => by
      by_cases e : j = i
      · subst e; rw [fI_us, i3]
      · rw [fI_un e]; exact h1 j (by omega), ⟨hP, hD, hS⟩, hl⟩
  · rintro H locs ls ⟨f, h1, ⟨hP, hD, hS⟩, hl⟩
    obtain ⟨k1, k2⟩ := add_m hxa hyb h1
    refine lv_iload hx hb dX3_add_3 (lv_at hl 0 rfl) ?_
    refine lv_bipush (v := nI 16) hx hb dX3_add_5 (by decide) ?_
    refine lv_icmp_ge (tgt := 50) hx hb dX3_add_7 (by decide) (fun c7 => ?_) (fun c7 => absurd ((nI_leI (by omega) (by omega)).mpr (by omega)) c7)
    refine lv_aload_n hx hb dX3_add_50 rfl (lv_at hl 1 rfl) ?_
    refine lv_iload_n hx hb dX3_add_51 rfl (lv_at hl 2 rfl) ?_
    refine z_callv (va_runV (As := [.int (nI to)]) (rest := []) ⟨hx, hb, hml, hown, hts⟩ (m_store l D cA cI tys om aSc aPt aDg aSu fp fs fr scf ptf dg f to hto k1 _) (cwV 1 hts gX3_add_X3_store rfl rfl rfl (by decide +kernel) ⟨Nat.le_of_ble_eq_true rfl, Nat.le_of_ble_eq_true rfl⟩) (z_preV _ hK hP hD (ci := 3) (q0 := 0) rfl rfl) rfl rfl hl.1 rfl (lv_room (Nat.le_of_ble_eq_true rfl)) dX3_add_52 ⟨Nat.le_of_ble_eq_true rfl, Nat.le_of_ble_eq_true rfl⟩) hD hS hA (fun u H locs hu hP hD hS => ?_)
    obtain ⟨dg', su', k3, k4, rfl⟩ := hu
    rw [k2] at k4
    exact z_vret hx hb hr hlocks dX3_add_55 hK hP hD hS (⟨dg', su', k3, by unfold dc; rw [Int.add_emod]; exact k4, rfl⟩)
set_option maxRecDepth 100000 in
set_option maxHeartbeats 4000000 in
theorem m_subtract (l : Launch) (D : va_G) (cA cI : ClassId) (tys : List (ClassId × FieldType)) (om aSc aPt aDg aSu : Nat) (fp fs fr : Int32) (scf ptf : Nat → Int64) (dg : Nat → Int32) (su : Nat → Int64) (to a b : Nat) (hto : to < 13) (ha13 : a < 13) (hb13 : b < 13) (x y : Int) (hxa : dc dg a x) (hyb : dc dg b y) : zCv l D ((cA, .long) :: (cI, .int) :: tys) yX3_subtract wsX3_subtract ({ frames := 3, cells := 0, slots := 0, locals := 70 }) [.ref om, .int (nI to), .int (nI a), .int (nI b)] ([(om, .inr (3, [.int fp, .int fs, .int fr, .ref aSc, .ref aPt, .ref aDg, .ref aSu])), (aSc, .inl (cA, 4, .inr (.inl scf))), (aPt, .inl (cA, 4, .inr (.inl ptf))), (aDg, .inl (cI, 208, .inl dg)), (aSu, .inl (cA, 32, .inr (.inl su)))]) (fun (u : va_W) => ∃ (dg' : Nat → Int32) (su' : Nat → Int64), (∀ i, i / 16 ≠ to → dg' i = dg i) ∧ dc dg' to (x - y) ∧ u = [(om, .inr (3, [.int fp, .int fs, .int fr, .ref aSc, .ref aPt, .ref aDg, .ref aSu])), (aSc, .inl (cA, 4, .inr (.inl scf))), (aPt, .inl (cA, 4, .inr (.inl ptf))), (aDg, .inl (cI, 208, .inl dg')), (aSu, .inl (cA, 32, .inr (.inl su')))]) := by
  refine z_met (fun A => va_Qv (fun (u : va_W) => ∃ (dg' : Nat → Int32) (su' : Nat → Int64), (∀ i, i / 16 ≠ to → dg' i = dg i) ∧ dc dg' to (x - y) ∧ u = [(om, .inr (3, [.int fp, .int fs, .int fr, .ref aSc, .ref aPt, .ref aDg, .ref aSu])), (aSc, .inl (cA, 4, .inr (.inl scf))), (aPt, .inl (cA, 4, .inr (.inl ptf))), (aDg, .inl (cI, 208, .inl dg')), (aSu, .inl (cA, 32, .inr (.inl su')))]) (zB D ((cA, .long) :: (cI, .int) :: tys) A) A) (by decide) rfl (Nat.le_of_ble_eq_true rfl) ?_
  intro p e s m below meth c hx hb hr hml hts hown hlocks hname A hA hP hK hD hS ls hl
  have hown : s.vm.findClass RX3 = some m.cls := hown
  have hl : lv_has ls 9 [(0, .ref om), (1, .int (nI to)), (2, .int (nI a)), (3, .int (nI b))] := hl
  refine lv_lconst (v := 0) hx hb dX3_subtract_0 (by decide) ?_
  refine lv_lstore (lv' := [(4, .long 0), (0, .ref om), (1, .int (nI to)), (2, .int (nI a)), (3, .int (nI b))]) hx hb dX3_subtract_1 hl (by decide) rfl (fun ls hl => ?_)
  refine lv_iconst (v := nI 0) hx hb dX3_subtract_3 (by decide) ?_
  refine lv_istore (lv' := [(6, .int (nI 0)), (4, .long 0), (0, .ref om), (1, .int (nI to)), (2, .int (nI a)), (3, .int (nI b))]) hx hb dX3_subtract_4 hl (by decide) rfl (fun ls hl => ?_)
  refine z_loop (fun i H locs ls => ∃ (f : Nat → Int64) (o : Int64), Jsu dg a b f i o ∧ zH D A s.heap ([(om, .inr (3, [.int fp, .int fs, .int fr, .ref aSc, .ref aPt, .ref aDg, .ref aSu])), (aSc, .inl (cA, 4, .inr (.inl scf))), (aPt, .inl (cA, 4, .inr (.inl ptf))), (aDg, .inl (cI, 208, .inl dg)), (aSu, .inl (cA, 32, .inr (.inl f)))]) H locs ∧ lv_has ls 9 [(6, .int (nI i)), (4, .long o), (0, .ref om), (1, .int (nI to)), (2, .int (nI a)), (3, .int (nI b))]) 16 ?_ ?_ ?_
  · exact ⟨su, 0, Jsu_0 dg a b su, ⟨hP, hD, hS⟩, hl⟩
  · rintro i H locs ls hi ⟨f, o, h1, ⟨hP, hD, hS⟩, hl⟩ ih
    refine lv_iload hx hb dX3_subtract_6 (lv_at hl 0 rfl) ?_
    refine lv_bipush (v := nI 16) hx hb dX3_subtract_8 (by decide) ?_
    refine lv_icmp_ge (tgt := 78) hx hb dX3_subtract_10 (by decide) (fun c10 => absurd ((nI_leI (by omega) (by omega)).mp c10) (by omega)) (fun c10 => ?_)
    refine lv_aload_n hx hb dX3_subtract_13 rfl (lv_at hl 2 rfl) ?_
    refine va_get (D := D) (ci := 3) (v := .ref aDg) (C := RX3) (T := TX3) (N := 7) hx hb hts (by decide +kernel) hown hK hP 0 rfl rfl 5 (by decide) (hts (.fieldLink RX3 16 "LadderDeskModel" "digits" "[I") (by decide +kernel)) (fun _ h9 => h9) rfl dX3_subtract_14 ?_
    refine lv_bipush (v := nI 16) hx hb dX3_subtract_17 (by decide) ?_
    refine lv_iload_n hx hb dX3_subtract_19 rfl (lv_at hl 4 rfl) ?_
    refine lv_imul hx hb dX3_subtract_20 ?_
    refine zi (pk_mul _ _) ?_
    refine lv_iload hx hb dX3_subtract_21 (lv_at hl 0 rfl) ?_
    refine lv_iadd hx hb dX3_subtract_23 ?_
    refine zi (nI_add _ _) ?_
    refine y_ldi hx hb hK hP 3 1 rfl rfl ((16 * a) + i) rfl (by omega) (by omega) dX3_subtract_24 ?_
    refine lv_topi (fun v24 e24 => ?_)
    refine lv_i2l hx hb dX3_subtract_25 rfl ?_
    refine lv_topl (fun v25 e25 => ?_)
    refine lv_iload hx hb dX3_subtract_26 (lv_at hl 0 rfl) ?_
    refine z_calli (va_runS (As := [.int (nI i)]) (rest := [.long v25]) ⟨hx, hb, hml, hown, hts⟩ (c_ofP l D ((cA, .long) :: (cI, .int) :: tys) _ i (by omega) _) (va_cwS 1 hts gX3_subtract_X3_ofP rfl rfl rfl (by decide +kernel) ⟨Nat.le_of_ble_eq_true rfl, Nat.le_of_ble_eq_true rfl⟩) (z_preS _ hK hP hD) rfl rfl hl.1 rfl (lv_room (Nat.le_of_ble_eq_true rfl)) dX3_subtract_28 ⟨Nat.le_of_ble_eq_true rfl, Nat.le_of_ble_eq_true rfl⟩) hD hS hA (fun r28 u H locs hu hP hD hS => ?_)
    obtain ⟨rfl, ho28⟩ := hu
    refine lv_i2l hx hb dX3_subtract_31 rfl ?_
    refine lv_topl (fun v31 e31 => ?_)
    refine lv_ladd hx hb dX3_subtract_32 ?_
    refine lv_topl (fun v32 e32 => ?_)
    refine lv_aload_n hx hb dX3_subtract_33 rfl (lv_at hl 2 rfl) ?_
    refine va_get (D := D) (ci := 3) (v := .ref aDg) (C := RX3) (T := TX3) (N := 7) hx hb hts (by decide +kernel) hown hK hP 0 rfl rfl 5 (by decide) (hts (.fieldLink RX3 16 "LadderDeskModel" "digits" "[I") (by decide +kernel)) (fun _ h9 => h9) rfl dX3_subtract_34 ?_
    refine lv_bipush (v := nI 16) hx hb dX3_subtract_37 (by decide) ?_
    refine lv_iload_n hx hb dX3_subtract_39 rfl (lv_at hl 5 rfl) ?_
    refine lv_imul hx hb dX3_subtract_40 ?_
    refine zi (pk_mul _ _) ?_
    refine lv_iload hx hb dX3_subtract_41 (lv_at hl 0 rfl) ?_
    refine lv_iadd hx hb dX3_subtract_43 ?_
    refine zi (nI_add _ _) ?_
    refine y_ldi hx hb hK hP 3 1 rfl rfl ((16 * b) + i) rfl (by omega) (by omega) dX3_subtract_44 ?_
    refine lv_topi (fun v44 e44 => ?_)
    refine lv_i2l hx hb dX3_subtract_45 rfl ?_
    refine lv_topl (fun v45 e45 => ?_)
    refine lv_lsub hx hb dX3_subtract_46 ?_
    refine lv_topl (fun v46 e46 => ?_)
    refine lv_lload hx hb dX3_subtract_47 (lv_at hl 1 rfl) ?_
    refine lv_ladd hx hb dX3_subtract_49 ?_
    refine lv_topl (fun v49 e49 => ?_)
    refine lv_lstore (lv' := [(7, .long v49), (6, .int (nI i)), (4, .long o), (0, .ref om), (1, .int (nI to)), (2, .int (nI a)), (3, .int (nI b))]) hx hb dX3_subtract_50 hl (by decide) rfl (fun ls hl => ?_)
    refine lv_aload_n hx hb dX3_subtract_52 rfl (lv_at hl 3 rfl) ?_
    refine va_get (D := D) (ci := 3) (v := .ref aSu) (C := RX3) (T := TX3) (N := 7) hx hb hts (by decide +kernel) hown hK hP 0 rfl rfl 6 (by decide) (hts (.fieldLink RX3 20 "LadderDeskModel" "sums" "[J") (by decide +kernel)) (fun _ h9 => h9) rfl dX3_subtract_53 ?_
    refine lv_iload hx hb dX3_subtract_56 (lv_at hl 1 rfl) ?_
    refine lv_lload hx hb dX3_subtract_58 (lv_at hl 0 rfl) ?_
    refine lv_ldc2 (v := 65535) hx hb hown (hts (.constantLong RX3 33 (65535)) (by decide +kernel)) dX3_subtract_60 ?_
    refine lv_land hx hb dX3_subtract_63 ?_
    refine lv_topl (fun v63 e63 => ?_)
    refine y_st hx hb hK hP hD hS 4 0 rfl rfl i rfl (by omega) (by omega) dX3_subtract_64 (fun H locs hP hD hS => ?_)
    have hP : va_P D vwCl ([(om, .inr (3, [.int fp, .int fs, .int fr, .ref aSc, .ref aPt, .ref aDg, .ref aSu])), (aSc, .inl (cA, 4, .inr (.inl scf))), (aPt, .inl (cA, 4, .inr (.inl ptf))), (aDg, .inl (cI, 208, .inl dg)), (aSu, .inl (cA, 32, .inr (.inl (vp_updL f i v63))))]) H := hP
    have hD : va_D A ([(om, .inr (3, [.int fp, .int fs, .int fr, .ref aSc, .ref aPt, .ref aDg, .ref aSu])), (aSc, .inl (cA, 4, .inr (.inl scf))), (aPt, .inl (cA, 4, .inr (.inl ptf))), (aDg, .inl (cI, 208, .inl dg)), (aSu, .inl (cA, 32, .inr (.inl (vp_updL f i v63))))]) := hD
    refine lv_lload hx hb dX3_subtract_65 (lv_at hl 0 rfl) ?_
    refine lv_bipush (v := nI 16) hx hb dX3_subtract_67 (by decide) ?_
    refine lv_lshr hx hb dX3_subtract_69 rfl ?_
    refine lv_topl (fun v69 e69 => ?_)
    refine lv_lstore (lv' := [(4, .long v69), (7, .long v49), (6, .int (nI i)), (0, .ref om), (1, .int (nI to)), (2, .int (nI a)), (3, .int (nI b))]) hx hb dX3_subtract_70 hl (by decide) rfl (fun ls hl => ?_)
    refine lv_iinc (v := nI (i + 1)) (lv' := [(6, .int (nI (i + 1))), (4, .long v69), (7, .long v49), (0, .ref om), (1, .int (nI to)), (2, .int (nI a)), (3, .int (nI b))]) hx hb dX3_subtract_72 hl (k := 2) rfl (by show nI _ + nI 1 = _; exact nI_add _ _) (by decide) rfl (fun ls hl => ?_)
    refine lv_goto (tgt := 6) hx hb dX3_subtract_75 (by decide) ?_
    exact ih _ _ _ ⟨_, _, Jsu_s (x1 := v25) (x2 := v31) (x3 := v32) (x4 := v45) (x5 := v46) (x6 := v49) h1 (hxa.1 i hi) (hyb.1 i hi) (by rw [e25, tl_i2l, e24]; rfl) (by rw [e31, tl_i2l]; exact ho28) e32 (by rw [e45, tl_i2l, e44]; rfl) e46 e49 e63 e69, ⟨hP, hD, hS⟩, lv_sub hl [0, 1, 3, 4, 5, 6] rfl⟩
  · rintro H locs ls ⟨f, o, h1, ⟨hP, hD, hS⟩, hl⟩
    refine lv_iload hx hb dX3_subtract_6 (lv_at hl 0 rfl) ?_
    refine lv_bipush (v := nI 16) hx hb dX3_subtract_8 (by decide) ?_
    refine lv_icmp_ge (tgt := 78) hx hb dX3_subtract_10 (by decide) (fun c10 => ?_) (fun c10 => absurd ((nI_leI (by omega) (by omega)).mpr (by omega)) c10)
    refine lv_aload_n hx hb dX3_subtract_78 rfl (lv_at hl 2 rfl) ?_
    refine va_get (D := D) (ci := 3) (v := .ref aSu) (C := RX3) (T := TX3) (N := 7) hx hb hts (by decide +kernel) hown hK hP 0 rfl rfl 6 (by decide) (hts (.fieldLink RX3 20 "LadderDeskModel" "sums" "[J") (by decide +kernel)) (fun _ h9 => h9) rfl dX3_subtract_79 ?_
    refine lv_bipush (v := nI 15) hx hb dX3_subtract_82 (by decide) ?_
    refine lv_aload_n hx hb dX3_subtract_84 rfl (lv_at hl 2 rfl) ?_
    refine va_get (D := D) (ci := 3) (v := .ref aSu) (C := RX3) (T := TX3) (N := 7) hx hb hts (by decide +kernel) hown hK hP 0 rfl rfl 6 (by decide) (hts (.fieldLink RX3 20 "LadderDeskModel" "sums" "[J") (by decide +kernel)) (fun _ h9 => h9) rfl dX3_subtract_85 ?_
    refine lv_bipush (v := nI 15) hx hb dX3_subtract_88 (by decide) ?_
    refine y_ld hx hb hK hP 4 0 rfl rfl 15 rfl (by omega) (by omega) dX3_subtract_90 ?_
    refine lv_topl (fun v90 e90 => ?_)
    refine lv_lload hx hb dX3_subtract_91 (lv_at hl 1 rfl) ?_
    refine lv_ldc2 (v := 65536) hx hb hown (hts (.constantLong RX3 49 (65536)) (by decide +kernel)) dX3_subtract_93 ?_
    refine lv_lmul hx hb dX3_subtract_96 ?_
    refine lv_topl (fun v96 e96 => ?_)
    refine lv_ladd hx hb dX3_subtract_97 ?_
    refine lv_topl (fun v97 e97 => ?_)
    refine y_st hx hb hK hP hD hS 4 0 rfl rfl 15 rfl (by omega) (by omega) dX3_subtract_98 (fun H locs hP hD hS => ?_)
    have hP : va_P D vwCl ([(om, .inr (3, [.int fp, .int fs, .int fr, .ref aSc, .ref aPt, .ref aDg, .ref aSu])), (aSc, .inl (cA, 4, .inr (.inl scf))), (aPt, .inl (cA, 4, .inr (.inl ptf))), (aDg, .inl (cI, 208, .inl dg)), (aSu, .inl (cA, 32, .inr (.inl (vp_updL f 15 v97))))]) H := hP
    have hD : va_D A ([(om, .inr (3, [.int fp, .int fs, .int fr, .ref aSc, .ref aPt, .ref aDg, .ref aSu])), (aSc, .inl (cA, 4, .inr (.inl scf))), (aPt, .inl (cA, 4, .inr (.inl ptf))), (aDg, .inl (cI, 208, .inl dg)), (aSu, .inl (cA, 32, .inr (.inl (vp_updL f 15 v97))))]) := hD
    refine lv_aload_n hx hb dX3_subtract_99 rfl (lv_at hl 2 rfl) ?_
    refine lv_iload_n hx hb dX3_subtract_100 rfl (lv_at hl 3 rfl) ?_
    obtain ⟨k1, k2⟩ := Jsu_e (m := v96) (z := v97) h1 hxa hyb e96 (by rw [e97, e90])
    refine z_callv (va_runV (As := [.int (nI to)]) (rest := []) ⟨hx, hb, hml, hown, hts⟩ (m_store l D cA cI tys om aSc aPt aDg aSu fp fs fr scf ptf dg (vp_updL f 15 v97) to hto k1 _) (cwV 1 hts gX3_subtract_X3_store rfl rfl rfl (by decide +kernel) ⟨Nat.le_of_ble_eq_true rfl, Nat.le_of_ble_eq_true rfl⟩) (z_preV _ hK hP hD (ci := 3) (q0 := 0) rfl rfl) rfl rfl hl.1 rfl (lv_room (Nat.le_of_ble_eq_true rfl)) dX3_subtract_101 ⟨Nat.le_of_ble_eq_true rfl, Nat.le_of_ble_eq_true rfl⟩) hD hS hA (fun u H locs hu hP hD hS => ?_)
    obtain ⟨dg', su', k3, k4, rfl⟩ := hu
    rw [k2] at k4
    exact z_vret hx hb hr hlocks dX3_subtract_104 hK hP hD hS (⟨dg', su', k3, by unfold dc; rw [Int.sub_emod]; exact k4, rfl⟩)
set_option maxRecDepth 100000 in
set_option maxHeartbeats 4000000 in
theorem m_multiply (l : Launch) (D : va_G) (cA cI : ClassId) (tys : List (ClassId × FieldType)) (om aSc aPt aDg aSu : Nat) (fp fs fr : Int32) (scf ptf : Nat → Int64) (dg : Nat → Int32) (su : Nat → Int64) (to a b : Nat) (hto : to < 13) (ha13 : a < 13) (hb13 : b < 13) (x y : Int) (hxa : dc dg a x) (hyb : dc dg b y) : zCv l D ((cA, .long) :: (cI, .int) :: tys) yX3_multiply wsX3_multiply ({ frames := 3, cells := 0, slots := 0, locals := 70 }) [.ref om, .int (nI to), .int (nI a), .int (nI b)] ([(om, .inr (3, [.int fp, .int fs, .int fr, .ref aSc, .ref aPt, .ref aDg, .ref aSu])), (aSc, .inl (cA, 4, .inr (.inl scf))), (aPt, .inl (cA, 4, .inr (.inl ptf))), (aDg, .inl (cI, 208, .inl dg)), (aSu, .inl (cA, 32, .inr (.inl su)))]) (fun (u : va_W) => ∃ (dg' : Nat → Int32) (su' : Nat → Int64), (∀ i, i / 16 ≠ to → dg' i = dg i) ∧ dc dg' to (x * y) ∧ u = [(om, .inr (3, [.int fp, .int fs, .int fr, .ref aSc, .ref aPt, .ref aDg, .ref aSu])), (aSc, .inl (cA, 4, .inr (.inl scf))), (aPt, .inl (cA, 4, .inr (.inl ptf))), (aDg, .inl (cI, 208, .inl dg')), (aSu, .inl (cA, 32, .inr (.inl su')))]) := by
  refine z_met (fun A => va_Qv (fun (u : va_W) => ∃ (dg' : Nat → Int32) (su' : Nat → Int64), (∀ i, i / 16 ≠ to → dg' i = dg i) ∧ dc dg' to (x * y) ∧ u = [(om, .inr (3, [.int fp, .int fs, .int fr, .ref aSc, .ref aPt, .ref aDg, .ref aSu])), (aSc, .inl (cA, 4, .inr (.inl scf))), (aPt, .inl (cA, 4, .inr (.inl ptf))), (aDg, .inl (cI, 208, .inl dg')), (aSu, .inl (cA, 32, .inr (.inl su')))]) (zB D ((cA, .long) :: (cI, .int) :: tys) A) A) (by decide) rfl (Nat.le_of_ble_eq_true rfl) ?_
  intro p e s m below meth c hx hb hr hml hts hown hlocks hname A hA hP hK hD hS ls hl
  have hown : s.vm.findClass RX3 = some m.cls := hown
  have hl : lv_has ls 6 [(0, .ref om), (1, .int (nI to)), (2, .int (nI a)), (3, .int (nI b))] := hl
  refine lv_iconst (v := nI 0) hx hb dX3_multiply_0 (by decide) ?_
  refine lv_istore (lv' := [(4, .int (nI 0)), (0, .ref om), (1, .int (nI to)), (2, .int (nI a)), (3, .int (nI b))]) hx hb dX3_multiply_1 hl (by decide) rfl (fun ls hl => ?_)
  refine z_loop (fun i H locs ls => ∃ f : Nat → Int64, (∀ j, j < i → f j = 0) ∧ zH D A s.heap ([(om, .inr (3, [.int fp, .int fs, .int fr, .ref aSc, .ref aPt, .ref aDg, .ref aSu])), (aSc, .inl (cA, 4, .inr (.inl scf))), (aPt, .inl (cA, 4, .inr (.inl ptf))), (aDg, .inl (cI, 208, .inl dg)), (aSu, .inl (cA, 32, .inr (.inl f)))]) H locs ∧ lv_has ls 6 [(4, .int (nI i)), (0, .ref om), (1, .int (nI to)), (2, .int (nI a)), (3, .int (nI b))]) 32 ?_ ?_ ?_
  · exact ⟨su, fun j h => by omega, ⟨hP, hD, hS⟩, hl⟩
  · rintro i H locs ls hi ⟨f, h1, ⟨hP, hD, hS⟩, hl⟩ ih
    refine lv_iload hx hb dX3_multiply_3 (lv_at hl 0 rfl) ?_
    refine lv_bipush (v := nI 32) hx hb dX3_multiply_5 (by decide) ?_
    refine lv_icmp_ge (tgt := 24) hx hb dX3_multiply_7 (by decide) (fun c7 => absurd ((nI_leI (by omega) (by omega)).mp c7) (by omega)) (fun c7 => ?_)
    refine lv_aload_n hx hb dX3_multiply_10 rfl (lv_at hl 1 rfl) ?_
    refine va_get (D := D) (ci := 3) (v := .ref aSu) (C := RX3) (T := TX3) (N := 7) hx hb hts (by decide +kernel) hown hK hP 0 rfl rfl 6 (by decide) (hts (.fieldLink RX3 20 "LadderDeskModel" "sums" "[J") (by decide +kernel)) (fun _ h9 => h9) rfl dX3_multiply_11 ?_
    refine lv_iload hx hb dX3_multiply_14 (lv_at hl 0 rfl) ?_
    refine lv_lconst (v := 0) hx hb dX3_multiply_16 (by decide) ?_
    refine y_st hx hb hK hP hD hS 4 0 rfl rfl i rfl (by omega) (by omega) dX3_multiply_17 (fun H locs hP hD hS => ?_)
    have hP : va_P D vwCl ([(om, .inr (3, [.int fp, .int fs, .int fr, .ref aSc, .ref aPt, .ref aDg, .ref aSu])), (aSc, .inl (cA, 4, .inr (.inl scf))), (aPt, .inl (cA, 4, .inr (.inl ptf))), (aDg, .inl (cI, 208, .inl dg)), (aSu, .inl (cA, 32, .inr (.inl (vp_updL f i 0))))]) H := hP
    have hD : va_D A ([(om, .inr (3, [.int fp, .int fs, .int fr, .ref aSc, .ref aPt, .ref aDg, .ref aSu])), (aSc, .inl (cA, 4, .inr (.inl scf))), (aPt, .inl (cA, 4, .inr (.inl ptf))), (aDg, .inl (cI, 208, .inl dg)), (aSu, .inl (cA, 32, .inr (.inl (vp_updL f i 0))))]) := hD
    refine lv_iinc (v := nI (i + 1)) (lv' := [(4, .int (nI (i + 1))), (0, .ref om), (1, .int (nI to)), (2, .int (nI a)), (3, .int (nI b))]) hx hb dX3_multiply_18 hl (k := 0) rfl (by show nI _ + nI 1 = _; exact nI_add _ _) (by decide) rfl (fun ls hl => ?_)
    refine lv_goto (tgt := 3) hx hb dX3_multiply_21 (by decide) ?_
    exact ih _ _ _ ⟨_, fun j hj => by
      unfold vp_updL
      by_cases e : j = i
      · rw [if_pos e]
      · rw [if_neg e]; exact h1 j (by omega), ⟨hP, hD, hS⟩, hl⟩
  · rintro H locs ls ⟨f0, h0, ⟨hP, hD, hS⟩, hl⟩
    refine lv_iload hx hb dX3_multiply_3 (lv_at hl 0 rfl) ?_
    refine lv_bipush (v := nI 32) hx hb dX3_multiply_5 (by decide) ?_
    refine lv_icmp_ge (tgt := 24) hx hb dX3_multiply_7 (by decide) (fun c7 => ?_) (fun c7 => absurd ((nI_leI (by omega) (by omega)).mpr (by omega)) c7)
    refine lv_iconst (v := nI 0) hx hb dX3_multiply_24 (by decide) ?_
    refine lv_istore (lv' := [(4, .int (nI 0)), (0, .ref om), (1, .int (nI to)), (2, .int (nI a)), (3, .int (nI b))]) hx hb dX3_multiply_25 hl (by decide) rfl (fun ls hl => ?_)
    refine z_loop (fun i H locs ls => ∃ f : Nat → Int64, Kgo dg a b f i ∧ zH D A s.heap ([(om, .inr (3, [.int fp, .int fs, .int fr, .ref aSc, .ref aPt, .ref aDg, .ref aSu])), (aSc, .inl (cA, 4, .inr (.inl scf))), (aPt, .inl (cA, 4, .inr (.inl ptf))), (aDg, .inl (cI, 208, .inl dg)), (aSu, .inl (cA, 32, .inr (.inl f)))]) H locs ∧ lv_has ls 6 [(4, .int (nI i)), (0, .ref om), (1, .int (nI to)), (2, .int (nI a)), (3, .int (nI b))]) 16 ?_ ?_ ?_
    · exact ⟨f0, Kgo_0 h0, ⟨hP, hD, hS⟩, hl⟩
    · rintro i H locs ls hi ⟨f, hI, ⟨hP, hD, hS⟩, hl⟩ ih
      refine lv_iload hx hb dX3_multiply_27 (lv_at hl 0 rfl) ?_
      refine lv_bipush (v := nI 16) hx hb dX3_multiply_29 (by decide) ?_
      refine lv_icmp_ge (tgt := 104) hx hb dX3_multiply_31 (by decide) (fun c31 => absurd ((nI_leI (by omega) (by omega)).mp c31) (by omega)) (fun c31 => ?_)
      refine lv_iconst (v := nI 0) hx hb dX3_multiply_34 (by decide) ?_
      refine lv_istore (lv' := [(5, .int (nI 0)), (4, .int (nI i)), (0, .ref om), (1, .int (nI to)), (2, .int (nI a)), (3, .int (nI b))]) hx hb dX3_multiply_35 hl (by decide) rfl (fun ls hl => ?_)
      refine z_loop (fun j H locs ls => ∃ f : Nat → Int64, Kgi dg a b f i j ∧ zH D A s.heap ([(om, .inr (3, [.int fp, .int fs, .int fr, .ref aSc, .ref aPt, .ref aDg, .ref aSu])), (aSc, .inl (cA, 4, .inr (.inl scf))), (aPt, .inl (cA, 4, .inr (.inl ptf))), (aDg, .inl (cI, 208, .inl dg)), (aSu, .inl (cA, 32, .inr (.inl f)))]) H locs ∧ lv_has ls 6 [(5, .int (nI j)), (4, .int (nI i)), (0, .ref om), (1, .int (nI to)), (2, .int (nI a)), (3, .int (nI b))]) 16 ?_ ?_ ?_
      · exact ⟨f, Kgi_0 hI, ⟨hP, hD, hS⟩, lv_sub hl [0, 1, 2, 3, 4, 5] rfl⟩
      · rintro j H locs ls hj ⟨f, hI, ⟨hP, hD, hS⟩, hl⟩ ih2
        refine lv_iload hx hb dX3_multiply_37 (lv_at hl 0 rfl) ?_
        refine lv_bipush (v := nI 16) hx hb dX3_multiply_39 (by decide) ?_
        refine lv_icmp_ge (tgt := 98) hx hb dX3_multiply_41 (by decide) (fun c41 => absurd ((nI_leI (by omega) (by omega)).mp c41) (by omega)) (fun c41 => ?_)
        refine lv_aload_n hx hb dX3_multiply_44 rfl (lv_at hl 2 rfl) ?_
        refine va_get (D := D) (ci := 3) (v := .ref aSu) (C := RX3) (T := TX3) (N := 7) hx hb hts (by decide +kernel) hown hK hP 0 rfl rfl 6 (by decide) (hts (.fieldLink RX3 20 "LadderDeskModel" "sums" "[J") (by decide +kernel)) (fun _ h9 => h9) rfl dX3_multiply_45 ?_
        refine lv_iload hx hb dX3_multiply_48 (lv_at hl 1 rfl) ?_
        refine lv_iload hx hb dX3_multiply_50 (lv_at hl 0 rfl) ?_
        refine lv_iadd hx hb dX3_multiply_52 ?_
        refine zi (nI_add _ _) ?_
        refine lv_aload_n hx hb dX3_multiply_53 rfl (lv_at hl 2 rfl) ?_
        refine va_get (D := D) (ci := 3) (v := .ref aSu) (C := RX3) (T := TX3) (N := 7) hx hb hts (by decide +kernel) hown hK hP 0 rfl rfl 6 (by decide) (hts (.fieldLink RX3 20 "LadderDeskModel" "sums" "[J") (by decide +kernel)) (fun _ h9 => h9) rfl dX3_multiply_54 ?_
        refine lv_iload hx hb dX3_multiply_57 (lv_at hl 1 rfl) ?_
        refine lv_iload hx hb dX3_multiply_59 (lv_at hl 0 rfl) ?_
        refine lv_iadd hx hb dX3_multiply_61 ?_
        refine zi (nI_add _ _) ?_
        refine y_ld hx hb hK hP 4 0 rfl rfl (i + j) rfl (by omega) (by omega) dX3_multiply_62 ?_
        refine lv_topl (fun v62 e62 => ?_)
        refine lv_aload_n hx hb dX3_multiply_63 rfl (lv_at hl 2 rfl) ?_
        refine va_get (D := D) (ci := 3) (v := .ref aDg) (C := RX3) (T := TX3) (N := 7) hx hb hts (by decide +kernel) hown hK hP 0 rfl rfl 5 (by decide) (hts (.fieldLink RX3 16 "LadderDeskModel" "digits" "[I") (by decide +kernel)) (fun _ h9 => h9) rfl dX3_multiply_64 ?_
        refine lv_bipush (v := nI 16) hx hb dX3_multiply_67 (by decide) ?_
        refine lv_iload_n hx hb dX3_multiply_69 rfl (lv_at hl 4 rfl) ?_
        refine lv_imul hx hb dX3_multiply_70 ?_
        refine zi (pk_mul _ _) ?_
        refine lv_iload hx hb dX3_multiply_71 (lv_at hl 1 rfl) ?_
        refine lv_iadd hx hb dX3_multiply_73 ?_
        refine zi (nI_add _ _) ?_
        refine y_ldi hx hb hK hP 3 1 rfl rfl ((16 * a) + i) rfl (by omega) (by omega) dX3_multiply_74 ?_
        refine lv_topi (fun v74 e74 => ?_)
        refine lv_i2l hx hb dX3_multiply_75 rfl ?_
        refine lv_topl (fun v75 e75 => ?_)
        refine lv_aload_n hx hb dX3_multiply_76 rfl (lv_at hl 2 rfl) ?_
        refine va_get (D := D) (ci := 3) (v := .ref aDg) (C := RX3) (T := TX3) (N := 7) hx hb hts (by decide +kernel) hown hK hP 0 rfl rfl 5 (by decide) (hts (.fieldLink RX3 16 "LadderDeskModel" "digits" "[I") (by decide +kernel)) (fun _ h9 => h9) rfl dX3_multiply_77 ?_
        refine lv_bipush (v := nI 16) hx hb dX3_multiply_80 (by decide) ?_
        refine lv_iload_n hx hb dX3_multiply_82 rfl (lv_at hl 5 rfl) ?_
        refine lv_imul hx hb dX3_multiply_83 ?_
        refine zi (pk_mul _ _) ?_
        refine lv_iload hx hb dX3_multiply_84 (lv_at hl 0 rfl) ?_
        refine lv_iadd hx hb dX3_multiply_86 ?_
        refine zi (nI_add _ _) ?_
        refine y_ldi hx hb hK hP 3 1 rfl rfl ((16 * b) + j) rfl (by omega) (by omega) dX3_multiply_87 ?_
        refine lv_topi (fun v87 e87 => ?_)
        refine lv_i2l hx hb dX3_multiply_88 rfl ?_
        refine lv_topl (fun v88 e88 => ?_)
        refine lv_lmul hx hb dX3_multiply_89 ?_
        refine lv_topl (fun v89 e89 => ?_)
        refine lv_ladd hx hb dX3_multiply_90 ?_
        refine lv_topl (fun v90 e90 => ?_)
        refine y_st hx hb hK hP hD hS 4 0 rfl rfl (i + j) rfl (by omega) (by omega) dX3_multiply_91 (fun H locs hP hD hS => ?_)
        have hP : va_P D vwCl ([(om, .inr (3, [.int fp, .int fs, .int fr, .ref aSc, .ref aPt, .ref aDg, .ref aSu])), (aSc, .inl (cA, 4, .inr (.inl scf))), (aPt, .inl (cA, 4, .inr (.inl ptf))), (aDg, .inl (cI, 208, .inl dg)), (aSu, .inl (cA, 32, .inr (.inl (vp_updL f (i + j) v90))))]) H := hP
        have hD : va_D A ([(om, .inr (3, [.int fp, .int fs, .int fr, .ref aSc, .ref aPt, .ref aDg, .ref aSu])), (aSc, .inl (cA, 4, .inr (.inl scf))), (aPt, .inl (cA, 4, .inr (.inl ptf))), (aDg, .inl (cI, 208, .inl dg)), (aSu, .inl (cA, 32, .inr (.inl (vp_updL f (i + j) v90))))]) := hD
        refine lv_iinc (v := nI (j + 1)) (lv' := [(5, .int (nI (j + 1))), (4, .int (nI i)), (0, .ref om), (1, .int (nI to)), (2, .int (nI a)), (3, .int (nI b))]) hx hb dX3_multiply_92 hl (k := 0) rfl (by show nI _ + nI 1 = _; exact nI_add _ _) (by decide) rfl (fun ls hl => ?_)
        refine lv_goto (tgt := 37) hx hb dX3_multiply_95 (by decide) ?_
        exact ih2 _ _ _ ⟨_, Kgi_s (x1 := v75) (x2 := v88) (x := v89) (y := v90) hI hi hj (hxa.1 i hi) (hyb.1 j hj) (by rw [e75, tl_i2l, e74]; rfl) (by rw [e88, tl_i2l, e87]; rfl) e89 (by rw [e90, e62]), ⟨hP, hD, hS⟩, hl⟩
      · rintro H locs ls ⟨f, hI, ⟨hP, hD, hS⟩, hl⟩
        refine lv_iload hx hb dX3_multiply_37 (lv_at hl 0 rfl) ?_
        refine lv_bipush (v := nI 16) hx hb dX3_multiply_39 (by decide) ?_
        refine lv_icmp_ge (tgt := 98) hx hb dX3_multiply_41 (by decide) (fun c41 => ?_) (fun c41 => absurd ((nI_leI (by omega) (by omega)).mpr (by omega)) c41)
        refine lv_iinc (v := nI (i + 1)) (lv' := [(4, .int (nI (i + 1))), (5, .int (nI 16)), (0, .ref om), (1, .int (nI to)), (2, .int (nI a)), (3, .int (nI b))]) hx hb dX3_multiply_98 hl (k := 1) rfl (by show nI _ + nI 1 = _; exact nI_add _ _) (by decide) rfl (fun ls hl => ?_)
        refine lv_goto (tgt := 27) hx hb dX3_multiply_101 (by decide) ?_
        exact ih _ _ _ ⟨_, Kgi_e hI, ⟨hP, hD, hS⟩, lv_sub hl [0, 2, 3, 4, 5] rfl⟩
    · rintro H locs ls ⟨w0, hI, ⟨hP, hD, hS⟩, hl⟩
      refine lv_iload hx hb dX3_multiply_27 (lv_at hl 0 rfl) ?_
      refine lv_bipush (v := nI 16) hx hb dX3_multiply_29 (by decide) ?_
      refine lv_icmp_ge (tgt := 104) hx hb dX3_multiply_31 (by decide) (fun c31 => ?_) (fun c31 => absurd ((nI_leI (by omega) (by omega)).mpr (by omega)) c31)
      refine lv_iconst (v := nI 0) hx hb dX3_multiply_104 (by decide) ?_
      refine lv_istore (lv' := [(4, .int (nI 0)), (0, .ref om), (1, .int (nI to)), (2, .int (nI a)), (3, .int (nI b))]) hx hb dX3_multiply_105 hl (by decide) rfl (fun ls hl => ?_)
      refine z_loop (fun i H locs ls => ∃ f : Nat → Int64, (∀ j, j < i → f j = w0 j + 38 * w0 (16 + j)) ∧ (∀ j, i ≤ j → f j = w0 j) ∧ zH D A s.heap ([(om, .inr (3, [.int fp, .int fs, .int fr, .ref aSc, .ref aPt, .ref aDg, .ref aSu])), (aSc, .inl (cA, 4, .inr (.inl scf))), (aPt, .inl (cA, 4, .inr (.inl ptf))), (aDg, .inl (cI, 208, .inl dg)), (aSu, .inl (cA, 32, .inr (.inl f)))]) H locs ∧ lv_has ls 6 [(4, .int (nI i)), (0, .ref om), (1, .int (nI to)), (2, .int (nI a)), (3, .int (nI b))]) 16 ?_ ?_ ?_
      · exact ⟨w0, fun j h => by omega, fun j _ => rfl, ⟨hP, hD, hS⟩, hl⟩
      · rintro i H locs ls hi ⟨f, h1, h2, ⟨hP, hD, hS⟩, hl⟩ ih
        refine lv_iload hx hb dX3_multiply_107 (lv_at hl 0 rfl) ?_
        refine lv_bipush (v := nI 16) hx hb dX3_multiply_109 (by decide) ?_
        refine lv_icmp_ge (tgt := 149) hx hb dX3_multiply_111 (by decide) (fun c111 => absurd ((nI_leI (by omega) (by omega)).mp c111) (by omega)) (fun c111 => ?_)
        refine lv_aload_n hx hb dX3_multiply_114 rfl (lv_at hl 1 rfl) ?_
        refine va_get (D := D) (ci := 3) (v := .ref aSu) (C := RX3) (T := TX3) (N := 7) hx hb hts (by decide +kernel) hown hK hP 0 rfl rfl 6 (by decide) (hts (.fieldLink RX3 20 "LadderDeskModel" "sums" "[J") (by decide +kernel)) (fun _ h9 => h9) rfl dX3_multiply_115 ?_
        refine lv_iload hx hb dX3_multiply_118 (lv_at hl 0 rfl) ?_
        refine lv_aload_n hx hb dX3_multiply_120 rfl (lv_at hl 1 rfl) ?_
        refine va_get (D := D) (ci := 3) (v := .ref aSu) (C := RX3) (T := TX3) (N := 7) hx hb hts (by decide +kernel) hown hK hP 0 rfl rfl 6 (by decide) (hts (.fieldLink RX3 20 "LadderDeskModel" "sums" "[J") (by decide +kernel)) (fun _ h9 => h9) rfl dX3_multiply_121 ?_
        refine lv_iload hx hb dX3_multiply_124 (lv_at hl 0 rfl) ?_
        refine y_ld hx hb hK hP 4 0 rfl rfl i rfl (by omega) (by omega) dX3_multiply_126 ?_
        refine lv_topl (fun v126 e126 => ?_)
        refine lv_ldc2 (v := 38) hx hb hown (hts (.constantLong RX3 51 (38)) (by decide +kernel)) dX3_multiply_127 ?_
        refine lv_aload_n hx hb dX3_multiply_130 rfl (lv_at hl 1 rfl) ?_
        refine va_get (D := D) (ci := 3) (v := .ref aSu) (C := RX3) (T := TX3) (N := 7) hx hb hts (by decide +kernel) hown hK hP 0 rfl rfl 6 (by decide) (hts (.fieldLink RX3 20 "LadderDeskModel" "sums" "[J") (by decide +kernel)) (fun _ h9 => h9) rfl dX3_multiply_131 ?_
        refine lv_bipush (v := nI 16) hx hb dX3_multiply_134 (by decide) ?_
        refine lv_iload hx hb dX3_multiply_136 (lv_at hl 0 rfl) ?_
        refine lv_iadd hx hb dX3_multiply_138 ?_
        refine zi (nI_add _ _) ?_
        refine y_ld hx hb hK hP 4 0 rfl rfl (16 + i) rfl (by omega) (by omega) dX3_multiply_139 ?_
        refine lv_topl (fun v139 e139 => ?_)
        refine lv_lmul hx hb dX3_multiply_140 ?_
        refine lv_topl (fun v140 e140 => ?_)
        refine lv_ladd hx hb dX3_multiply_141 ?_
        refine lv_topl (fun v141 e141 => ?_)
        refine y_st hx hb hK hP hD hS 4 0 rfl rfl i rfl (by omega) (by omega) dX3_multiply_142 (fun H locs hP hD hS => ?_)
        have hP : va_P D vwCl ([(om, .inr (3, [.int fp, .int fs, .int fr, .ref aSc, .ref aPt, .ref aDg, .ref aSu])), (aSc, .inl (cA, 4, .inr (.inl scf))), (aPt, .inl (cA, 4, .inr (.inl ptf))), (aDg, .inl (cI, 208, .inl dg)), (aSu, .inl (cA, 32, .inr (.inl (vp_updL f i v141))))]) H := hP
        have hD : va_D A ([(om, .inr (3, [.int fp, .int fs, .int fr, .ref aSc, .ref aPt, .ref aDg, .ref aSu])), (aSc, .inl (cA, 4, .inr (.inl scf))), (aPt, .inl (cA, 4, .inr (.inl ptf))), (aDg, .inl (cI, 208, .inl dg)), (aSu, .inl (cA, 32, .inr (.inl (vp_updL f i v141))))]) := hD
        refine lv_iinc (v := nI (i + 1)) (lv' := [(4, .int (nI (i + 1))), (0, .ref om), (1, .int (nI to)), (2, .int (nI a)), (3, .int (nI b))]) hx hb dX3_multiply_143 hl (k := 0) rfl (by show nI _ + nI 1 = _; exact nI_add _ _) (by decide) rfl (fun ls hl => ?_)
        refine lv_goto (tgt := 107) hx hb dX3_multiply_146 (by decide) ?_
        exact ih _ _ _ ⟨_, fun j hj => by
          unfold vp_updL
          by_cases e : j = i
          · subst e; rw [if_pos rfl, e141, e140, e126, e139, h2 j (by omega), h2 (16 + j) (by omega)]
          · rw [if_neg e]; exact h1 j (by omega), fun j hj => by unfold vp_updL; rw [if_neg (by omega)]; exact h2 j (by omega), ⟨hP, hD, hS⟩, hl⟩
      · rintro H locs ls ⟨f, h1, h2, ⟨hP, hD, hS⟩, hl⟩
        obtain ⟨k1, k2⟩ := Kgo_e hI hxa hyb h1
        refine lv_iload hx hb dX3_multiply_107 (lv_at hl 0 rfl) ?_
        refine lv_bipush (v := nI 16) hx hb dX3_multiply_109 (by decide) ?_
        refine lv_icmp_ge (tgt := 149) hx hb dX3_multiply_111 (by decide) (fun c111 => ?_) (fun c111 => absurd ((nI_leI (by omega) (by omega)).mpr (by omega)) c111)
        refine lv_aload_n hx hb dX3_multiply_149 rfl (lv_at hl 1 rfl) ?_
        refine lv_iload_n hx hb dX3_multiply_150 rfl (lv_at hl 2 rfl) ?_
        refine z_callv (va_runV (As := [.int (nI to)]) (rest := []) ⟨hx, hb, hml, hown, hts⟩ (m_store l D cA cI tys om aSc aPt aDg aSu fp fs fr scf ptf dg f to hto k1 _) (cwV 1 hts gX3_multiply_X3_store rfl rfl rfl (by decide +kernel) ⟨Nat.le_of_ble_eq_true rfl, Nat.le_of_ble_eq_true rfl⟩) (z_preV _ hK hP hD (ci := 3) (q0 := 0) rfl rfl) rfl rfl hl.1 rfl (lv_room (Nat.le_of_ble_eq_true rfl)) dX3_multiply_151 ⟨Nat.le_of_ble_eq_true rfl, Nat.le_of_ble_eq_true rfl⟩) hD hS hA (fun u H locs hu hP hD hS => ?_)
        obtain ⟨dg', su', k3, k4, rfl⟩ := hu
        rw [k2] at k4
        exact z_vret hx hb hr hlocks dX3_multiply_154 hK hP hD hS (⟨dg', su', k3, by unfold dc; rw [Int.mul_emod]; exact k4, rfl⟩)
set_option maxRecDepth 100000 in
set_option maxHeartbeats 4000000 in
theorem m_multiplySmall (l : Launch) (D : va_G) (cA cI : ClassId) (tys : List (ClassId × FieldType)) (om aSc aPt aDg aSu : Nat) (fp fs fr : Int32) (scf ptf : Nat → Int64) (dg : Nat → Int32) (su : Nat → Int64) (to a : Nat) (hto : to < 13) (ha13 : a < 13) (x : Int) (hxa : dc dg a x) : zCv l D ((cA, .long) :: (cI, .int) :: tys) yX3_multiplySmall wsX3_multiplySmall ({ frames := 3, cells := 0, slots := 0, locals := 70 }) [.ref om, .int (nI to), .int (nI a), .int 121665] ([(om, .inr (3, [.int fp, .int fs, .int fr, .ref aSc, .ref aPt, .ref aDg, .ref aSu])), (aSc, .inl (cA, 4, .inr (.inl scf))), (aPt, .inl (cA, 4, .inr (.inl ptf))), (aDg, .inl (cI, 208, .inl dg)), (aSu, .inl (cA, 32, .inr (.inl su)))]) (fun (u : va_W) => ∃ (dg' : Nat → Int32) (su' : Nat → Int64), (∀ i, i / 16 ≠ to → dg' i = dg i) ∧ dc dg' to (121665 * x) ∧ u = [(om, .inr (3, [.int fp, .int fs, .int fr, .ref aSc, .ref aPt, .ref aDg, .ref aSu])), (aSc, .inl (cA, 4, .inr (.inl scf))), (aPt, .inl (cA, 4, .inr (.inl ptf))), (aDg, .inl (cI, 208, .inl dg')), (aSu, .inl (cA, 32, .inr (.inl su')))]) := by
  refine z_met (fun A => va_Qv (fun (u : va_W) => ∃ (dg' : Nat → Int32) (su' : Nat → Int64), (∀ i, i / 16 ≠ to → dg' i = dg i) ∧ dc dg' to (121665 * x) ∧ u = [(om, .inr (3, [.int fp, .int fs, .int fr, .ref aSc, .ref aPt, .ref aDg, .ref aSu])), (aSc, .inl (cA, 4, .inr (.inl scf))), (aPt, .inl (cA, 4, .inr (.inl ptf))), (aDg, .inl (cI, 208, .inl dg')), (aSu, .inl (cA, 32, .inr (.inl su')))]) (zB D ((cA, .long) :: (cI, .int) :: tys) A) A) (by decide) rfl (Nat.le_of_ble_eq_true rfl) ?_
  intro p e s m below meth c hx hb hr hml hts hown hlocks hname A hA hP hK hD hS ls hl
  have hown : s.vm.findClass RX3 = some m.cls := hown
  have hl : lv_has ls 5 [(0, .ref om), (1, .int (nI to)), (2, .int (nI a)), (3, .int 121665)] := hl
  refine lv_iconst (v := nI 0) hx hb dX3_multiplySmall_0 (by decide) ?_
  refine lv_istore (lv' := [(4, .int (nI 0)), (0, .ref om), (1, .int (nI to)), (2, .int (nI a)), (3, .int 121665)]) hx hb dX3_multiplySmall_1 hl (by decide) rfl (fun ls hl => ?_)
  refine z_loop (fun i H locs ls => ∃ f : Nat → Int64, (∀ j, j < i → fI f j = 121665 * dd dg a j) ∧ zH D A s.heap ([(om, .inr (3, [.int fp, .int fs, .int fr, .ref aSc, .ref aPt, .ref aDg, .ref aSu])), (aSc, .inl (cA, 4, .inr (.inl scf))), (aPt, .inl (cA, 4, .inr (.inl ptf))), (aDg, .inl (cI, 208, .inl dg)), (aSu, .inl (cA, 32, .inr (.inl f)))]) H locs ∧ lv_has ls 5 [(4, .int (nI i)), (0, .ref om), (1, .int (nI to)), (2, .int (nI a)), (3, .int 121665)]) 16 ?_ ?_ ?_
  · exact ⟨su, fun j h => by omega, ⟨hP, hD, hS⟩, hl⟩
  · rintro i H locs ls hi ⟨f, h1, ⟨hP, hD, hS⟩, hl⟩ ih
    refine lv_iload hx hb dX3_multiplySmall_3 (lv_at hl 0 rfl) ?_
    refine lv_bipush (v := nI 16) hx hb dX3_multiplySmall_5 (by decide) ?_
    refine lv_icmp_ge (tgt := 39) hx hb dX3_multiplySmall_7 (by decide) (fun c7 => absurd ((nI_leI (by omega) (by omega)).mp c7) (by omega)) (fun c7 => ?_)
    refine lv_aload_n hx hb dX3_multiplySmall_10 rfl (lv_at hl 1 rfl) ?_
    refine va_get (D := D) (ci := 3) (v := .ref aSu) (C := RX3) (T := TX3) (N := 7) hx hb hts (by decide +kernel) hown hK hP 0 rfl rfl 6 (by decide) (hts (.fieldLink RX3 20 "LadderDeskModel" "sums" "[J") (by decide +kernel)) (fun _ h9 => h9) rfl dX3_multiplySmall_11 ?_
    refine lv_iload hx hb dX3_multiplySmall_14 (lv_at hl 0 rfl) ?_
    refine lv_aload_n hx hb dX3_multiplySmall_16 rfl (lv_at hl 1 rfl) ?_
    refine va_get (D := D) (ci := 3) (v := .ref aDg) (C := RX3) (T := TX3) (N := 7) hx hb hts (by decide +kernel) hown hK hP 0 rfl rfl 5 (by decide) (hts (.fieldLink RX3 16 "LadderDeskModel" "digits" "[I") (by decide +kernel)) (fun _ h9 => h9) rfl dX3_multiplySmall_17 ?_
    refine lv_bipush (v := nI 16) hx hb dX3_multiplySmall_20 (by decide) ?_
    refine lv_iload_n hx hb dX3_multiplySmall_22 rfl (lv_at hl 3 rfl) ?_
    refine lv_imul hx hb dX3_multiplySmall_23 ?_
    refine zi (pk_mul _ _) ?_
    refine lv_iload hx hb dX3_multiplySmall_24 (lv_at hl 0 rfl) ?_
    refine lv_iadd hx hb dX3_multiplySmall_26 ?_
    refine zi (nI_add _ _) ?_
    refine y_ldi hx hb hK hP 3 1 rfl rfl ((16 * a) + i) rfl (by omega) (by omega) dX3_multiplySmall_27 ?_
    refine lv_topi (fun v27 e27 => ?_)
    refine lv_i2l hx hb dX3_multiplySmall_28 rfl ?_
    refine lv_topl (fun v28 e28 => ?_)
    refine lv_iload_n hx hb dX3_multiplySmall_29 rfl (lv_at hl 4 rfl) ?_
    refine lv_i2l hx hb dX3_multiplySmall_30 rfl ?_
    refine lv_topl (fun v30 e30 => ?_)
    refine lv_lmul hx hb dX3_multiplySmall_31 ?_
    refine lv_topl (fun v31 e31 => ?_)
    refine y_st hx hb hK hP hD hS 4 0 rfl rfl i rfl (by omega) (by omega) dX3_multiplySmall_32 (fun H locs hP hD hS => ?_)
    have hP : va_P D vwCl ([(om, .inr (3, [.int fp, .int fs, .int fr, .ref aSc, .ref aPt, .ref aDg, .ref aSu])), (aSc, .inl (cA, 4, .inr (.inl scf))), (aPt, .inl (cA, 4, .inr (.inl ptf))), (aDg, .inl (cI, 208, .inl dg)), (aSu, .inl (cA, 32, .inr (.inl (vp_updL f i v31))))]) H := hP
    have hD : va_D A ([(om, .inr (3, [.int fp, .int fs, .int fr, .ref aSc, .ref aPt, .ref aDg, .ref aSu])), (aSc, .inl (cA, 4, .inr (.inl scf))), (aPt, .inl (cA, 4, .inr (.inl ptf))), (aDg, .inl (cI, 208, .inl dg)), (aSu, .inl (cA, 32, .inr (.inl (vp_updL f i v31))))]) := hD
    refine lv_iinc (v := nI (i + 1)) (lv' := [(4, .int (nI (i + 1))), (0, .ref om), (1, .int (nI to)), (2, .int (nI a)), (3, .int 121665)]) hx hb dX3_multiplySmall_33 hl (k := 0) rfl (by show nI _ + nI 1 = _; exact nI_add _ _) (by decide) rfl (fun ls hl => ?_)
    refine lv_goto (tgt := 3) hx hb dX3_multiplySmall_36 (by decide) ?_
    have a1 := hxa.1 i hi
    have hB : (cB : Int) = 65536 := rfl
    have i1 : v28.toInt = dd dg a i := by rw [e28, tl_i2l, e27]; rfl
    have i2 : v30.toInt = 121665 := by rw [e30, tl_i2l]; decide
    have i3 : v31.toInt = 121665 * dd dg a i := by rw [e31, tl_mul (by rw [i1, i2]; omega) (by rw [i1, i2]; omega), i1, i2]; omega
    exact ih _ _ _ ⟨_, fun j hj => by
      by_cases e : j = i
      · subst e; rw [fI_us, i3]
      · rw [fI_un e]; exact h1 j (by omega), ⟨hP, hD, hS⟩, hl⟩
  · rintro H locs ls ⟨f, h1, ⟨hP, hD, hS⟩, hl⟩
    obtain ⟨k1, k2⟩ := small_m hxa h1
    refine lv_iload hx hb dX3_multiplySmall_3 (lv_at hl 0 rfl) ?_
    refine lv_bipush (v := nI 16) hx hb dX3_multiplySmall_5 (by decide) ?_
    refine lv_icmp_ge (tgt := 39) hx hb dX3_multiplySmall_7 (by decide) (fun c7 => ?_) (fun c7 => absurd ((nI_leI (by omega) (by omega)).mpr (by omega)) c7)
    refine lv_aload_n hx hb dX3_multiplySmall_39 rfl (lv_at hl 1 rfl) ?_
    refine lv_iload_n hx hb dX3_multiplySmall_40 rfl (lv_at hl 2 rfl) ?_
    refine z_callv (va_runV (As := [.int (nI to)]) (rest := []) ⟨hx, hb, hml, hown, hts⟩ (m_store l D cA cI tys om aSc aPt aDg aSu fp fs fr scf ptf dg f to hto k1 _) (cwV 1 hts gX3_multiplySmall_X3_store rfl rfl rfl (by decide +kernel) ⟨Nat.le_of_ble_eq_true rfl, Nat.le_of_ble_eq_true rfl⟩) (z_preV _ hK hP hD (ci := 3) (q0 := 0) rfl rfl) rfl rfl hl.1 rfl (lv_room (Nat.le_of_ble_eq_true rfl)) dX3_multiplySmall_41 ⟨Nat.le_of_ble_eq_true rfl, Nat.le_of_ble_eq_true rfl⟩) hD hS hA (fun u H locs hu hP hD hS => ?_)
    obtain ⟨dg', su', k3, k4, rfl⟩ := hu
    rw [k2, cg_emod (cg_mul (cg_refl 121665) (cg_mod x))] at k4
    exact z_vret hx hb hr hlocks dX3_multiplySmall_44 hK hP hD hS (⟨dg', su', k3, k4, rfl⟩)
set_option maxRecDepth 100000 in
set_option maxHeartbeats 4000000 in
theorem m_isZero (l : Launch) (D : va_G) (cA cI : ClassId) (tys : List (ClassId × FieldType)) (om aSc aPt aDg aSu : Nat) (fp fs fr : Int32) (scf ptf : Nat → Int64) (dg : Nat → Int32) (su : Nat → Int64) (a : Nat) (ha13 : a < 13) (x : Int) (hxa : dh dg a x) : zCi l D ((cA, .long) :: (cI, .int) :: tys) yX3_isZero wsX3_isZero ({ frames := 0, cells := 0, slots := 0, locals := 0 }) [.ref om, .int (nI a)] ([(om, .inr (3, [.int fp, .int fs, .int fr, .ref aSc, .ref aPt, .ref aDg, .ref aSu])), (aSc, .inl (cA, 4, .inr (.inl scf))), (aPt, .inl (cA, 4, .inr (.inl ptf))), (aDg, .inl (cI, 208, .inl dg)), (aSu, .inl (cA, 32, .inr (.inl su)))]) (fun r (u : va_W) => ((r = 1 ∧ x = 0) ∨ (r = 0 ∧ x ≠ 0)) ∧ u = [(om, .inr (3, [.int fp, .int fs, .int fr, .ref aSc, .ref aPt, .ref aDg, .ref aSu])), (aSc, .inl (cA, 4, .inr (.inl scf))), (aPt, .inl (cA, 4, .inr (.inl ptf))), (aDg, .inl (cI, 208, .inl dg)), (aSu, .inl (cA, 32, .inr (.inl su)))]) := by
  refine z_met (fun A => va_Qi (fun r (u : va_W) => ((r = 1 ∧ x = 0) ∨ (r = 0 ∧ x ≠ 0)) ∧ u = [(om, .inr (3, [.int fp, .int fs, .int fr, .ref aSc, .ref aPt, .ref aDg, .ref aSu])), (aSc, .inl (cA, 4, .inr (.inl scf))), (aPt, .inl (cA, 4, .inr (.inl ptf))), (aDg, .inl (cI, 208, .inl dg)), (aSu, .inl (cA, 32, .inr (.inl su)))]) (zB D ((cA, .long) :: (cI, .int) :: tys) A) A) (by decide) rfl (Nat.le_of_ble_eq_true rfl) ?_
  intro p e s m below meth c hx hb hr hml hts hown hlocks hname A hA hP hK hD hS ls hl
  have hown : s.vm.findClass RX3 = some m.cls := hown
  have hl : lv_has ls 4 [(0, .ref om), (1, .int (nI a))] := hl
  refine lv_iconst (v := nI 1) hx hb dX3_isZero_0 (by decide) ?_
  refine lv_istore_n (lv' := [(2, .int (nI 1)), (0, .ref om), (1, .int (nI a))]) hx hb dX3_isZero_1 rfl hl (by decide) rfl (fun ls hl => ?_)
  refine lv_iconst (v := nI 0) hx hb dX3_isZero_2 (by decide) ?_
  refine lv_istore_n (lv' := [(3, .int (nI 0)), (2, .int (nI 1)), (0, .ref om), (1, .int (nI a))]) hx hb dX3_isZero_3 rfl hl (by decide) rfl (fun ls hl => ?_)
  refine z_loop (fun i H locs ls => ∃ z : Int32, ((z = 1 ∧ ∀ j, j < i → dd dg a j = 0) ∨ (z = 0 ∧ ¬ ∀ j, j < 16 → dd dg a j = 0)) ∧ zH D A s.heap ([(om, .inr (3, [.int fp, .int fs, .int fr, .ref aSc, .ref aPt, .ref aDg, .ref aSu])), (aSc, .inl (cA, 4, .inr (.inl scf))), (aPt, .inl (cA, 4, .inr (.inl ptf))), (aDg, .inl (cI, 208, .inl dg)), (aSu, .inl (cA, 32, .inr (.inl su)))]) H locs ∧ lv_has ls 4 [(3, .int (nI i)), (2, .int z), (0, .ref om), (1, .int (nI a))]) 16 ?_ ?_ ?_
  · exact ⟨nI 1, Or.inl ⟨rfl, fun j h => by omega⟩, ⟨hP, hD, hS⟩, hl⟩
  · rintro i H locs ls hi ⟨z, h1, ⟨hP, hD, hS⟩, hl⟩ ih
    refine lv_iload_n hx hb dX3_isZero_4 rfl (lv_at hl 0 rfl) ?_
    refine lv_bipush (v := nI 16) hx hb dX3_isZero_5 (by decide) ?_
    refine lv_icmp_ge (tgt := 40) hx hb dX3_isZero_7 (by decide) (fun c7 => absurd ((nI_leI (by omega) (by omega)).mp c7) (by omega)) (fun c7 => ?_)
    refine lv_iload_n hx hb dX3_isZero_10 rfl (lv_at hl 1 rfl) ?_
    refine lv_if_eq (tgt := 32) hx hb dX3_isZero_11 (by decide) (fun c11 => ?_) (fun c11 => ?_)
    · have hn : ¬ ∀ j, j < 16 → dd dg a j = 0 := by
        rcases h1 with ⟨h, -⟩ | ⟨-, h⟩
        · rw [h] at c11; exact absurd c11 (by decide)
        · exact h
      refine lv_iconst (v := nI 0) hx hb dX3_isZero_32 (by decide) ?_
      refine lv_istore_n (lv' := [(2, .int (nI 0)), (3, .int (nI i)), (0, .ref om), (1, .int (nI a))]) hx hb dX3_isZero_33 rfl hl (by decide) rfl (fun ls hl => ?_)
      refine lv_iinc (v := nI (i + 1)) (lv' := [(3, .int (nI (i + 1))), (2, .int (nI 0)), (0, .ref om), (1, .int (nI a))]) hx hb dX3_isZero_34 hl (k := 1) rfl (by show nI _ + nI 1 = _; exact nI_add _ _) (by decide) rfl (fun ls hl => ?_)
      refine lv_goto (tgt := 4) hx hb dX3_isZero_37 (by decide) ?_
      exact ih _ _ _ ⟨_, Or.inr ⟨rfl, hn⟩, ⟨hP, hD, hS⟩, hl⟩
    · have hz : ∀ j, j < i → dd dg a j = 0 := by
        rcases h1 with ⟨-, h⟩ | ⟨h, -⟩
        · exact h
        · exact absurd h c11
      refine lv_aload_n hx hb dX3_isZero_14 rfl (lv_at hl 2 rfl) ?_
      refine va_get (D := D) (ci := 3) (v := .ref aDg) (C := RX3) (T := TX3) (N := 7) hx hb hts (by decide +kernel) hown hK hP 0 rfl rfl 5 (by decide) (hts (.fieldLink RX3 16 "LadderDeskModel" "digits" "[I") (by decide +kernel)) (fun _ h9 => h9) rfl dX3_isZero_15 ?_
      refine lv_bipush (v := nI 16) hx hb dX3_isZero_18 (by decide) ?_
      refine lv_iload_n hx hb dX3_isZero_20 rfl (lv_at hl 3 rfl) ?_
      refine lv_imul hx hb dX3_isZero_21 ?_
      refine zi (pk_mul _ _) ?_
      refine lv_iload_n hx hb dX3_isZero_22 rfl (lv_at hl 0 rfl) ?_
      refine lv_iadd hx hb dX3_isZero_23 ?_
      refine zi (nI_add _ _) ?_
      refine y_ldi hx hb hK hP 3 1 rfl rfl ((16 * a) + i) rfl (by omega) (by omega) dX3_isZero_24 ?_
      refine lv_topi (fun v24 e24 => ?_)
      refine lv_if_ne (tgt := 32) hx hb dX3_isZero_25 (by decide) (fun c25 => ?_) (fun c25 => ?_)
      · have hn : ¬ ∀ j, j < 16 → dd dg a j = 0 := fun h => c25 (Int32.toInt_inj.mp (by rw [e24]; exact h i hi))
        refine lv_iconst (v := nI 0) hx hb dX3_isZero_32 (by decide) ?_
        refine lv_istore_n (lv' := [(2, .int (nI 0)), (3, .int (nI i)), (0, .ref om), (1, .int (nI a))]) hx hb dX3_isZero_33 rfl hl (by decide) rfl (fun ls hl => ?_)
        refine lv_iinc (v := nI (i + 1)) (lv' := [(3, .int (nI (i + 1))), (2, .int (nI 0)), (0, .ref om), (1, .int (nI a))]) hx hb dX3_isZero_34 hl (k := 1) rfl (by show nI _ + nI 1 = _; exact nI_add _ _) (by decide) rfl (fun ls hl => ?_)
        refine lv_goto (tgt := 4) hx hb dX3_isZero_37 (by decide) ?_
        exact ih _ _ _ ⟨_, Or.inr ⟨rfl, hn⟩, ⟨hP, hD, hS⟩, hl⟩
      · have hi0 : dd dg a i = 0 := by show (dg (16 * a + i)).toInt = 0; rw [← e24, c25]; rfl
        refine lv_iconst (v := nI 1) hx hb dX3_isZero_28 (by decide) ?_
        refine lv_goto (tgt := 33) hx hb dX3_isZero_29 (by decide) ?_
        refine lv_istore_n (lv' := [(2, .int (nI 1)), (3, .int (nI i)), (0, .ref om), (1, .int (nI a))]) hx hb dX3_isZero_33 rfl hl (by decide) rfl (fun ls hl => ?_)
        refine lv_iinc (v := nI (i + 1)) (lv' := [(3, .int (nI (i + 1))), (2, .int (nI 1)), (0, .ref om), (1, .int (nI a))]) hx hb dX3_isZero_34 hl (k := 1) rfl (by show nI _ + nI 1 = _; exact nI_add _ _) (by decide) rfl (fun ls hl => ?_)
        refine lv_goto (tgt := 4) hx hb dX3_isZero_37 (by decide) ?_
        exact ih _ _ _ ⟨_, Or.inl ⟨rfl, fun j hj => by by_cases e : j = i; (rw [e]; exact hi0); exact hz j (by omega)⟩, ⟨hP, hD, hS⟩, hl⟩
  · rintro H locs ls ⟨z, h1, ⟨hP, hD, hS⟩, hl⟩
    refine lv_iload_n hx hb dX3_isZero_4 rfl (lv_at hl 0 rfl) ?_
    refine lv_bipush (v := nI 16) hx hb dX3_isZero_5 (by decide) ?_
    refine lv_icmp_ge (tgt := 40) hx hb dX3_isZero_7 (by decide) (fun c7 => ?_) (fun c7 => absurd ((nI_leI (by omega) (by omega)).mpr (by omega)) c7)
    refine lv_iload_n hx hb dX3_isZero_40 rfl (lv_at hl 1 rfl) ?_
    rw [zero_iff hxa] at h1
    rcases h1 with ⟨rfl, h⟩ | ⟨rfl, h⟩
    · exact z_zret hx hb hr hlocks dX3_isZero_41 rfl hK hP hD hS ⟨Or.inl ⟨rfl, h⟩, rfl⟩
    · exact z_zret hx hb hr hlocks dX3_isZero_41 rfl hK hP hD hS ⟨Or.inr ⟨rfl, h⟩, rfl⟩
set_option maxRecDepth 100000 in
set_option maxHeartbeats 4000000 in
theorem m_isSame (l : Launch) (D : va_G) (cA cI : ClassId) (tys : List (ClassId × FieldType)) (om aSc aPt aDg aSu : Nat) (fp fs fr : Int32) (scf ptf : Nat → Int64) (dg : Nat → Int32) (su : Nat → Int64) (a b : Nat) (ha13 : a < 13) (hb13 : b < 13) (x y : Int) (hxa : dh dg a x) (hyb : dh dg b y) : zCi l D ((cA, .long) :: (cI, .int) :: tys) yX3_isSame wsX3_isSame ({ frames := 0, cells := 0, slots := 0, locals := 0 }) [.ref om, .int (nI a), .int (nI b)] ([(om, .inr (3, [.int fp, .int fs, .int fr, .ref aSc, .ref aPt, .ref aDg, .ref aSu])), (aSc, .inl (cA, 4, .inr (.inl scf))), (aPt, .inl (cA, 4, .inr (.inl ptf))), (aDg, .inl (cI, 208, .inl dg)), (aSu, .inl (cA, 32, .inr (.inl su)))]) (fun r (u : va_W) => ((r = 1 ∧ x = y) ∨ (r = 0 ∧ x ≠ y)) ∧ u = [(om, .inr (3, [.int fp, .int fs, .int fr, .ref aSc, .ref aPt, .ref aDg, .ref aSu])), (aSc, .inl (cA, 4, .inr (.inl scf))), (aPt, .inl (cA, 4, .inr (.inl ptf))), (aDg, .inl (cI, 208, .inl dg)), (aSu, .inl (cA, 32, .inr (.inl su)))]) := by
  refine z_met (fun A => va_Qi (fun r (u : va_W) => ((r = 1 ∧ x = y) ∨ (r = 0 ∧ x ≠ y)) ∧ u = [(om, .inr (3, [.int fp, .int fs, .int fr, .ref aSc, .ref aPt, .ref aDg, .ref aSu])), (aSc, .inl (cA, 4, .inr (.inl scf))), (aPt, .inl (cA, 4, .inr (.inl ptf))), (aDg, .inl (cI, 208, .inl dg)), (aSu, .inl (cA, 32, .inr (.inl su)))]) (zB D ((cA, .long) :: (cI, .int) :: tys) A) A) (by decide) rfl (Nat.le_of_ble_eq_true rfl) ?_
  intro p e s m below meth c hx hb hr hml hts hown hlocks hname A hA hP hK hD hS ls hl
  have hown : s.vm.findClass RX3 = some m.cls := hown
  have hl : lv_has ls 5 [(0, .ref om), (1, .int (nI a)), (2, .int (nI b))] := hl
  refine lv_iconst (v := nI 1) hx hb dX3_isSame_0 (by decide) ?_
  refine lv_istore_n (lv' := [(3, .int (nI 1)), (0, .ref om), (1, .int (nI a)), (2, .int (nI b))]) hx hb dX3_isSame_1 rfl hl (by decide) rfl (fun ls hl => ?_)
  refine lv_iconst (v := nI 0) hx hb dX3_isSame_2 (by decide) ?_
  refine lv_istore (lv' := [(4, .int (nI 0)), (3, .int (nI 1)), (0, .ref om), (1, .int (nI a)), (2, .int (nI b))]) hx hb dX3_isSame_3 hl (by decide) rfl (fun ls hl => ?_)
  refine z_loop (fun i H locs ls => ∃ z : Int32, ((z = 1 ∧ ∀ j, j < i → dd dg a j = dd dg b j) ∨ (z = 0 ∧ ¬ ∀ j, j < 16 → dd dg a j = dd dg b j)) ∧ zH D A s.heap ([(om, .inr (3, [.int fp, .int fs, .int fr, .ref aSc, .ref aPt, .ref aDg, .ref aSu])), (aSc, .inl (cA, 4, .inr (.inl scf))), (aPt, .inl (cA, 4, .inr (.inl ptf))), (aDg, .inl (cI, 208, .inl dg)), (aSu, .inl (cA, 32, .inr (.inl su)))]) H locs ∧ lv_has ls 5 [(4, .int (nI i)), (3, .int z), (0, .ref om), (1, .int (nI a)), (2, .int (nI b))]) 16 ?_ ?_ ?_
  · exact ⟨nI 1, Or.inl ⟨rfl, fun j h => by omega⟩, ⟨hP, hD, hS⟩, hl⟩
  · rintro i H locs ls hi ⟨z, h1, ⟨hP, hD, hS⟩, hl⟩ ih
    refine lv_iload hx hb dX3_isSame_5 (lv_at hl 0 rfl) ?_
    refine lv_bipush (v := nI 16) hx hb dX3_isSame_7 (by decide) ?_
    refine lv_icmp_ge (tgt := 55) hx hb dX3_isSame_9 (by decide) (fun c9 => absurd ((nI_leI (by omega) (by omega)).mp c9) (by omega)) (fun c9 => ?_)
    refine lv_iload_n hx hb dX3_isSame_12 rfl (lv_at hl 1 rfl) ?_
    refine lv_if_eq (tgt := 47) hx hb dX3_isSame_13 (by decide) (fun c13 => ?_) (fun c13 => ?_)
    · have hn : ¬ ∀ j, j < 16 → dd dg a j = dd dg b j := by
        rcases h1 with ⟨h, -⟩ | ⟨-, h⟩
        · rw [h] at c13; exact absurd c13 (by decide)
        · exact h
      refine lv_iconst (v := nI 0) hx hb dX3_isSame_47 (by decide) ?_
      refine lv_istore_n (lv' := [(3, .int (nI 0)), (4, .int (nI i)), (0, .ref om), (1, .int (nI a)), (2, .int (nI b))]) hx hb dX3_isSame_48 rfl hl (by decide) rfl (fun ls hl => ?_)
      refine lv_iinc (v := nI (i + 1)) (lv' := [(4, .int (nI (i + 1))), (3, .int (nI 0)), (0, .ref om), (1, .int (nI a)), (2, .int (nI b))]) hx hb dX3_isSame_49 hl (k := 1) rfl (by show nI _ + nI 1 = _; exact nI_add _ _) (by decide) rfl (fun ls hl => ?_)
      refine lv_goto (tgt := 5) hx hb dX3_isSame_52 (by decide) ?_
      exact ih _ _ _ ⟨_, Or.inr ⟨rfl, hn⟩, ⟨hP, hD, hS⟩, hl⟩
    · have hz : ∀ j, j < i → dd dg a j = dd dg b j := by
        rcases h1 with ⟨-, h⟩ | ⟨h, -⟩
        · exact h
        · exact absurd h c13
      refine lv_aload_n hx hb dX3_isSame_16 rfl (lv_at hl 2 rfl) ?_
      refine va_get (D := D) (ci := 3) (v := .ref aDg) (C := RX3) (T := TX3) (N := 7) hx hb hts (by decide +kernel) hown hK hP 0 rfl rfl 5 (by decide) (hts (.fieldLink RX3 16 "LadderDeskModel" "digits" "[I") (by decide +kernel)) (fun _ h9 => h9) rfl dX3_isSame_17 ?_
      refine lv_bipush (v := nI 16) hx hb dX3_isSame_20 (by decide) ?_
      refine lv_iload_n hx hb dX3_isSame_22 rfl (lv_at hl 3 rfl) ?_
      refine lv_imul hx hb dX3_isSame_23 ?_
      refine zi (pk_mul _ _) ?_
      refine lv_iload hx hb dX3_isSame_24 (lv_at hl 0 rfl) ?_
      refine lv_iadd hx hb dX3_isSame_26 ?_
      refine zi (nI_add _ _) ?_
      refine y_ldi hx hb hK hP 3 1 rfl rfl ((16 * a) + i) rfl (by omega) (by omega) dX3_isSame_27 ?_
      refine lv_topi (fun v27 e27 => ?_)
      refine lv_aload_n hx hb dX3_isSame_28 rfl (lv_at hl 2 rfl) ?_
      refine va_get (D := D) (ci := 3) (v := .ref aDg) (C := RX3) (T := TX3) (N := 7) hx hb hts (by decide +kernel) hown hK hP 0 rfl rfl 5 (by decide) (hts (.fieldLink RX3 16 "LadderDeskModel" "digits" "[I") (by decide +kernel)) (fun _ h9 => h9) rfl dX3_isSame_29 ?_
      refine lv_bipush (v := nI 16) hx hb dX3_isSame_32 (by decide) ?_
      refine lv_iload_n hx hb dX3_isSame_34 rfl (lv_at hl 4 rfl) ?_
      refine lv_imul hx hb dX3_isSame_35 ?_
      refine zi (pk_mul _ _) ?_
      refine lv_iload hx hb dX3_isSame_36 (lv_at hl 0 rfl) ?_
      refine lv_iadd hx hb dX3_isSame_38 ?_
      refine zi (nI_add _ _) ?_
      refine y_ldi hx hb hK hP 3 1 rfl rfl ((16 * b) + i) rfl (by omega) (by omega) dX3_isSame_39 ?_
      refine lv_topi (fun v39 e39 => ?_)
      refine lv_icmp_ne (tgt := 47) hx hb dX3_isSame_40 (by decide) (fun c40 => ?_) (fun c40 => ?_)
      · have hn : ¬ ∀ j, j < 16 → dd dg a j = dd dg b j := fun h => c40 (Int32.toInt_inj.mp (by rw [e27, e39]; exact h i hi))
        refine lv_iconst (v := nI 0) hx hb dX3_isSame_47 (by decide) ?_
        refine lv_istore_n (lv' := [(3, .int (nI 0)), (4, .int (nI i)), (0, .ref om), (1, .int (nI a)), (2, .int (nI b))]) hx hb dX3_isSame_48 rfl hl (by decide) rfl (fun ls hl => ?_)
        refine lv_iinc (v := nI (i + 1)) (lv' := [(4, .int (nI (i + 1))), (3, .int (nI 0)), (0, .ref om), (1, .int (nI a)), (2, .int (nI b))]) hx hb dX3_isSame_49 hl (k := 1) rfl (by show nI _ + nI 1 = _; exact nI_add _ _) (by decide) rfl (fun ls hl => ?_)
        refine lv_goto (tgt := 5) hx hb dX3_isSame_52 (by decide) ?_
        exact ih _ _ _ ⟨_, Or.inr ⟨rfl, hn⟩, ⟨hP, hD, hS⟩, hl⟩
      · have hi0 : dd dg a i = dd dg b i := by show (dg (16 * a + i)).toInt = (dg (16 * b + i)).toInt; rw [← e27, ← e39, c40]
        refine lv_iconst (v := nI 1) hx hb dX3_isSame_43 (by decide) ?_
        refine lv_goto (tgt := 48) hx hb dX3_isSame_44 (by decide) ?_
        refine lv_istore_n (lv' := [(3, .int (nI 1)), (4, .int (nI i)), (0, .ref om), (1, .int (nI a)), (2, .int (nI b))]) hx hb dX3_isSame_48 rfl hl (by decide) rfl (fun ls hl => ?_)
        refine lv_iinc (v := nI (i + 1)) (lv' := [(4, .int (nI (i + 1))), (3, .int (nI 1)), (0, .ref om), (1, .int (nI a)), (2, .int (nI b))]) hx hb dX3_isSame_49 hl (k := 1) rfl (by show nI _ + nI 1 = _; exact nI_add _ _) (by decide) rfl (fun ls hl => ?_)
        refine lv_goto (tgt := 5) hx hb dX3_isSame_52 (by decide) ?_
        exact ih _ _ _ ⟨_, Or.inl ⟨rfl, fun j hj => by by_cases e : j = i; (rw [e]; exact hi0); exact hz j (by omega)⟩, ⟨hP, hD, hS⟩, hl⟩
  · rintro H locs ls ⟨z, h1, ⟨hP, hD, hS⟩, hl⟩
    refine lv_iload hx hb dX3_isSame_5 (lv_at hl 0 rfl) ?_
    refine lv_bipush (v := nI 16) hx hb dX3_isSame_7 (by decide) ?_
    refine lv_icmp_ge (tgt := 55) hx hb dX3_isSame_9 (by decide) (fun c9 => ?_) (fun c9 => absurd ((nI_leI (by omega) (by omega)).mpr (by omega)) c9)
    refine lv_iload_n hx hb dX3_isSame_55 rfl (lv_at hl 1 rfl) ?_
    rw [same_iff hxa hyb] at h1
    rcases h1 with ⟨rfl, h⟩ | ⟨rfl, h⟩
    · exact z_zret hx hb hr hlocks dX3_isSame_56 rfl hK hP hD hS ⟨Or.inl ⟨rfl, h⟩, rfl⟩
    · exact z_zret hx hb hr hlocks dX3_isSame_56 rfl hK hP hD hS ⟨Or.inr ⟨rfl, h⟩, rfl⟩
theorem dn_3 : ∀ i, i < 4 → nI (3 - i) + Int32.ofInt (-1) = nI 3 - nI (i + 1) := by decide +kernel
set_option maxRecDepth 100000 in
set_option maxHeartbeats 4000000 in
theorem m_longOf (l : Launch) (D : va_G) (cA cI : ClassId) (tys : List (ClassId × FieldType)) (om aSc aPt aDg aSu : Nat) (fp fs fr : Int32) (scf ptf : Nat → Int64) (dg : Nat → Int32) (su : Nat → Int64) (a k : Nat) (ha13 : a < 13) (hk : k < 4) (x : Int) (hxa : dh dg a x) : zCl l D ((cA, .long) :: (cI, .int) :: tys) yX3_longOf wsX3_longOf ({ frames := 0, cells := 0, slots := 0, locals := 0 }) [.ref om, .int (nI a), .int (nI k)] ([(om, .inr (3, [.int fp, .int fs, .int fr, .ref aSc, .ref aPt, .ref aDg, .ref aSu])), (aSc, .inl (cA, 4, .inr (.inl scf))), (aPt, .inl (cA, 4, .inr (.inl ptf))), (aDg, .inl (cI, 208, .inl dg)), (aSu, .inl (cA, 32, .inr (.inl su)))]) (fun r (u : va_W) => r = ow x.toNat k ∧ u = [(om, .inr (3, [.int fp, .int fs, .int fr, .ref aSc, .ref aPt, .ref aDg, .ref aSu])), (aSc, .inl (cA, 4, .inr (.inl scf))), (aPt, .inl (cA, 4, .inr (.inl ptf))), (aDg, .inl (cI, 208, .inl dg)), (aSu, .inl (cA, 32, .inr (.inl su)))]) := by
  refine z_met (fun A => va_Ql (fun r (u : va_W) => r = ow x.toNat k ∧ u = [(om, .inr (3, [.int fp, .int fs, .int fr, .ref aSc, .ref aPt, .ref aDg, .ref aSu])), (aSc, .inl (cA, 4, .inr (.inl scf))), (aPt, .inl (cA, 4, .inr (.inl ptf))), (aDg, .inl (cI, 208, .inl dg)), (aSu, .inl (cA, 32, .inr (.inl su)))]) (zB D ((cA, .long) :: (cI, .int) :: tys) A) A) (by decide) rfl (Nat.le_of_ble_eq_true rfl) ?_
  intro p e s m below meth c hx hb hr hml hts hown hlocks hname A hA hP hK hD hS ls hl
  have hown : s.vm.findClass RX3 = some m.cls := hown
  have hl : lv_has ls 6 [(0, .ref om), (1, .int (nI a)), (2, .int (nI k))] := hl
  refine lv_lconst (v := 0) hx hb dX3_longOf_0 (by decide) ?_
  refine lv_lstore_n (lv' := [(3, .long 0), (0, .ref om), (1, .int (nI a)), (2, .int (nI k))]) hx hb dX3_longOf_1 rfl hl (by decide) rfl (fun ls hl => ?_)
  refine lv_iconst (v := nI 3) hx hb dX3_longOf_2 (by decide) ?_
  refine lv_istore (lv' := [(5, .int (nI 3)), (3, .long 0), (0, .ref om), (1, .int (nI a)), (2, .int (nI k))]) hx hb dX3_longOf_3 hl (by decide) rfl (fun ls hl => ?_)
  refine z_loop (fun i H locs ls => ∃ v : Int64, v = lN (la dg (16 * a + 4 * k) i) ∧ zH D A s.heap ([(om, .inr (3, [.int fp, .int fs, .int fr, .ref aSc, .ref aPt, .ref aDg, .ref aSu])), (aSc, .inl (cA, 4, .inr (.inl scf))), (aPt, .inl (cA, 4, .inr (.inl ptf))), (aDg, .inl (cI, 208, .inl dg)), (aSu, .inl (cA, 32, .inr (.inl su)))]) H locs ∧ lv_has ls 6 [(5, .int (nI 3 - nI i)), (3, .long v), (0, .ref om), (1, .int (nI a)), (2, .int (nI k))]) 4 ?_ ?_ ?_
  · exact ⟨0, rfl, ⟨hP, hD, hS⟩, lv_eq (by rw [show nI 3 - nI 0 = nI 3 from by decide]) hl⟩
  · rintro i H locs ls hi ⟨v, h1, ⟨hP, hD, hS⟩, hl⟩ ih
    have hl : lv_has ls 6 [(5, .int (nI (3 - i))), (3, .long v), (0, .ref om), (1, .int (nI a)), (2, .int (nI k))] := by rw [← pk_sub (show i ≤ 3 by omega)]; exact hl
    refine lv_iload hx hb dX3_longOf_5 (lv_at hl 0 rfl) ?_
    refine lv_if_lt (tgt := 40) hx hb dX3_longOf_7 (by decide) (fun c7 => absurd c7 (nI_pos (by omega))) (fun c7 => ?_)
    refine lv_lload_n hx hb dX3_longOf_10 rfl (lv_at hl 1 rfl) ?_
    refine lv_ldc2 (v := 65536) hx hb hown (hts (.constantLong RX3 49 (65536)) (by decide +kernel)) dX3_longOf_11 ?_
    refine lv_lmul hx hb dX3_longOf_14 ?_
    refine lv_topl (fun v14 e14 => ?_)
    refine lv_aload_n hx hb dX3_longOf_15 rfl (lv_at hl 2 rfl) ?_
    refine va_get (D := D) (ci := 3) (v := .ref aDg) (C := RX3) (T := TX3) (N := 7) hx hb hts (by decide +kernel) hown hK hP 0 rfl rfl 5 (by decide) (hts (.fieldLink RX3 16 "LadderDeskModel" "digits" "[I") (by decide +kernel)) (fun _ h9 => h9) rfl dX3_longOf_16 ?_
    refine lv_bipush (v := nI 16) hx hb dX3_longOf_19 (by decide) ?_
    refine lv_iload_n hx hb dX3_longOf_21 rfl (lv_at hl 3 rfl) ?_
    refine lv_imul hx hb dX3_longOf_22 ?_
    refine zi (pk_mul _ _) ?_
    refine lv_iconst (v := nI 4) hx hb dX3_longOf_23 (by decide) ?_
    refine lv_iload_n hx hb dX3_longOf_24 rfl (lv_at hl 4 rfl) ?_
    refine lv_imul hx hb dX3_longOf_25 ?_
    refine zi (pk_mul _ _) ?_
    refine lv_iadd hx hb dX3_longOf_26 ?_
    refine zi (nI_add _ _) ?_
    refine lv_iload hx hb dX3_longOf_27 (lv_at hl 0 rfl) ?_
    refine lv_iadd hx hb dX3_longOf_29 ?_
    refine zi (nI_add _ _) ?_
    refine y_ldi hx hb hK hP 3 1 rfl rfl (((16 * a) + (4 * k)) + (3 - i)) rfl (by omega) (by omega) dX3_longOf_30 ?_
    refine lv_topi (fun v30 e30 => ?_)
    refine lv_i2l hx hb dX3_longOf_31 rfl ?_
    refine lv_topl (fun v31 e31 => ?_)
    refine lv_ladd hx hb dX3_longOf_32 ?_
    refine lv_topl (fun v32 e32 => ?_)
    refine lv_lstore_n (lv' := [(3, .long v32), (5, .int (nI (3 - i))), (0, .ref om), (1, .int (nI a)), (2, .int (nI k))]) hx hb dX3_longOf_33 rfl hl (by decide) rfl (fun ls hl => ?_)
    refine lv_iinc (v := nI 3 - nI (i + 1)) (lv' := [(5, .int (nI 3 - nI (i + 1))), (3, .long v32), (0, .ref om), (1, .int (nI a)), (2, .int (nI k))]) hx hb dX3_longOf_34 hl (k := 1) rfl (dn_3 i hi) (by decide) rfl (fun ls hl => ?_)
    refine lv_goto (tgt := 5) hx hb dX3_longOf_37 (by decide) ?_
    have hd0 : 0 ≤ v30.toInt := by have := (hxa.1 (4 * k + (3 - i)) (by omega)).1; unfold dd at this; rw [e30, show 16 * a + 4 * k + (3 - i) = 16 * a + (4 * k + (3 - i)) by omega]; exact this
    exact ih _ _ _ ⟨_, la_s (w := v14) (x := v31) h1 e30 hd0 e14 e31 e32, ⟨hP, hD, hS⟩, hl⟩
  · rintro H locs ls ⟨v, h1, ⟨hP, hD, hS⟩, hl⟩
    refine lv_iload hx hb dX3_longOf_5 (lv_at hl 0 rfl) ?_
    refine lv_if_lt (tgt := 40) hx hb dX3_longOf_7 (by decide) (fun c7 => ?_) (fun c7 => absurd (by decide) c7)
    refine lv_lload_n hx hb dX3_longOf_40 rfl (lv_at hl 1 rfl) ?_
    exact z_lret hx hb hr hlocks dX3_longOf_41 hK hP hD hS (⟨by rw [h1, la_4 hxa hk], rfl⟩)
set_option maxRecDepth 100000 in
set_option maxHeartbeats 4000000 in
theorem m_bit (l : Launch) (D : va_G) (cA cI : ClassId) (tys : List (ClassId × FieldType)) (om aSc aPt aDg aSu : Nat) (fp fs fr : Int32) (scf ptf : Nat → Int64) (dg : Nat → Int32) (su : Nat → Int64) (i : Nat) (hi : i ≤ 254) : zCi l D ((cA, .long) :: (cI, .int) :: tys) yX3_bit wsX3_bit ({ frames := 0, cells := 0, slots := 0, locals := 0 }) [.ref om, .int (nI i)] ([(om, .inr (3, [.int fp, .int fs, .int fr, .ref aSc, .ref aPt, .ref aDg, .ref aSu])), (aSc, .inl (cA, 4, .inr (.inl scf))), (aPt, .inl (cA, 4, .inr (.inl ptf))), (aDg, .inl (cI, 208, .inl dg)), (aSu, .inl (cA, 32, .inr (.inl su)))]) (fun r (u : va_W) => (r = 1 ∨ r = 0) ∧ (pb scf i = true ↔ ¬ r = 0) ∧ u = [(om, .inr (3, [.int fp, .int fs, .int fr, .ref aSc, .ref aPt, .ref aDg, .ref aSu])), (aSc, .inl (cA, 4, .inr (.inl scf))), (aPt, .inl (cA, 4, .inr (.inl ptf))), (aDg, .inl (cI, 208, .inl dg)), (aSu, .inl (cA, 32, .inr (.inl su)))]) := by
  refine z_met (fun A => va_Qi (fun r (u : va_W) => (r = 1 ∨ r = 0) ∧ (pb scf i = true ↔ ¬ r = 0) ∧ u = [(om, .inr (3, [.int fp, .int fs, .int fr, .ref aSc, .ref aPt, .ref aDg, .ref aSu])), (aSc, .inl (cA, 4, .inr (.inl scf))), (aPt, .inl (cA, 4, .inr (.inl ptf))), (aDg, .inl (cI, 208, .inl dg)), (aSu, .inl (cA, 32, .inr (.inl su)))]) (zB D ((cA, .long) :: (cI, .int) :: tys) A) A) (by decide) rfl (Nat.le_of_ble_eq_true rfl) ?_
  intro p e s m below meth c hx hb hr hml hts hown hlocks hname A hA hP hK hD hS ls hl
  have hown : s.vm.findClass RX3 = some m.cls := hown
  have hl : lv_has ls 2 [(0, .ref om), (1, .int (nI i))] := hl
  refine lv_iload_n hx hb dX3_bit_0 rfl (lv_at hl 1 rfl) ?_
  refine lv_iconst (v := nI 3) hx hb dX3_bit_1 (by decide) ?_
  refine lv_icmp_lt (tgt := 12) hx hb dX3_bit_2 (by decide) (fun c2 => ?_) (fun c2 => ?_)
  · have hc := (nI_ltI (by omega) (by omega)).mp c2
    have hp : pb scf i = false := by unfold pb; rw [if_pos hc]
    refine lv_iconst (v := nI 0) hx hb dX3_bit_12 (by decide) ?_
    exact z_zret hx hb hr hlocks dX3_bit_13 rfl hK hP hD hS (⟨Or.inr rfl, ⟨fun h => absurd (hp.symm.trans h) (by decide), fun h => absurd rfl h⟩, rfl⟩)
  · have hc : ¬ i < 3 := fun h => c2 ((nI_ltI (by omega) (by omega)).mpr h)
    refine lv_iload_n hx hb dX3_bit_5 rfl (lv_at hl 1 rfl) ?_
    refine lv_sipush (v := nI 255) hx hb dX3_bit_6 (by decide) ?_
    refine lv_icmp_ne (tgt := 14) hx hb dX3_bit_9 (by decide) (fun c9 => ?_) (fun c9 => absurd ((nI_eq (by omega) (by omega)).mp c9) (by omega))
    refine lv_iload_n hx hb dX3_bit_14 rfl (lv_at hl 1 rfl) ?_
    refine lv_sipush (v := nI 254) hx hb dX3_bit_15 (by decide) ?_
    refine lv_icmp_eq (tgt := 42) hx hb dX3_bit_18 (by decide) (fun c18 => ?_) (fun c18 => ?_)
    · have hc2 := (nI_eq (by omega) (by omega)).mp c18
      have hp : pb scf i = true := by unfold pb; rw [if_neg hc, if_pos hc2]
      refine lv_iconst (v := nI 1) hx hb dX3_bit_42 (by decide) ?_
      refine lv_goto (tgt := 47) hx hb dX3_bit_43 (by decide) ?_
      exact z_zret hx hb hr hlocks dX3_bit_47 rfl hK hP hD hS (⟨Or.inl rfl, ⟨fun _ => by decide, fun _ => hp⟩, rfl⟩)
    · have hc2 : ¬ i = 254 := fun h => c18 (by rw [h])
      have hp : pb scf i = (uw (scf (i / 64))).testBit (i % 64) := by unfold pb; rw [if_neg hc, if_neg hc2]
      refine lv_aload_n hx hb dX3_bit_21 rfl (lv_at hl 0 rfl) ?_
      refine va_get (D := D) (ci := 3) (v := .ref aSc) (C := RX3) (T := TX3) (N := 7) hx hb hts (by decide +kernel) hown hK hP 0 rfl rfl 3 (by decide) (hts (.fieldLink RX3 7 "LadderDeskModel" "scalar" "[J") (by decide +kernel)) (fun _ h9 => h9) rfl dX3_bit_22 ?_
      refine lv_iload_n hx hb dX3_bit_25 rfl (lv_at hl 1 rfl) ?_
      refine lv_bipush (v := nI 64) hx hb dX3_bit_26 (by decide) ?_
      refine lv_idiv hx hb dX3_bit_28 (by decide) ?_
      refine zi (pk_div (by omega) (by decide) (by decide)) ?_
      refine y_ld hx hb hK hP 1 0 rfl rfl (i / 64) rfl (by omega) (by omega) dX3_bit_29 ?_
      refine lv_topl (fun v29 e29 => ?_)
      refine lv_iload_n hx hb dX3_bit_30 rfl (lv_at hl 1 rfl) ?_
      refine lv_bipush (v := nI 64) hx hb dX3_bit_31 (by decide) ?_
      refine lv_irem hx hb dX3_bit_33 (by decide) ?_
      refine zi (pk_rem (by omega) (by decide) (by decide)) ?_
      refine lv_lshr hx hb dX3_bit_34 rfl ?_
      refine lv_topl (fun v34 e34 => ?_)
      refine lv_lconst (v := 1) hx hb dX3_bit_35 (by decide) ?_
      refine lv_land hx hb dX3_bit_36 ?_
      refine lv_topl (fun v36 e36 => ?_)
      refine lv_lconst (v := 1) hx hb dX3_bit_37 (by decide) ?_
      refine W.lcmp hx hb dX3_bit_38 ?_
      have hbit := sbit (x := scf (i / 64)) (s := i % 64) (by omega) (by rw [← e29]; exact e34) e36
      rw [← hp] at hbit
      refine lv_if_ne (tgt := 46) hx hb dX3_bit_39 (by decide) (fun c39 => ?_) (fun c39 => ?_)
      · have hc3 := cmp_ne c39
        refine lv_iconst (v := nI 0) hx hb dX3_bit_46 (by decide) ?_
        exact z_zret hx hb hr hlocks dX3_bit_47 rfl hK hP hD hS (⟨Or.inr rfl, ⟨fun h => absurd (hbit.mp h) hc3, fun h => absurd rfl h⟩, rfl⟩)
      · have hc3 := (lg_cmp_eq _ _).mp c39
        refine lv_iconst (v := nI 1) hx hb dX3_bit_42 (by decide) ?_
        refine lv_goto (tgt := 47) hx hb dX3_bit_43 (by decide) ?_
        exact z_zret hx hb hr hlocks dX3_bit_47 rfl hK hP hD hS (⟨Or.inl rfl, ⟨fun _ => by decide, fun _ => hbit.mpr hc3⟩, rfl⟩)
set_option maxRecDepth 100000 in
set_option maxHeartbeats 4000000 in
theorem m_makeU (l : Launch) (D : va_G) (cA cI : ClassId) (tys : List (ClassId × FieldType)) (om aSc aPt aDg aSu : Nat) (fp fs fr : Int32) (scf ptf : Nat → Int64) (dg : Nat → Int32) (su : Nat → Int64)  : zCv l D ((cA, .long) :: (cI, .int) :: tys) yX3_makeU wsX3_makeU ({ frames := 3, cells := 0, slots := 0, locals := 70 }) [.ref om] ([(om, .inr (3, [.int fp, .int fs, .int fr, .ref aSc, .ref aPt, .ref aDg, .ref aSu])), (aSc, .inl (cA, 4, .inr (.inl scf))), (aPt, .inl (cA, 4, .inr (.inl ptf))), (aDg, .inl (cI, 208, .inl dg)), (aSu, .inl (cA, 32, .inr (.inl su)))]) (fun (u : va_W) => ∃ (dg' : Nat → Int32) (su' : Nat → Int64), (∀ i, i / 16 ≠ 4 → dg' i = dg i) ∧ dh dg' 4 (uo ptf) ∧ u = [(om, .inr (3, [.int fp, .int fs, .int fr, .ref aSc, .ref aPt, .ref aDg, .ref aSu])), (aSc, .inl (cA, 4, .inr (.inl scf))), (aPt, .inl (cA, 4, .inr (.inl ptf))), (aDg, .inl (cI, 208, .inl dg')), (aSu, .inl (cA, 32, .inr (.inl su')))]) := by
  refine z_met (fun A => va_Qv (fun (u : va_W) => ∃ (dg' : Nat → Int32) (su' : Nat → Int64), (∀ i, i / 16 ≠ 4 → dg' i = dg i) ∧ dh dg' 4 (uo ptf) ∧ u = [(om, .inr (3, [.int fp, .int fs, .int fr, .ref aSc, .ref aPt, .ref aDg, .ref aSu])), (aSc, .inl (cA, 4, .inr (.inl scf))), (aPt, .inl (cA, 4, .inr (.inl ptf))), (aDg, .inl (cI, 208, .inl dg')), (aSu, .inl (cA, 32, .inr (.inl su')))]) (zB D ((cA, .long) :: (cI, .int) :: tys) A) A) (by decide) rfl (Nat.le_of_ble_eq_true rfl) ?_
  intro p e s m below meth c hx hb hr hml hts hown hlocks hname A hA hP hK hD hS ls hl
  have hown : s.vm.findClass RX3 = some m.cls := hown
  have hl : lv_has ls 2 [(0, .ref om)] := hl
  refine lv_iconst (v := nI 0) hx hb dX3_makeU_0 (by decide) ?_
  refine lv_istore_n (lv' := [(1, .int (nI 0)), (0, .ref om)]) hx hb dX3_makeU_1 rfl hl (by decide) rfl (fun ls hl => ?_)
  refine z_loop (fun i H locs ls => ∃ f : Nat → Int64, (∀ j, j < i → fI f j = ((uw (ptf (j / 4)) / 2 ^ (16 * (j % 4)) % 65536 : Nat) : Int)) ∧ zH D A s.heap ([(om, .inr (3, [.int fp, .int fs, .int fr, .ref aSc, .ref aPt, .ref aDg, .ref aSu])), (aSc, .inl (cA, 4, .inr (.inl scf))), (aPt, .inl (cA, 4, .inr (.inl ptf))), (aDg, .inl (cI, 208, .inl dg)), (aSu, .inl (cA, 32, .inr (.inl f)))]) H locs ∧ lv_has ls 2 [(1, .int (nI i)), (0, .ref om)]) 16 ?_ ?_ ?_
  · exact ⟨su, fun j h => by omega, ⟨hP, hD, hS⟩, hl⟩
  · rintro i H locs ls hi ⟨f, h1, ⟨hP, hD, hS⟩, hl⟩ ih
    refine lv_iload_n hx hb dX3_makeU_2 rfl (lv_at hl 0 rfl) ?_
    refine lv_bipush (v := nI 16) hx hb dX3_makeU_3 (by decide) ?_
    refine lv_icmp_ge (tgt := 39) hx hb dX3_makeU_5 (by decide) (fun c5 => absurd ((nI_leI (by omega) (by omega)).mp c5) (by omega)) (fun c5 => ?_)
    refine lv_aload_n hx hb dX3_makeU_8 rfl (lv_at hl 1 rfl) ?_
    refine va_get (D := D) (ci := 3) (v := .ref aSu) (C := RX3) (T := TX3) (N := 7) hx hb hts (by decide +kernel) hown hK hP 0 rfl rfl 6 (by decide) (hts (.fieldLink RX3 20 "LadderDeskModel" "sums" "[J") (by decide +kernel)) (fun _ h9 => h9) rfl dX3_makeU_9 ?_
    refine lv_iload_n hx hb dX3_makeU_12 rfl (lv_at hl 0 rfl) ?_
    refine lv_aload_n hx hb dX3_makeU_13 rfl (lv_at hl 1 rfl) ?_
    refine va_get (D := D) (ci := 3) (v := .ref aPt) (C := RX3) (T := TX3) (N := 7) hx hb hts (by decide +kernel) hown hK hP 0 rfl rfl 4 (by decide) (hts (.fieldLink RX3 13 "LadderDeskModel" "point" "[J") (by decide +kernel)) (fun _ h9 => h9) rfl dX3_makeU_14 ?_
    refine lv_iload_n hx hb dX3_makeU_17 rfl (lv_at hl 0 rfl) ?_
    refine lv_iconst (v := nI 4) hx hb dX3_makeU_18 (by decide) ?_
    refine lv_idiv hx hb dX3_makeU_19 (by decide) ?_
    refine zi (pk_div (by omega) (by decide) (by decide)) ?_
    refine y_ld hx hb hK hP 2 0 rfl rfl (i / 4) rfl (by omega) (by omega) dX3_makeU_20 ?_
    refine lv_topl (fun v20 e20 => ?_)
    refine lv_bipush (v := nI 16) hx hb dX3_makeU_21 (by decide) ?_
    refine lv_iload_n hx hb dX3_makeU_23 rfl (lv_at hl 0 rfl) ?_
    refine lv_iconst (v := nI 4) hx hb dX3_makeU_24 (by decide) ?_
    refine lv_irem hx hb dX3_makeU_25 (by decide) ?_
    refine zi (pk_rem (by omega) (by decide) (by decide)) ?_
    refine lv_imul hx hb dX3_makeU_26 ?_
    refine zi (pk_mul _ _) ?_
    refine lv_lushr hx hb dX3_makeU_27 rfl ?_
    refine lv_topl (fun v27 e27 => ?_)
    refine lv_ldc2 (v := 65535) hx hb hown (hts (.constantLong RX3 33 (65535)) (by decide +kernel)) dX3_makeU_28 ?_
    refine lv_land hx hb dX3_makeU_31 ?_
    refine lv_topl (fun v31 e31 => ?_)
    refine y_st hx hb hK hP hD hS 4 0 rfl rfl i rfl (by omega) (by omega) dX3_makeU_32 (fun H locs hP hD hS => ?_)
    have hP : va_P D vwCl ([(om, .inr (3, [.int fp, .int fs, .int fr, .ref aSc, .ref aPt, .ref aDg, .ref aSu])), (aSc, .inl (cA, 4, .inr (.inl scf))), (aPt, .inl (cA, 4, .inr (.inl ptf))), (aDg, .inl (cI, 208, .inl dg)), (aSu, .inl (cA, 32, .inr (.inl (vp_updL f i v31))))]) H := hP
    have hD : va_D A ([(om, .inr (3, [.int fp, .int fs, .int fr, .ref aSc, .ref aPt, .ref aDg, .ref aSu])), (aSc, .inl (cA, 4, .inr (.inl scf))), (aPt, .inl (cA, 4, .inr (.inl ptf))), (aDg, .inl (cI, 208, .inl dg)), (aSu, .inl (cA, 32, .inr (.inl (vp_updL f i v31))))]) := hD
    refine lv_iinc (v := nI (i + 1)) (lv' := [(1, .int (nI (i + 1))), (0, .ref om)]) hx hb dX3_makeU_33 hl (k := 0) rfl (by show nI _ + nI 1 = _; exact nI_add _ _) (by decide) rfl (fun ls hl => ?_)
    refine lv_goto (tgt := 2) hx hb dX3_makeU_36 (by decide) ?_
    have i3 := rd_16 (x := ptf (i / 4)) (sh := 16 * (i % 4)) (by omega) (by rw [← e20]; exact e27) e31
    exact ih _ _ _ ⟨_, fun j hj => by
      by_cases e : j = i
      · subst e; rw [fI_us, i3]
      · rw [fI_un e]; exact h1 j (by omega), ⟨hP, hD, hS⟩, hl⟩
  · rintro H locs ls ⟨f, h1, ⟨hP, hD, hS⟩, hl⟩
    refine lv_iload_n hx hb dX3_makeU_2 rfl (lv_at hl 0 rfl) ?_
    refine lv_bipush (v := nI 16) hx hb dX3_makeU_3 (by decide) ?_
    refine lv_icmp_ge (tgt := 39) hx hb dX3_makeU_5 (by decide) (fun c5 => ?_) (fun c5 => absurd ((nI_leI (by omega) (by omega)).mpr (by omega)) c5)
    refine lv_aload_n hx hb dX3_makeU_39 rfl (lv_at hl 1 rfl) ?_
    refine va_get (D := D) (ci := 3) (v := .ref aSu) (C := RX3) (T := TX3) (N := 7) hx hb hts (by decide +kernel) hown hK hP 0 rfl rfl 6 (by decide) (hts (.fieldLink RX3 20 "LadderDeskModel" "sums" "[J") (by decide +kernel)) (fun _ h9 => h9) rfl dX3_makeU_40 ?_
    refine lv_bipush (v := nI 15) hx hb dX3_makeU_43 (by decide) ?_
    refine lv_aload_n hx hb dX3_makeU_45 rfl (lv_at hl 1 rfl) ?_
    refine va_get (D := D) (ci := 3) (v := .ref aSu) (C := RX3) (T := TX3) (N := 7) hx hb hts (by decide +kernel) hown hK hP 0 rfl rfl 6 (by decide) (hts (.fieldLink RX3 20 "LadderDeskModel" "sums" "[J") (by decide +kernel)) (fun _ h9 => h9) rfl dX3_makeU_46 ?_
    refine lv_bipush (v := nI 15) hx hb dX3_makeU_49 (by decide) ?_
    refine y_ld hx hb hK hP 4 0 rfl rfl 15 rfl (by omega) (by omega) dX3_makeU_51 ?_
    refine lv_topl (fun v51 e51 => ?_)
    refine lv_ldc2 (v := 32767) hx hb hown (hts (.constantLong RX3 37 (32767)) (by decide +kernel)) dX3_makeU_52 ?_
    refine lv_land hx hb dX3_makeU_55 ?_
    refine lv_topl (fun v55 e55 => ?_)
    refine y_st hx hb hK hP hD hS 4 0 rfl rfl 15 rfl (by omega) (by omega) dX3_makeU_56 (fun H locs hP hD hS => ?_)
    have hP : va_P D vwCl ([(om, .inr (3, [.int fp, .int fs, .int fr, .ref aSc, .ref aPt, .ref aDg, .ref aSu])), (aSc, .inl (cA, 4, .inr (.inl scf))), (aPt, .inl (cA, 4, .inr (.inl ptf))), (aDg, .inl (cI, 208, .inl dg)), (aSu, .inl (cA, 32, .inr (.inl (vp_updL f 15 v55))))]) H := hP
    have hD : va_D A ([(om, .inr (3, [.int fp, .int fs, .int fr, .ref aSc, .ref aPt, .ref aDg, .ref aSu])), (aSc, .inl (cA, 4, .inr (.inl scf))), (aPt, .inl (cA, 4, .inr (.inl ptf))), (aDg, .inl (cI, 208, .inl dg)), (aSu, .inl (cA, 32, .inr (.inl (vp_updL f 15 v55))))]) := hD
    refine lv_aload_n hx hb dX3_makeU_57 rfl (lv_at hl 1 rfl) ?_
    refine lv_iconst (v := nI 4) hx hb dX3_makeU_58 (by decide) ?_
    obtain ⟨k1, k2⟩ := makeU_sum (z := v55) h1 (by rw [e55, e51])
    refine z_callv (va_runV (As := [.int (nI 4)]) (rest := []) ⟨hx, hb, hml, hown, hts⟩ (m_store l D cA cI tys om aSc aPt aDg aSu fp fs fr scf ptf dg (vp_updL f 15 v55) 4 (by omega) k1 _) (cwV 1 hts gX3_makeU_X3_store rfl rfl rfl (by decide +kernel) ⟨Nat.le_of_ble_eq_true rfl, Nat.le_of_ble_eq_true rfl⟩) (z_preV _ hK hP hD (ci := 3) (q0 := 0) rfl rfl) rfl rfl hl.1 rfl (lv_room (Nat.le_of_ble_eq_true rfl)) dX3_makeU_59 ⟨Nat.le_of_ble_eq_true rfl, Nat.le_of_ble_eq_true rfl⟩) hD hS hA (fun u H locs hu hP hD hS => ?_)
    obtain ⟨dg', su', k3, k4, rfl⟩ := hu
    rw [k2] at k4
    exact z_vret hx hb hr hlocks dX3_makeU_62 hK hP hD hS (⟨dg', su', k3, k4, rfl⟩)
end
