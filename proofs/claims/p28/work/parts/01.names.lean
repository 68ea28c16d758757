-- ===== PART A: goes FIRST, ahead of the names: the tables' words, and 'selects' of the private methods out of them =====
/-- a private method of a class that the tables say can be made, by its rows of tables_1 -/
def lw_okq (q : MethodName × Nat) : Prop := (q.1.cls ≠ "java/lang/invoke/MethodHandle" ∧ q.1.cls ≠ "java/lang/invoke/VarHandle") ∧ Cond.instantiable q.1.cls q.2 ∈ tables_1 ∧ Cond.privateMethod q.1 ∈ tables_1 ∧ Cond.instanceMethod q.1 ∈ tables_1
theorem lw_p0 : lw_okq (⟨"FoldedMonths", "changeKeep", "(I)I"⟩, 7) := ⟨⟨by decide +kernel, by decide +kernel⟩, List.mem_of_getElem? (i := 9) (by decide +kernel), List.mem_of_getElem? (i := 226) (by decide +kernel), List.mem_of_getElem? (i := 227) (by decide +kernel)⟩
theorem lw_p1 : lw_okq (⟨"FoldedMonths", "record", "()V"⟩, 7) := ⟨⟨by decide +kernel, by decide +kernel⟩, List.mem_of_getElem? (i := 9) (by decide +kernel), List.mem_of_getElem? (i := 230) (by decide +kernel), List.mem_of_getElem? (i := 231) (by decide +kernel)⟩
theorem lw_p2 : lw_okq (⟨"FoldedMonths", "moveOldestToTheEnd", "()V"⟩, 7) := ⟨⟨by decide +kernel, by decide +kernel⟩, List.mem_of_getElem? (i := 9) (by decide +kernel), List.mem_of_getElem? (i := 234) (by decide +kernel), List.mem_of_getElem? (i := 235) (by decide +kernel)⟩
theorem lw_p3 : lw_okq (⟨"FoldedMonths", "changeOpen", "(I)I"⟩, 7) := ⟨⟨by decide +kernel, by decide +kernel⟩, List.mem_of_getElem? (i := 9) (by decide +kernel), List.mem_of_getElem? (i := 253) (by decide +kernel), List.mem_of_getElem? (i := 254) (by decide +kernel)⟩
theorem lw_p4 : lw_okq (⟨"FoldedMonths", "passError", "(I)I"⟩, 7) := ⟨⟨by decide +kernel, by decide +kernel⟩, List.mem_of_getElem? (i := 9) (by decide +kernel), List.mem_of_getElem? (i := 281) (by decide +kernel), List.mem_of_getElem? (i := 282) (by decide +kernel)⟩
theorem lw_p5 : lw_okq (⟨"FoldedMonths", "changeDays", "(IIIZ)I"⟩, 7) := ⟨⟨by decide +kernel, by decide +kernel⟩, List.mem_of_getElem? (i := 9) (by decide +kernel), List.mem_of_getElem? (i := 294) (by decide +kernel), List.mem_of_getElem? (i := 295) (by decide +kernel)⟩
theorem lw_p6 : lw_okq (⟨"FoldedMonths", "changeError", "(III)I"⟩, 7) := ⟨⟨by decide +kernel, by decide +kernel⟩, List.mem_of_getElem? (i := 9) (by decide +kernel), List.mem_of_getElem? (i := 298) (by decide +kernel), List.mem_of_getElem? (i := 299) (by decide +kernel)⟩
theorem lw_p7 : lw_okq (⟨"FoldedMonths", "carryStep", "(LFoldedMonths$Step;)I"⟩, 7) := ⟨⟨by decide +kernel, by decide +kernel⟩, List.mem_of_getElem? (i := 9) (by decide +kernel), List.mem_of_getElem? (i := 525) (by decide +kernel), List.mem_of_getElem? (i := 526) (by decide +kernel)⟩
def lw_privs_1 : List (MethodName × Nat) := [(⟨"FoldedMonths", "changeKeep", "(I)I"⟩, 7), (⟨"FoldedMonths", "record", "()V"⟩, 7), (⟨"FoldedMonths", "moveOldestToTheEnd", "()V"⟩, 7), (⟨"FoldedMonths", "changeOpen", "(I)I"⟩, 7), (⟨"FoldedMonths", "passError", "(I)I"⟩, 7), (⟨"FoldedMonths", "changeDays", "(IIIZ)I"⟩, 7), (⟨"FoldedMonths", "changeError", "(III)I"⟩, 7), (⟨"FoldedMonths", "carryStep", "(LFoldedMonths$Step;)I"⟩, 7)]
theorem lw_r1 : ∀ q ∈ lw_privs_1, lw_okq q := List.forall_mem_cons.mpr ⟨lw_p0, List.forall_mem_cons.mpr ⟨lw_p1, List.forall_mem_cons.mpr ⟨lw_p2, List.forall_mem_cons.mpr ⟨lw_p3, List.forall_mem_cons.mpr ⟨lw_p4, List.forall_mem_cons.mpr ⟨lw_p5, List.forall_mem_cons.mpr ⟨lw_p6, List.forall_mem_cons.mpr ⟨lw_p7, fun _ h => absurd h List.not_mem_nil⟩⟩⟩⟩⟩⟩⟩⟩
def lw_privs : List (MethodName × Nat) := lw_privs_1
def lw_tbl : List Cond := k2_sels lw_privs ++ tables_1
theorem lw_privs_ok : ∀ q ∈ lw_privs, lw_okq q := lw_r1
/-! ===== BEGIN words of one list among another's, by their places ===== -/
theorem goodIn_r {big : List Cond} (ws : List Cond) (ps : List Nat) (hp : ws = ps.filterMap (fun i => big[i]?)) (h : ws.all goodWord = true) : GoodIn big ws := by
  intro w hw
  have h1 := List.all_eq_true.mp h w hw
  rw [hp] at hw
  obtain ⟨i, -, hi⟩ := List.mem_filterMap.mp hw
  have hm : w ∈ big := by first | exact List.mem_of_getElem? hi | exact List.getElem?_mem hi
  exact ⟨hm, good_of_word h1⟩
theorem goodIn_app {big a b : List Cond} (ha : GoodIn big a) (hb : GoodIn big b) : GoodIn big (a ++ b) := fun w h => (List.mem_append.mp h).elim (ha w) (hb w)
theorem goodIn_ca {big a b : List Cond} {c : Cond} (ha : GoodIn big (c :: a)) (hb : GoodIn big b) : GoodIn big (c :: (a ++ b)) := fun w h => (List.mem_cons.mp h).elim (fun e => ha w (List.mem_cons.mpr (Or.inl e))) (fun h => (List.mem_append.mp h).elim (fun h => ha w (List.mem_cons.mpr (Or.inr h))) (hb w))
theorem goodIn_sub {big ws : List Cond} (hm : ∀ w ∈ ws, w ∈ big) (h : ws.all goodWord = true) : GoodIn big ws := fun w hw => ⟨hm w hw, good_of_word (List.all_eq_true.mp h w hw)⟩
/-! ===== END ===== -/

/-! ===== BEGIN printed: names, fields, word lists, decode rows ===== -/
def RX0 : String := "FoldedMonths$Diary"
def TX0 : u_T := fun k => match k with
  | 0 => ("FoldedMonths$Diary", "today", "I", false)
  | 1 => ("FoldedMonths$Diary", "keep", "I", false)
  | 2 => ("FoldedMonths$Diary", "open", "I", false)
  | 3 => ("FoldedMonths$Diary", "work", "I", false)
  | 4 => ("FoldedMonths$Diary", "unfoldings", "I", false)
  | 5 => ("FoldedMonths$Diary", "foldings", "I", false)
  | 6 => ("FoldedMonths$Diary", "rowLength", "I", false)
  | 7 => ("FoldedMonths$Diary", "bits", "[I", true)
  | 8 => ("FoldedMonths$Diary", "forms", "[I", true)
  | 9 => ("FoldedMonths$Diary", "names", "[I", true)
  | _ => ("FoldedMonths$Diary", "row", "[I", true)
def tyX0 : Nat → FieldType := fun k => match k with
  | 0 => .int
  | 1 => .int
  | 2 => .int
  | 3 => .int
  | 4 => .int
  | 5 => .int
  | 6 => .int
  | 7 => .array .int
  | 8 => .array .int
  | 9 => .array .int
  | _ => .array .int
abbrev wsX00 : List Cond := u_ws RX0 TX0 11
theorem nmX0 : ∀ a, a < 11 → ∀ b, b < 11 → a ≠ b → (TX0 a).2.1 ≠ (TX0 b).2.1 := by decide +kernel
theorem tyX0_ok : ∀ k, k < 11 → parseFieldDescriptor (TX0 k).2.2.1 = some (tyX0 k) := by decide +kernel
abbrev cX0_init : ByteArray := prog_2_method_1_code
def yX0_init : MethodName := ⟨RX0, "<init>", "()V"⟩
abbrev cX0_bitsOf : ByteArray := prog_2_method_2_code
def yX0_bitsOf : MethodName := ⟨RX0, "bitsOf", "(II)I"⟩
abbrev cX0_writeBits : ByteArray := prog_2_method_3_code
def yX0_writeBits : MethodName := ⟨RX0, "writeBits", "(III)V"⟩
abbrev cX0_isMarkedOn : ByteArray := prog_2_method_4_code
def yX0_isMarkedOn : MethodName := ⟨RX0, "isMarkedOn", "(II)Z"⟩
abbrev cX0_marksIn : ByteArray := prog_2_method_5_code
def yX0_marksIn : MethodName := ⟨RX0, "marksIn", "(I)I"⟩
abbrev cX0_runsIn : ByteArray := prog_2_method_6_code
def yX0_runsIn : MethodName := ⟨RX0, "runsIn", "(I)I"⟩
abbrev cX0_subjectsIn : ByteArray := prog_2_method_7_code
def yX0_subjectsIn : MethodName := ⟨RX0, "subjectsIn", "(I)I"⟩
abbrev cX0_crowdedDays : ByteArray := prog_2_method_8_code
def yX0_crowdedDays : MethodName := ⟨RX0, "crowdedDays", "(III)I"⟩
abbrev cX0_subjectsOn : ByteArray := prog_2_method_9_code
def yX0_subjectsOn : MethodName := ⟨RX0, "subjectsOn", "(II)I"⟩
abbrev cX0_allMarks : ByteArray := prog_2_method_10_code
def yX0_allMarks : MethodName := ⟨RX0, "allMarks", "()I"⟩
abbrev cX0_oldMonths : ByteArray := prog_2_method_11_code
def yX0_oldMonths : MethodName := ⟨RX0, "oldMonths", "()I"⟩
abbrev cX0_isOld : ByteArray := prog_2_method_12_code
def yX0_isOld : MethodName := ⟨RX0, "isOld", "(I)Z"⟩
abbrev cX0_formOf : ByteArray := prog_2_method_13_code
def yX0_formOf : MethodName := ⟨RX0, "formOf", "(I)I"⟩
abbrev cX0_namedBy : ByteArray := prog_2_method_14_code
def yX0_namedBy : MethodName := ⟨RX0, "namedBy", "(I)I"⟩
abbrev cX0_sizeOf : ByteArray := prog_2_method_15_code
def yX0_sizeOf : MethodName := ⟨RX0, "sizeOf", "(I)I"⟩
abbrev cX0_allSizes : ByteArray := prog_2_method_16_code
def yX0_allSizes : MethodName := ⟨RX0, "allSizes", "()I"⟩
abbrev cX0_sizeIn : ByteArray := prog_2_method_17_code
def yX0_sizeIn : MethodName := ⟨RX0, "sizeIn", "(III)I"⟩
abbrev cX0_twinOf : ByteArray := prog_2_method_18_code
def yX0_twinOf : MethodName := ⟨RX0, "twinOf", "(II)I"⟩
abbrev cX0_hasSameMarks : ByteArray := prog_2_method_19_code
def yX0_hasSameMarks : MethodName := ⟨RX0, "hasSameMarks", "(II)Z"⟩
abbrev cX0_fold : ByteArray := prog_2_method_20_code
def yX0_fold : MethodName := ⟨RX0, "fold", "(II)V"⟩
abbrev cX0_placeInRow : ByteArray := prog_2_method_21_code
def yX0_placeInRow : MethodName := ⟨RX0, "placeInRow", "(I)I"⟩
abbrev cX0_leaveRow : ByteArray := prog_2_method_22_code
def yX0_leaveRow : MethodName := ⟨RX0, "leaveRow", "(I)V"⟩
abbrev cX0_bringToTheEnd : ByteArray := prog_2_method_23_code
def yX0_bringToTheEnd : MethodName := ⟨RX0, "bringToTheEnd", "(I)V"⟩
abbrev cX0_foldSurplus : ByteArray := prog_2_method_24_code
def yX0_foldSurplus : MethodName := ⟨RX0, "foldSurplus", "()V"⟩
abbrev cX0_lookAt : ByteArray := prog_2_method_25_code
def yX0_lookAt : MethodName := ⟨RX0, "lookAt", "(I)V"⟩
abbrev cX0_lookAtMonths : ByteArray := prog_2_method_26_code
def yX0_lookAtMonths : MethodName := ⟨RX0, "lookAtMonths", "(II)V"⟩
abbrev cX0_lookAtMarkedMonths : ByteArray := prog_2_method_27_code
def yX0_lookAtMarkedMonths : MethodName := ⟨RX0, "lookAtMarkedMonths", "(III)V"⟩
abbrev cX0_advance : ByteArray := prog_2_method_28_code
def yX0_advance : MethodName := ⟨RX0, "advance", "(I)I"⟩
abbrev cX0_writeDays : ByteArray := prog_2_method_29_code
def yX0_writeDays : MethodName := ⟨RX0, "writeDays", "(IIIZ)I"⟩
abbrev cX0_foldNamersOf : ByteArray := prog_2_method_30_code
def yX0_foldNamersOf : MethodName := ⟨RX0, "foldNamersOf", "(I)V"⟩
def RX1 : String := "FoldedMonths$Pad"
def TX1 : u_T := fun k => match k with
  | 0 => ("FoldedMonths$Pad", "signs", "[C", true)
  | 1 => ("FoldedMonths$Pad", "steps", "[LFoldedMonths$Step;", true)
  | 2 => ("FoldedMonths$Pad", "length", "I", false)
  | 3 => ("FoldedMonths$Pad", "place", "I", false)
  | 4 => ("FoldedMonths$Pad", "stepsRead", "I", false)
  | _ => ("FoldedMonths$Pad", "orders", "I", false)
def tyX1 : Nat → FieldType := fun k => match k with
  | 0 => .array .char
  | 1 => .array (.object "FoldedMonths$Step")
  | 2 => .int
  | 3 => .int
  | 4 => .int
  | _ => .int
abbrev wsX10 : List Cond := u_ws RX1 TX1 6
theorem nmX1 : ∀ a, a < 6 → ∀ b, b < 6 → a ≠ b → (TX1 a).2.1 ≠ (TX1 b).2.1 := by decide +kernel
theorem tyX1_ok : ∀ k, k < 6 → parseFieldDescriptor (TX1 k).2.2.1 = some (tyX1 k) := by decide +kernel
abbrev cX1_init : ByteArray := prog_3_method_1_code
def yX1_init : MethodName := ⟨RX1, "<init>", "()V"⟩
abbrev cX1_append : ByteArray := prog_3_method_2_code
def yX1_append : MethodName := ⟨RX1, "append", "(JI)V"⟩
abbrev cX1_stepAt : ByteArray := prog_3_method_3_code
def yX1_stepAt : MethodName := ⟨RX1, "stepAt", "(I)LFoldedMonths$Step;"⟩
abbrev cX1_readAll : ByteArray := prog_3_method_4_code
def yX1_readAll : MethodName := ⟨RX1, "readAll", "()I"⟩
abbrev cX1_readOrder : ByteArray := prog_3_method_5_code
def yX1_readOrder : MethodName := ⟨RX1, "readOrder", "(I)Z"⟩
abbrev cX1_readRanges : ByteArray := prog_3_method_6_code
def yX1_readRanges : MethodName := ⟨RX1, "readRanges", "(CII)Z"⟩
abbrev cX1_readNumber : ByteArray := prog_3_method_7_code
def yX1_readNumber : MethodName := ⟨RX1, "readNumber", "()I"⟩
abbrev cX1_digitHere : ByteArray := prog_3_method_8_code
def yX1_digitHere : MethodName := ⟨RX1, "digitHere", "()I"⟩
abbrev cX1_signHere : ByteArray := prog_3_method_9_code
def yX1_signHere : MethodName := ⟨RX1, "signHere", "()C"⟩
abbrev cX1_take : ByteArray := prog_3_method_10_code
def yX1_take : MethodName := ⟨RX1, "take", "(C)Z"⟩
abbrev cX1_addStep : ByteArray := prog_3_method_11_code
def yX1_addStep : MethodName := ⟨RX1, "addStep", "(CIIII)Z"⟩
def RX2 : String := "FoldedMonths$Step"
def TX2 : u_T := fun k => match k with
  | 0 => ("FoldedMonths$Step", "kind", "C", false)
  | 1 => ("FoldedMonths$Step", "subject", "I", false)
  | 2 => ("FoldedMonths$Step", "from", "I", false)
  | 3 => ("FoldedMonths$Step", "to", "I", false)
  | _ => ("FoldedMonths$Step", "order", "I", false)
def tyX2 : Nat → FieldType := fun k => match k with
  | 0 => .char
  | 1 => .int
  | 2 => .int
  | 3 => .int
  | _ => .int
abbrev wsX20 : List Cond := u_ws RX2 TX2 5
theorem nmX2 : ∀ a, a < 5 → ∀ b, b < 5 → a ≠ b → (TX2 a).2.1 ≠ (TX2 b).2.1 := by decide +kernel
theorem tyX2_ok : ∀ k, k < 5 → parseFieldDescriptor (TX2 k).2.2.1 = some (tyX2 k) := by decide +kernel
abbrev cX2_init : ByteArray := prog_4_method_1_code
def yX2_init : MethodName := ⟨RX2, "<init>", "()V"⟩
def RX3 : String := "FoldedMonths"
def TX3 : u_T := fun k => match k with
  | 0 => ("FoldedMonths", "diary", "LFoldedMonths$Diary;", true)
  | 1 => ("FoldedMonths", "trial", "LFoldedMonths$Diary;", true)
  | 2 => ("FoldedMonths", "history", "[LFoldedMonths$Diary;", true)
  | 3 => ("FoldedMonths", "slots", "[LFoldedMonths$Diary;", true)
  | 4 => ("FoldedMonths", "pad", "LFoldedMonths$Pad;", true)
  | 5 => ("FoldedMonths", "historyLength", "I", false)
  | _ => ("FoldedMonths", "savedSlots", "I", false)
def tyX3 : Nat → FieldType := fun k => match k with
  | 0 => .object "FoldedMonths$Diary"
  | 1 => .object "FoldedMonths$Diary"
  | 2 => .array (.object "FoldedMonths$Diary")
  | 3 => .array (.object "FoldedMonths$Diary")
  | 4 => .object "FoldedMonths$Pad"
  | 5 => .int
  | _ => .int
abbrev wsX30 : List Cond := u_ws RX3 TX3 7
theorem nmX3 : ∀ a, a < 7 → ∀ b, b < 7 → a ≠ b → (TX3 a).2.1 ≠ (TX3 b).2.1 := by decide +kernel
theorem tyX3_ok : ∀ k, k < 7 → parseFieldDescriptor (TX3 k).2.2.1 = some (tyX3 k) := by decide +kernel
abbrev cX3_init : ByteArray := prog_1_method_1_code
def yX3_init : MethodName := ⟨RX3, "<init>", "()V"⟩
abbrev cX3_set : ByteArray := prog_1_method_2_code
def yX3_set : MethodName := ⟨RX3, "set", "(II)I"⟩
abbrev cX3_changeKeep : ByteArray := prog_1_method_3_code
def yX3_changeKeep : MethodName := ⟨RX3, "changeKeep", "(I)I"⟩
abbrev cX3_changeOpen : ByteArray := prog_1_method_4_code
def yX3_changeOpen : MethodName := ⟨RX3, "changeOpen", "(I)I"⟩
abbrev cX3_pass : ByteArray := prog_1_method_5_code
def yX3_pass : MethodName := ⟨RX3, "pass", "(I)I"⟩
abbrev cX3_mark : ByteArray := prog_1_method_6_code
def yX3_mark : MethodName := ⟨RX3, "mark", "(III)I"⟩
abbrev cX3_clear : ByteArray := prog_1_method_7_code
def yX3_clear : MethodName := ⟨RX3, "clear", "(III)I"⟩
abbrev cX3_changeDays : ByteArray := prog_1_method_8_code
def yX3_changeDays : MethodName := ⟨RX3, "changeDays", "(IIIZ)I"⟩
abbrev cX3_marks : ByteArray := prog_1_method_9_code
def yX3_marks : MethodName := ⟨RX3, "marks", "(III)I"⟩
abbrev cX3_isMarked : ByteArray := prog_1_method_10_code
def yX3_isMarked : MethodName := ⟨RX3, "isMarked", "(II)I"⟩
abbrev cX3_both : ByteArray := prog_1_method_11_code
def yX3_both : MethodName := ⟨RX3, "both", "(IIII)I"⟩
abbrev cX3_crowded : ByteArray := prog_1_method_12_code
def yX3_crowded : MethodName := ⟨RX3, "crowded", "(III)I"⟩
abbrev cX3_longest : ByteArray := prog_1_method_13_code
def yX3_longest : MethodName := ⟨RX3, "longest", "(IIII)I"⟩
abbrev cX3_nextMark : ByteArray := prog_1_method_14_code
def yX3_nextMark : MethodName := ⟨RX3, "nextMark", "(II)I"⟩
abbrev cX3_ofMonth : ByteArray := prog_1_method_15_code
def yX3_ofMonth : MethodName := ⟨RX3, "ofMonth", "(II)I"⟩
abbrev cX3_inMonth : ByteArray := prog_1_method_16_code
def yX3_inMonth : MethodName := ⟨RX3, "inMonth", "(II)I"⟩
abbrev cX3_dayOf : ByteArray := prog_1_method_17_code
def yX3_dayOf : MethodName := ⟨RX3, "dayOf", "(III)I"⟩
abbrev cX3_dateOf : ByteArray := prog_1_method_18_code
def yX3_dateOf : MethodName := ⟨RX3, "dateOf", "(II)I"⟩
abbrev cX3_count : ByteArray := prog_1_method_19_code
def yX3_count : MethodName := ⟨RX3, "count", "(I)I"⟩
abbrev cX3_sizeAs : ByteArray := prog_1_method_20_code
def yX3_sizeAs : MethodName := ⟨RX3, "sizeAs", "(II)I"⟩
abbrev cX3_workOf : ByteArray := prog_1_method_21_code
def yX3_workOf : MethodName := ⟨RX3, "workOf", "(II)I"⟩
abbrev cX3_bestOpen : ByteArray := prog_1_method_22_code
def yX3_bestOpen : MethodName := ⟨RX3, "bestOpen", "(II)I"⟩
abbrev cX3_put : ByteArray := prog_1_method_23_code
def yX3_put : MethodName := ⟨RX3, "put", "(J)I"⟩
abbrev cX3_wipe : ByteArray := prog_1_method_24_code
def yX3_wipe : MethodName := ⟨RX3, "wipe", "()I"⟩
abbrev cX3_fault : ByteArray := prog_1_method_25_code
def yX3_fault : MethodName := ⟨RX3, "fault", "()I"⟩
abbrev cX3_carryOut : ByteArray := prog_1_method_26_code
def yX3_carryOut : MethodName := ⟨RX3, "carryOut", "()I"⟩
abbrev cX3_carryStep : ByteArray := prog_1_method_27_code
def yX3_carryStep : MethodName := ⟨RX3, "carryStep", "(LFoldedMonths$Step;)I"⟩
abbrev cX3_undo : ByteArray := prog_1_method_28_code
def yX3_undo : MethodName := ⟨RX3, "undo", "()I"⟩
abbrev cX3_save : ByteArray := prog_1_method_29_code
def yX3_save : MethodName := ⟨RX3, "save", "(I)I"⟩
abbrev cX3_restore : ByteArray := prog_1_method_30_code
def yX3_restore : MethodName := ⟨RX3, "restore", "(I)I"⟩
abbrev cX3_record : ByteArray := prog_1_method_31_code
def yX3_record : MethodName := ⟨RX3, "record", "()V"⟩
abbrev cX3_moveOldestToTheEnd : ByteArray := prog_1_method_32_code
def yX3_moveOldestToTheEnd : MethodName := ⟨RX3, "moveOldestToTheEnd", "()V"⟩
abbrev cX3_stateAt : ByteArray := prog_1_method_33_code
def yX3_stateAt : MethodName := ⟨RX3, "stateAt", "([LFoldedMonths$Diary;I)LFoldedMonths$Diary;"⟩
abbrev cX3_copy : ByteArray := prog_1_method_34_code
def yX3_copy : MethodName := ⟨RX3, "copy", "(LFoldedMonths$Diary;LFoldedMonths$Diary;)V"⟩
abbrev cX3_copyNumbers : ByteArray := prog_1_method_35_code
def yX3_copyNumbers : MethodName := ⟨RX3, "copyNumbers", "([I[I)V"⟩
abbrev cX3_spanError : ByteArray := prog_1_method_36_code
def yX3_spanError : MethodName := ⟨RX3, "spanError", "(II)I"⟩
abbrev cX3_subjectSpanError : ByteArray := prog_1_method_37_code
def yX3_subjectSpanError : MethodName := ⟨RX3, "subjectSpanError", "(III)I"⟩
abbrev cX3_changeError : ByteArray := prog_1_method_38_code
def yX3_changeError : MethodName := ⟨RX3, "changeError", "(III)I"⟩
abbrev cX3_passError : ByteArray := prog_1_method_39_code
def yX3_passError : MethodName := ⟨RX3, "passError", "(I)I"⟩
abbrev cX3_isSubject : ByteArray := prog_1_method_40_code
def yX3_isSubject : MethodName := ⟨RX3, "isSubject", "(I)Z"⟩
abbrev cX3_isDay : ByteArray := prog_1_method_41_code
def yX3_isDay : MethodName := ⟨RX3, "isDay", "(I)Z"⟩
abbrev cX3_isMonth : ByteArray := prog_1_method_42_code
def yX3_isMonth : MethodName := ⟨RX3, "isMonth", "(I)Z"⟩
abbrev cX3_monthOf : ByteArray := prog_1_method_43_code
def yX3_monthOf : MethodName := ⟨RX3, "monthOf", "(I)I"⟩
abbrev cX3_firstDayOf : ByteArray := prog_1_method_44_code
def yX3_firstDayOf : MethodName := ⟨RX3, "firstDayOf", "(I)I"⟩
abbrev cX3_daysOf : ByteArray := prog_1_method_45_code
def yX3_daysOf : MethodName := ⟨RX3, "daysOf", "(I)I"⟩
abbrev cX3_startInYear : ByteArray := prog_1_method_46_code
def yX3_startInYear : MethodName := ⟨RX3, "startInYear", "(I)I"⟩
abbrev cX3_daysMeant : ByteArray := prog_1_method_47_code
def yX3_daysMeant : MethodName := ⟨RX3, "daysMeant", "(III)I"⟩
abbrev cX3_allDays : ByteArray := prog_1_method_48_code
def yX3_allDays : MethodName := ⟨RX3, "allDays", "(I)I"⟩
abbrev cX3_lowestBits : ByteArray := prog_1_method_49_code
def yX3_lowestBits : MethodName := ⟨RX3, "lowestBits", "(I)I"⟩
abbrev cX3_isBitSet : ByteArray := prog_1_method_50_code
def yX3_isBitSet : MethodName := ⟨RX3, "isBitSet", "(II)Z"⟩
abbrev cX3_charactersIn : ByteArray := prog_1_method_51_code
def yX3_charactersIn : MethodName := ⟨RX3, "charactersIn", "(J)I"⟩
def RJ6 : String := "java/lang/Integer"
def TJ6 : u_T := fun k => match k with
  | _ => ("", "", "", false)
def tyJ6 : Nat → FieldType := fun k => match k with
  | _ => .int
abbrev wsJ60 : List Cond := u_ws RJ6 TJ6 0
theorem nmJ6 : ∀ a, a < 0 → ∀ b, b < 0 → a ≠ b → (TJ6 a).2.1 ≠ (TJ6 b).2.1 := by decide +kernel
theorem tyJ6_ok : ∀ k, k < 0 → parseFieldDescriptor (TJ6 k).2.2.1 = some (tyJ6 k) := by decide +kernel
abbrev cJ6_bitCount_0f7a4 : ByteArray := prog_7_method_49_code
def yJ6_bitCount_0f7a4 : MethodName := ⟨RJ6, "bitCount", "(I)I"⟩
def RJ9 : String := "java/lang/Math"
def TJ9 : u_T := fun k => match k with
  | _ => ("", "", "", false)
def tyJ9 : Nat → FieldType := fun k => match k with
  | _ => .int
abbrev wsJ90 : List Cond := u_ws RJ9 TJ9 0
theorem nmJ9 : ∀ a, a < 0 → ∀ b, b < 0 → a ≠ b → (TJ9 a).2.1 ≠ (TJ9 b).2.1 := by decide +kernel
theorem tyJ9_ok : ∀ k, k < 0 → parseFieldDescriptor (TJ9 k).2.2.1 = some (tyJ9 k) := by decide +kernel
abbrev cJ9_max_7cf53 : ByteArray := prog_8_method_65_code
def yJ9_max_7cf53 : MethodName := ⟨RJ9, "max", "(II)I"⟩
abbrev cJ9_min_7cf53 : ByteArray := prog_8_method_69_code
def yJ9_min_7cf53 : MethodName := ⟨RJ9, "min", "(II)I"⟩
def RJ10 : String := "java/lang/System"
def TJ10 : u_T := fun k => match k with
  | _ => ("", "", "", false)
def tyJ10 : Nat → FieldType := fun k => match k with
  | _ => .int
abbrev wsJ100 : List Cond := u_ws RJ10 TJ10 0
theorem nmJ10 : ∀ a, a < 0 → ∀ b, b < 0 → a ≠ b → (TJ10 a).2.1 ≠ (TJ10 b).2.1 := by decide +kernel
theorem tyJ10_ok : ∀ k, k < 0 → parseFieldDescriptor (TJ10 k).2.2.1 = some (tyJ10 k) := by decide +kernel
theorem dJ9_max_7cf53_0 : decode cJ9_max_7cf53 0 = .ok (.iload_n 0, 1) := by decide +kernel
theorem dJ9_max_7cf53_1 : decode cJ9_max_7cf53 1 = .ok (.iload_n 1, 1) := by decide +kernel
theorem dJ9_max_7cf53_2 : decode cJ9_max_7cf53 2 = .ok (.if_icmp .lt 7, 3) := by decide +kernel
theorem dJ9_max_7cf53_5 : decode cJ9_max_7cf53 5 = .ok (.iload_n 0, 1) := by decide +kernel
theorem dJ9_max_7cf53_6 : decode cJ9_max_7cf53 6 = .ok (.goto 4, 3) := by decide +kernel
theorem dJ9_max_7cf53_9 : decode cJ9_max_7cf53 9 = .ok (.iload_n 1, 1) := by decide +kernel
theorem dJ9_max_7cf53_10 : decode cJ9_max_7cf53 10 = .ok (.ireturn, 1) := by decide +kernel
theorem dJ9_min_7cf53_0 : decode cJ9_min_7cf53 0 = .ok (.iload_n 0, 1) := by decide +kernel
theorem dJ9_min_7cf53_1 : decode cJ9_min_7cf53 1 = .ok (.iload_n 1, 1) := by decide +kernel
theorem dJ9_min_7cf53_2 : decode cJ9_min_7cf53 2 = .ok (.if_icmp .gt 7, 3) := by decide +kernel
theorem dJ9_min_7cf53_5 : decode cJ9_min_7cf53 5 = .ok (.iload_n 0, 1) := by decide +kernel
theorem dJ9_min_7cf53_6 : decode cJ9_min_7cf53 6 = .ok (.goto 4, 3) := by decide +kernel
theorem dJ9_min_7cf53_9 : decode cJ9_min_7cf53 9 = .ok (.iload_n 1, 1) := by decide +kernel
theorem dJ9_min_7cf53_10 : decode cJ9_min_7cf53 10 = .ok (.ireturn, 1) := by decide +kernel
def RL : String := "FoldedMonthsLaw"
abbrev cL_cell : ByteArray := method_2_code
def yL_cell : MethodName := ⟨RL, "cell", "([II)I"⟩
abbrev cL_refuses : ByteArray := method_3_code
def yL_refuses : MethodName := ⟨RL, "refuses", "(LFoldedMonths;I)Z"⟩
abbrev cL_alike : ByteArray := method_4_code
def yL_alike : MethodName := ⟨RL, "alike", "(LFoldedMonths;LFoldedMonths;I)Z"⟩
abbrev cL_holds : ByteArray := method_5_code
def yL_holds : MethodName := ⟨RL, "holds", "(LFoldedMonths;I)Z"⟩
abbrev cL_act : ByteArray := method_6_code
def yL_act : MethodName := ⟨RL, "act", "(LFoldedMonths;II)I"⟩
abbrev cL_law : ByteArray := code
def yL_law : MethodName := ⟨RL, "law", "([I)Z"⟩
abbrev vwCl : List vw_C := [(RX0, TX0, 11), (RX1, TX1, 6), (RX2, TX2, 5), (RX3, TX3, 7)]
