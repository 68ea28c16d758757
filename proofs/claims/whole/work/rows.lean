section
-- ===== PART A: goes FIRST, ahead of the names: the tables' words, and 'selects' of the private methods out of them =====
/-- a private method of a class that the tables say can be made, by its rows of tables_1 -/
def lw_okq (q : MethodName × Nat) : Prop := (q.1.cls ≠ "java/lang/invoke/MethodHandle" ∧ q.1.cls ≠ "java/lang/invoke/VarHandle") ∧ Cond.instantiable q.1.cls q.2 ∈ tables_1 ∧ Cond.privateMethod q.1 ∈ tables_1 ∧ Cond.instanceMethod q.1 ∈ tables_1
theorem lw_p0 : lw_okq (⟨"FoldedMonths", "changeKeep", "(I)I"⟩, 7) := ⟨⟨by decide +kernel, by decide +kernel⟩, List.mem_of_getElem? (i := 10) (by decide +kernel), List.mem_of_getElem? (i := 154) (by decide +kernel), List.mem_of_getElem? (i := 155) (by decide +kernel)⟩
theorem lw_p1 : lw_okq (⟨"FoldedMonths", "record", "()V"⟩, 7) := ⟨⟨by decide +kernel, by decide +kernel⟩, List.mem_of_getElem? (i := 10) (by decide +kernel), List.mem_of_getElem? (i := 158) (by decide +kernel), List.mem_of_getElem? (i := 159) (by decide +kernel)⟩
theorem lw_p2 : lw_okq (⟨"FoldedMonths", "moveOldestToTheEnd", "()V"⟩, 7) := ⟨⟨by decide +kernel, by decide +kernel⟩, List.mem_of_getElem? (i := 10) (by decide +kernel), List.mem_of_getElem? (i := 162) (by decide +kernel), List.mem_of_getElem? (i := 163) (by decide +kernel)⟩
theorem lw_p3 : lw_okq (⟨"FoldedMonths", "changeOpen", "(I)I"⟩, 7) := ⟨⟨by decide +kernel, by decide +kernel⟩, List.mem_of_getElem? (i := 10) (by decide +kernel), List.mem_of_getElem? (i := 181) (by decide +kernel), List.mem_of_getElem? (i := 182) (by decide +kernel)⟩
theorem lw_p4 : lw_okq (⟨"FoldedMonths", "passError", "(I)I"⟩, 7) := ⟨⟨by decide +kernel, by decide +kernel⟩, List.mem_of_getElem? (i := 10) (by decide +kernel), List.mem_of_getElem? (i := 237) (by decide +kernel), List.mem_of_getElem? (i := 238) (by decide +kernel)⟩
theorem lw_p5 : lw_okq (⟨"FoldedMonths", "changeDays", "(IIIZ)I"⟩, 7) := ⟨⟨by decide +kernel, by decide +kernel⟩, List.mem_of_getElem? (i := 10) (by decide +kernel), List.mem_of_getElem? (i := 261) (by decide +kernel), List.mem_of_getElem? (i := 262) (by decide +kernel)⟩
theorem lw_p6 : lw_okq (⟨"FoldedMonths", "changeError", "(III)I"⟩, 7) := ⟨⟨by decide +kernel, by decide +kernel⟩, List.mem_of_getElem? (i := 10) (by decide +kernel), List.mem_of_getElem? (i := 265) (by decide +kernel), List.mem_of_getElem? (i := 266) (by decide +kernel)⟩
theorem lw_p7 : lw_okq (⟨"FoldedMonths", "carryStep", "(LFoldedMonths$Step;)I"⟩, 7) := ⟨⟨by decide +kernel, by decide +kernel⟩, List.mem_of_getElem? (i := 10) (by decide +kernel), List.mem_of_getElem? (i := 514) (by decide +kernel), List.mem_of_getElem? (i := 515) (by decide +kernel)⟩
theorem lw_p8 : lw_okq (⟨"FoldedMonthsModel", "record", "()V"⟩, 10) := ⟨⟨by decide +kernel, by decide +kernel⟩, List.mem_of_getElem? (i := 530) (by decide +kernel), List.mem_of_getElem? (i := 577) (by decide +kernel), List.mem_of_getElem? (i := 578) (by decide +kernel)⟩
theorem lw_p9 : lw_okq (⟨"FoldedMonthsModel", "whyNotPass", "([II)I"⟩, 10) := ⟨⟨by decide +kernel, by decide +kernel⟩, List.mem_of_getElem? (i := 530) (by decide +kernel), List.mem_of_getElem? (i := 621) (by decide +kernel), List.mem_of_getElem? (i := 622) (by decide +kernel)⟩
theorem lw_p10 : lw_okq (⟨"FoldedMonthsModel", "passOn", "([II)I"⟩, 10) := ⟨⟨by decide +kernel, by decide +kernel⟩, List.mem_of_getElem? (i := 530) (by decide +kernel), List.mem_of_getElem? (i := 626) (by decide +kernel), List.mem_of_getElem? (i := 627) (by decide +kernel)⟩
theorem lw_p11 : lw_okq (⟨"FoldedMonthsModel", "monthOf", "(I)I"⟩, 10) := ⟨⟨by decide +kernel, by decide +kernel⟩, List.mem_of_getElem? (i := 530) (by decide +kernel), List.mem_of_getElem? (i := 630) (by decide +kernel), List.mem_of_getElem? (i := 631) (by decide +kernel)⟩
theorem lw_p12 : lw_okq (⟨"FoldedMonthsModel", "isOld", "([II)Z"⟩, 10) := ⟨⟨by decide +kernel, by decide +kernel⟩, List.mem_of_getElem? (i := 530) (by decide +kernel), List.mem_of_getElem? (i := 634) (by decide +kernel), List.mem_of_getElem? (i := 635) (by decide +kernel)⟩
theorem lw_p13 : lw_okq (⟨"FoldedMonthsModel", "whyNotMark", "([IIII)I"⟩, 10) := ⟨⟨by decide +kernel, by decide +kernel⟩, List.mem_of_getElem? (i := 530) (by decide +kernel), List.mem_of_getElem? (i := 642) (by decide +kernel), List.mem_of_getElem? (i := 643) (by decide +kernel)⟩
theorem lw_p14 : lw_okq (⟨"FoldedMonthsModel", "markOn", "([IIIIZ)I"⟩, 10) := ⟨⟨by decide +kernel, by decide +kernel⟩, List.mem_of_getElem? (i := 530) (by decide +kernel), List.mem_of_getElem? (i := 657) (by decide +kernel), List.mem_of_getElem? (i := 658) (by decide +kernel)⟩
theorem lw_p15 : lw_okq (⟨"FoldedMonthsModel", "meant", "(III)I"⟩, 10) := ⟨⟨by decide +kernel, by decide +kernel⟩, List.mem_of_getElem? (i := 530) (by decide +kernel), List.mem_of_getElem? (i := 661) (by decide +kernel), List.mem_of_getElem? (i := 662) (by decide +kernel)⟩
def lw_privs_1 : List (MethodName × Nat) := [(⟨"FoldedMonths", "changeKeep", "(I)I"⟩, 7), (⟨"FoldedMonths", "record", "()V"⟩, 7), (⟨"FoldedMonths", "moveOldestToTheEnd", "()V"⟩, 7), (⟨"FoldedMonths", "changeOpen", "(I)I"⟩, 7), (⟨"FoldedMonths", "passError", "(I)I"⟩, 7), (⟨"FoldedMonths", "changeDays", "(IIIZ)I"⟩, 7), (⟨"FoldedMonths", "changeError", "(III)I"⟩, 7), (⟨"FoldedMonths", "carryStep", "(LFoldedMonths$Step;)I"⟩, 7), (⟨"FoldedMonthsModel", "record", "()V"⟩, 10), (⟨"FoldedMonthsModel", "whyNotPass", "([II)I"⟩, 10), (⟨"FoldedMonthsModel", "passOn", "([II)I"⟩, 10), (⟨"FoldedMonthsModel", "monthOf", "(I)I"⟩, 10), (⟨"FoldedMonthsModel", "isOld", "([II)Z"⟩, 10), (⟨"FoldedMonthsModel", "whyNotMark", "([IIII)I"⟩, 10), (⟨"FoldedMonthsModel", "markOn", "([IIIIZ)I"⟩, 10), (⟨"FoldedMonthsModel", "meant", "(III)I"⟩, 10)]
theorem lw_r1 : ∀ q ∈ lw_privs_1, lw_okq q := List.forall_mem_cons.mpr ⟨lw_p0, List.forall_mem_cons.mpr ⟨lw_p1, List.forall_mem_cons.mpr ⟨lw_p2, List.forall_mem_cons.mpr ⟨lw_p3, List.forall_mem_cons.mpr ⟨lw_p4, List.forall_mem_cons.mpr ⟨lw_p5, List.forall_mem_cons.mpr ⟨lw_p6, List.forall_mem_cons.mpr ⟨lw_p7, List.forall_mem_cons.mpr ⟨lw_p8, List.forall_mem_cons.mpr ⟨lw_p9, List.forall_mem_cons.mpr ⟨lw_p10, List.forall_mem_cons.mpr ⟨lw_p11, List.forall_mem_cons.mpr ⟨lw_p12, List.forall_mem_cons.mpr ⟨lw_p13, List.forall_mem_cons.mpr ⟨lw_p14, List.forall_mem_cons.mpr ⟨lw_p15, fun _ h => absurd h List.not_mem_nil⟩⟩⟩⟩⟩⟩⟩⟩⟩⟩⟩⟩⟩⟩⟩⟩
theorem lw_p16 : lw_okq (⟨"FoldedMonthsModel", "daysOf", "(I)I"⟩, 10) := ⟨⟨by decide +kernel, by decide +kernel⟩, List.mem_of_getElem? (i := 530) (by decide +kernel), List.mem_of_getElem? (i := 665) (by decide +kernel), List.mem_of_getElem? (i := 666) (by decide +kernel)⟩
theorem lw_p17 : lw_okq (⟨"FoldedMonthsModel", "lay", "([IIIIZ)V"⟩, 10) := ⟨⟨by decide +kernel, by decide +kernel⟩, List.mem_of_getElem? (i := 530) (by decide +kernel), List.mem_of_getElem? (i := 669) (by decide +kernel), List.mem_of_getElem? (i := 670) (by decide +kernel)⟩
theorem lw_p18 : lw_okq (⟨"FoldedMonthsModel", "whole", "(I)I"⟩, 10) := ⟨⟨by decide +kernel, by decide +kernel⟩, List.mem_of_getElem? (i := 530) (by decide +kernel), List.mem_of_getElem? (i := 690) (by decide +kernel), List.mem_of_getElem? (i := 691) (by decide +kernel)⟩
theorem lw_p19 : lw_okq (⟨"FoldedMonthsModel", "look", "([II)V"⟩, 10) := ⟨⟨by decide +kernel, by decide +kernel⟩, List.mem_of_getElem? (i := 530) (by decide +kernel), List.mem_of_getElem? (i := 694) (by decide +kernel), List.mem_of_getElem? (i := 695) (by decide +kernel)⟩
theorem lw_p20 : lw_okq (⟨"FoldedMonthsModel", "lookAll", "(II)V"⟩, 10) := ⟨⟨by decide +kernel, by decide +kernel⟩, List.mem_of_getElem? (i := 530) (by decide +kernel), List.mem_of_getElem? (i := 757) (by decide +kernel), List.mem_of_getElem? (i := 758) (by decide +kernel)⟩
theorem lw_p21 : lw_okq (⟨"FoldedMonthsModel", "readOrder", "()Z"⟩, 10) := ⟨⟨by decide +kernel, by decide +kernel⟩, List.mem_of_getElem? (i := 530) (by decide +kernel), List.mem_of_getElem? (i := 780) (by decide +kernel), List.mem_of_getElem? (i := 781) (by decide +kernel)⟩
theorem lw_p22 : lw_okq (⟨"FoldedMonthsModel", "sign", "()I"⟩, 10) := ⟨⟨by decide +kernel, by decide +kernel⟩, List.mem_of_getElem? (i := 530) (by decide +kernel), List.mem_of_getElem? (i := 784) (by decide +kernel), List.mem_of_getElem? (i := 785) (by decide +kernel)⟩
theorem lw_p23 : lw_okq (⟨"FoldedMonthsModel", "number", "()I"⟩, 10) := ⟨⟨by decide +kernel, by decide +kernel⟩, List.mem_of_getElem? (i := 530) (by decide +kernel), List.mem_of_getElem? (i := 788) (by decide +kernel), List.mem_of_getElem? (i := 789) (by decide +kernel)⟩
theorem lw_p24 : lw_okq (⟨"FoldedMonthsModel", "readRanges", "()Z"⟩, 10) := ⟨⟨by decide +kernel, by decide +kernel⟩, List.mem_of_getElem? (i := 530) (by decide +kernel), List.mem_of_getElem? (i := 796) (by decide +kernel), List.mem_of_getElem? (i := 797) (by decide +kernel)⟩
theorem lw_p25 : lw_okq (⟨"FoldedMonthsModel", "doOrder", "()Z"⟩, 10) := ⟨⟨by decide +kernel, by decide +kernel⟩, List.mem_of_getElem? (i := 530) (by decide +kernel), List.mem_of_getElem? (i := 805) (by decide +kernel), List.mem_of_getElem? (i := 806) (by decide +kernel)⟩
def lw_privs_2 : List (MethodName × Nat) := [(⟨"FoldedMonthsModel", "daysOf", "(I)I"⟩, 10), (⟨"FoldedMonthsModel", "lay", "([IIIIZ)V"⟩, 10), (⟨"FoldedMonthsModel", "whole", "(I)I"⟩, 10), (⟨"FoldedMonthsModel", "look", "([II)V"⟩, 10), (⟨"FoldedMonthsModel", "lookAll", "(II)V"⟩, 10), (⟨"FoldedMonthsModel", "readOrder", "()Z"⟩, 10), (⟨"FoldedMonthsModel", "sign", "()I"⟩, 10), (⟨"FoldedMonthsModel", "number", "()I"⟩, 10), (⟨"FoldedMonthsModel", "readRanges", "()Z"⟩, 10), (⟨"FoldedMonthsModel", "doOrder", "()Z"⟩, 10)]
theorem lw_r2 : ∀ q ∈ lw_privs_2, lw_okq q := List.forall_mem_cons.mpr ⟨lw_p16, List.forall_mem_cons.mpr ⟨lw_p17, List.forall_mem_cons.mpr ⟨lw_p18, List.forall_mem_cons.mpr ⟨lw_p19, List.forall_mem_cons.mpr ⟨lw_p20, List.forall_mem_cons.mpr ⟨lw_p21, List.forall_mem_cons.mpr ⟨lw_p22, List.forall_mem_cons.mpr ⟨lw_p23, List.forall_mem_cons.mpr ⟨lw_p24, List.forall_mem_cons.mpr ⟨lw_p25, fun _ h => absurd h List.not_mem_nil⟩⟩⟩⟩⟩⟩⟩⟩⟩⟩
def lw_privs : List (MethodName × Nat) := lw_privs_1 ++ (lw_privs_2)
def lw_tbl : List Cond := k2_sels lw_privs ++ tables_1
theorem lw_privs_ok : ∀ q ∈ lw_privs, lw_okq q := by
  show ∀ q ∈ lw_privs_1 ++ (lw_privs_2), lw_okq q
  exact List.forall_mem_append.mpr ⟨lw_r1, lw_r2⟩

/-! ===== BEGIN words of one list among another's, by their places ===== -/
theorem goodIn_r {big : List Cond} (ws : List Cond) (ps : List Nat) (hp : ws = ps.filterMap (fun i => big[i]?)) (h : ws.all goodWord = true) : GoodIn big ws := by
  intro w hw
  have h1 := List.all_eq_true.mp h w hw
  rw [hp] at hw
  obtain ⟨i, -, hi⟩ := List.mem_filterMap.mp hw
  have hm : w ∈ big := by first | exact List.mem_of_getElem? hi | exact List.getElem?_mem hi
  exact ⟨hm, good_of_word h1⟩
theorem goodIn_app {big a b : List Cond} (ha : GoodIn big a) (hb : GoodIn big b) : GoodIn big (a ++ b) := fun w h => (List.mem_append.mp h).elim (ha w) (hb w)
theorem goodIn_ca {big a b : List Cond} {c : Cond} (ha : GoodIn big (c :: a)) (hb : GoodIn big b) : GoodIn big (c :: (a ++ b)) := fun w h => (List.mem_cons.mp h).elim (fun e => ha w (List.mem_cons.mpr (Or.inl e))) (fun h => (List.mem_append.mp h).elim (fun h => ha w (List.mem_cons.mpr (Or.inr h))) (hb w))
theorem goodIn_sub {big ws : List Cond} (hm : ∀ w ∈ ws, w ∈ big) (h : ws.all goodWord = true) : GoodIn big ws := fun w hw => ⟨hm w hw, good_of_word (List.all_eq_true.mp h w hw)⟩
/-! ===== END ===== -/

/-! ===== BEGIN printed: names, fields, word lists, decode rows ===== -/
def RX0 : String := "FoldedMonths$Diary"
def TX0 : u_T := fun k => match k with
  | 0 => ("FoldedMonths$Diary", "today", "I", false)
  | 1 => ("FoldedMonths$Diary", "keep", "I", false)
  | 2 => ("FoldedMonths$Diary", "open", "I", false)
  | 3 => ("FoldedMonths$Diary", "work", "I", false)
  | 4 => ("FoldedMonths$Diary", "unfoldings", "I", false)
  | 5 => ("FoldedMonths$Diary", "foldings", "I", false)
  | 6 => ("FoldedMonths$Diary", "rowLength", "I", false)
  | 7 => ("FoldedMonths$Diary", "bits", "[I", true)
  | 8 => ("FoldedMonths$Diary", "forms", "[I", true)
  | 9 => ("FoldedMonths$Diary", "names", "[I", true)
  | _ => ("FoldedMonths$Diary", "row", "[I", true)
def tyX0 : Nat → FieldType := fun k => match k with
  | 0 => .int
  | 1 => .int
  | 2 => .int
  | 3 => .int
  | 4 => .int
  | 5 => .int
  | 6 => .int
  | 7 => .array .int
  | 8 => .array .int
  | 9 => .array .int
  | _ => .array .int
abbrev wsX00 : List Cond := u_ws RX0 TX0 11
theorem nmX0 : ∀ a, a < 11 → ∀ b, b < 11 → a ≠ b → (TX0 a).2.1 ≠ (TX0 b).2.1 := by decide +kernel
theorem tyX0_ok : ∀ k, k < 11 → parseFieldDescriptor (TX0 k).2.2.1 = some (tyX0 k) := by decide +kernel
abbrev cX0_init : ByteArray := prog_2_method_1_code
def yX0_init : MethodName := ⟨RX0, "<init>", "()V"⟩
abbrev cX0_bitsOf : ByteArray := prog_2_method_2_code
def yX0_bitsOf : MethodName := ⟨RX0, "bitsOf", "(II)I"⟩
abbrev cX0_writeBits : ByteArray := prog_2_method_3_code
def yX0_writeBits : MethodName := ⟨RX0, "writeBits", "(III)V"⟩
abbrev cX0_isMarkedOn : ByteArray := prog_2_method_4_code
def yX0_isMarkedOn : MethodName := ⟨RX0, "isMarkedOn", "(II)Z"⟩
abbrev cX0_marksIn : ByteArray := prog_2_method_5_code
def yX0_marksIn : MethodName := ⟨RX0, "marksIn", "(I)I"⟩
abbrev cX0_runsIn : ByteArray := prog_2_method_6_code
def yX0_runsIn : MethodName := ⟨RX0, "runsIn", "(I)I"⟩
abbrev cX0_subjectsIn : ByteArray := prog_2_method_7_code
def yX0_subjectsIn : MethodName := ⟨RX0, "subjectsIn", "(I)I"⟩
abbrev cX0_crowdedDays : ByteArray := prog_2_method_8_code
def yX0_crowdedDays : MethodName := ⟨RX0, "crowdedDays", "(III)I"⟩
abbrev cX0_subjectsOn : ByteArray := prog_2_method_9_code
def yX0_subjectsOn : MethodName := ⟨RX0, "subjectsOn", "(II)I"⟩
abbrev cX0_allMarks : ByteArray := prog_2_method_10_code
def yX0_allMarks : MethodName := ⟨RX0, "allMarks", "()I"⟩
abbrev cX0_oldMonths : ByteArray := prog_2_method_11_code
def yX0_oldMonths : MethodName := ⟨RX0, "oldMonths", "()I"⟩
abbrev cX0_isOld : ByteArray := prog_2_method_12_code
def yX0_isOld : MethodName := ⟨RX0, "isOld", "(I)Z"⟩
abbrev cX0_formOf : ByteArray := prog_2_method_13_code
def yX0_formOf : MethodName := ⟨RX0, "formOf", "(I)I"⟩
abbrev cX0_namedBy : ByteArray := prog_2_method_14_code
def yX0_namedBy : MethodName := ⟨RX0, "namedBy", "(I)I"⟩
abbrev cX0_sizeOf : ByteArray := prog_2_method_15_code
def yX0_sizeOf : MethodName := ⟨RX0, "sizeOf", "(I)I"⟩
abbrev cX0_allSizes : ByteArray := prog_2_method_16_code
def yX0_allSizes : MethodName := ⟨RX0, "allSizes", "()I"⟩
abbrev cX0_sizeIn : ByteArray := prog_2_method_17_code
def yX0_sizeIn : MethodName := ⟨RX0, "sizeIn", "(III)I"⟩
abbrev cX0_twinOf : ByteArray := prog_2_method_18_code
def yX0_twinOf : MethodName := ⟨RX0, "twinOf", "(II)I"⟩
abbrev cX0_hasSameMarks : ByteArray := prog_2_method_19_code
def yX0_hasSameMarks : MethodName := ⟨RX0, "hasSameMarks", "(II)Z"⟩
abbrev cX0_fold : ByteArray := prog_2_method_20_code
def yX0_fold : MethodName := ⟨RX0, "fold", "(II)V"⟩
abbrev cX0_placeInRow : ByteArray := prog_2_method_21_code
def yX0_placeInRow : MethodName := ⟨RX0, "placeInRow", "(I)I"⟩
abbrev cX0_leaveRow : ByteArray := prog_2_method_22_code
def yX0_leaveRow : MethodName := ⟨RX0, "leaveRow", "(I)V"⟩
abbrev cX0_bringToTheEnd : ByteArray := prog_2_method_23_code
def yX0_bringToTheEnd : MethodName := ⟨RX0, "bringToTheEnd", "(I)V"⟩
abbrev cX0_foldSurplus : ByteArray := prog_2_method_24_code
def yX0_foldSurplus : MethodName := ⟨RX0, "foldSurplus", "()V"⟩
abbrev cX0_lookAt : ByteArray := prog_2_method_25_code
def yX0_lookAt : MethodName := ⟨RX0, "lookAt", "(I)V"⟩
abbrev cX0_lookAtMonths : ByteArray := prog_2_method_26_code
def yX0_lookAtMonths : MethodName := ⟨RX0, "lookAtMonths", "(II)V"⟩
abbrev cX0_lookAtMarkedMonths : ByteArray := prog_2_method_27_code
def yX0_lookAtMarkedMonths : MethodName := ⟨RX0, "lookAtMarkedMonths", "(III)V"⟩
abbrev cX0_advance : ByteArray := prog_2_method_28_code
def yX0_advance : MethodName := ⟨RX0, "advance", "(I)I"⟩
abbrev cX0_writeDays : ByteArray := prog_2_method_29_code
def yX0_writeDays : MethodName := ⟨RX0, "writeDays", "(IIIZ)I"⟩
abbrev cX0_foldNamersOf : ByteArray := prog_2_method_30_code
def yX0_foldNamersOf : MethodName := ⟨RX0, "foldNamersOf", "(I)V"⟩
def RX1 : String := "FoldedMonths$Pad"
def TX1 : u_T := fun k => match k with
  | 0 => ("FoldedMonths$Pad", "signs", "[C", true)
  | 1 => ("FoldedMonths$Pad", "steps", "[LFoldedMonths$Step;", true)
  | 2 => ("FoldedMonths$Pad", "length", "I", false)
  | 3 => ("FoldedMonths$Pad", "place", "I", false)
  | 4 => ("FoldedMonths$Pad", "stepsRead", "I", false)
  | _ => ("FoldedMonths$Pad", "orders", "I", false)
def tyX1 : Nat → FieldType := fun k => match k with
  | 0 => .array .char
  | 1 => .array (.object "FoldedMonths$Step")
  | 2 => .int
  | 3 => .int
  | 4 => .int
  | _ => .int
abbrev wsX10 : List Cond := u_ws RX1 TX1 6
theorem nmX1 : ∀ a, a < 6 → ∀ b, b < 6 → a ≠ b → (TX1 a).2.1 ≠ (TX1 b).2.1 := by decide +kernel
theorem tyX1_ok : ∀ k, k < 6 → parseFieldDescriptor (TX1 k).2.2.1 = some (tyX1 k) := by decide +kernel
abbrev cX1_init : ByteArray := prog_3_method_1_code
def yX1_init : MethodName := ⟨RX1, "<init>", "()V"⟩
abbrev cX1_append : ByteArray := prog_3_method_2_code
def yX1_append : MethodName := ⟨RX1, "append", "(JI)V"⟩
abbrev cX1_stepAt : ByteArray := prog_3_method_3_code
def yX1_stepAt : MethodName := ⟨RX1, "stepAt", "(I)LFoldedMonths$Step;"⟩
abbrev cX1_readAll : ByteArray := prog_3_method_4_code
def yX1_readAll : MethodName := ⟨RX1, "readAll", "()I"⟩
abbrev cX1_readOrder : ByteArray := prog_3_method_5_code
def yX1_readOrder : MethodName := ⟨RX1, "readOrder", "(I)Z"⟩
abbrev cX1_readRanges : ByteArray := prog_3_method_6_code
def yX1_readRanges : MethodName := ⟨RX1, "readRanges", "(CII)Z"⟩
abbrev cX1_readNumber : ByteArray := prog_3_method_7_code
def yX1_readNumber : MethodName := ⟨RX1, "readNumber", "()I"⟩
abbrev cX1_digitHere : ByteArray := prog_3_method_8_code
def yX1_digitHere : MethodName := ⟨RX1, "digitHere", "()I"⟩
abbrev cX1_signHere : ByteArray := prog_3_method_9_code
def yX1_signHere : MethodName := ⟨RX1, "signHere", "()C"⟩
abbrev cX1_take : ByteArray := prog_3_method_10_code
def yX1_take : MethodName := ⟨RX1, "take", "(C)Z"⟩
abbrev cX1_addStep : ByteArray := prog_3_method_11_code
def yX1_addStep : MethodName := ⟨RX1, "addStep", "(CIIII)Z"⟩
def RX2 : String := "FoldedMonths$Step"
def TX2 : u_T := fun k => match k with
  | 0 => ("FoldedMonths$Step", "kind", "C", false)
  | 1 => ("FoldedMonths$Step", "subject", "I", false)
  | 2 => ("FoldedMonths$Step", "from", "I", false)
  | 3 => ("FoldedMonths$Step", "to", "I", false)
  | _ => ("FoldedMonths$Step", "order", "I", false)
def tyX2 : Nat → FieldType := fun k => match k with
  | 0 => .char
  | 1 => .int
  | 2 => .int
  | 3 => .int
  | _ => .int
abbrev wsX20 : List Cond := u_ws RX2 TX2 5
theorem nmX2 : ∀ a, a < 5 → ∀ b, b < 5 → a ≠ b → (TX2 a).2.1 ≠ (TX2 b).2.1 := by decide +kernel
theorem tyX2_ok : ∀ k, k < 5 → parseFieldDescriptor (TX2 k).2.2.1 = some (tyX2 k) := by decide +kernel
abbrev cX2_init : ByteArray := prog_4_method_1_code
def yX2_init : MethodName := ⟨RX2, "<init>", "()V"⟩
def RX3 : String := "FoldedMonths"
def TX3 : u_T := fun k => match k with
  | 0 => ("FoldedMonths", "diary", "LFoldedMonths$Diary;", true)
  | 1 => ("FoldedMonths", "trial", "LFoldedMonths$Diary;", true)
  | 2 => ("FoldedMonths", "history", "[LFoldedMonths$Diary;", true)
  | 3 => ("FoldedMonths", "slots", "[LFoldedMonths$Diary;", true)
  | 4 => ("FoldedMonths", "pad", "LFoldedMonths$Pad;", true)
  | 5 => ("FoldedMonths", "historyLength", "I", false)
  | _ => ("FoldedMonths", "savedSlots", "I", false)
def tyX3 : Nat → FieldType := fun k => match k with
  | 0 => .object "FoldedMonths$Diary"
  | 1 => .object "FoldedMonths$Diary"
  | 2 => .array (.object "FoldedMonths$Diary")
  | 3 => .array (.object "FoldedMonths$Diary")
  | 4 => .object "FoldedMonths$Pad"
  | 5 => .int
  | _ => .int
abbrev wsX30 : List Cond := u_ws RX3 TX3 7
theorem nmX3 : ∀ a, a < 7 → ∀ b, b < 7 → a ≠ b → (TX3 a).2.1 ≠ (TX3 b).2.1 := by decide +kernel
theorem tyX3_ok : ∀ k, k < 7 → parseFieldDescriptor (TX3 k).2.2.1 = some (tyX3 k) := by decide +kernel
abbrev cX3_init : ByteArray := prog_1_method_1_code
def yX3_init : MethodName := ⟨RX3, "<init>", "()V"⟩
abbrev cX3_set : ByteArray := prog_1_method_2_code
def yX3_set : MethodName := ⟨RX3, "set", "(II)I"⟩
abbrev cX3_changeKeep : ByteArray := prog_1_method_3_code
def yX3_changeKeep : MethodName := ⟨RX3, "changeKeep", "(I)I"⟩
abbrev cX3_changeOpen : ByteArray := prog_1_method_4_code
def yX3_changeOpen : MethodName := ⟨RX3, "changeOpen", "(I)I"⟩
abbrev cX3_pass : ByteArray := prog_1_method_5_code
def yX3_pass : MethodName := ⟨RX3, "pass", "(I)I"⟩
abbrev cX3_mark : ByteArray := prog_1_method_6_code
def yX3_mark : MethodName := ⟨RX3, "mark", "(III)I"⟩
abbrev cX3_clear : ByteArray := prog_1_method_7_code
def yX3_clear : MethodName := ⟨RX3, "clear", "(III)I"⟩
abbrev cX3_changeDays : ByteArray := prog_1_method_8_code
def yX3_changeDays : MethodName := ⟨RX3, "changeDays", "(IIIZ)I"⟩
abbrev cX3_marks : ByteArray := prog_1_method_9_code
def yX3_marks : MethodName := ⟨RX3, "marks", "(III)I"⟩
abbrev cX3_isMarked : ByteArray := prog_1_method_10_code
def yX3_isMarked : MethodName := ⟨RX3, "isMarked", "(II)I"⟩
abbrev cX3_both : ByteArray := prog_1_method_11_code
def yX3_both : MethodName := ⟨RX3, "both", "(IIII)I"⟩
abbrev cX3_crowded : ByteArray := prog_1_method_12_code
def yX3_crowded : MethodName := ⟨RX3, "crowded", "(III)I"⟩
abbrev cX3_longest : ByteArray := prog_1_method_13_code
def yX3_longest : MethodName := ⟨RX3, "longest", "(IIII)I"⟩
abbrev cX3_nextMark : ByteArray := prog_1_method_14_code
def yX3_nextMark : MethodName := ⟨RX3, "nextMark", "(II)I"⟩
abbrev cX3_ofMonth : ByteArray := prog_1_method_15_code
def yX3_ofMonth : MethodName := ⟨RX3, "ofMonth", "(II)I"⟩
abbrev cX3_inMonth : ByteArray := prog_1_method_16_code
def yX3_inMonth : MethodName := ⟨RX3, "inMonth", "(II)I"⟩
abbrev cX3_dayOf : ByteArray := prog_1_method_17_code
def yX3_dayOf : MethodName := ⟨RX3, "dayOf", "(III)I"⟩
abbrev cX3_dateOf : ByteArray := prog_1_method_18_code
def yX3_dateOf : MethodName := ⟨RX3, "dateOf", "(II)I"⟩
abbrev cX3_count : ByteArray := prog_1_method_19_code
def yX3_count : MethodName := ⟨RX3, "count", "(I)I"⟩
abbrev cX3_sizeAs : ByteArray := prog_1_method_20_code
def yX3_sizeAs : MethodName := ⟨RX3, "sizeAs", "(II)I"⟩
abbrev cX3_workOf : ByteArray := prog_1_method_21_code
def yX3_workOf : MethodName := ⟨RX3, "workOf", "(II)I"⟩
abbrev cX3_bestOpen : ByteArray := prog_1_method_22_code
def yX3_bestOpen : MethodName := ⟨RX3, "bestOpen", "(II)I"⟩
abbrev cX3_put : ByteArray := prog_1_method_23_code
def yX3_put : MethodName := ⟨RX3, "put", "(J)I"⟩
abbrev cX3_wipe : ByteArray := prog_1_method_24_code
def yX3_wipe : MethodName := ⟨RX3, "wipe", "()I"⟩
abbrev cX3_fault : ByteArray := prog_1_method_25_code
def yX3_fault : MethodName := ⟨RX3, "fault", "()I"⟩
abbrev cX3_carryOut : ByteArray := prog_1_method_26_code
def yX3_carryOut : MethodName := ⟨RX3, "carryOut", "()I"⟩
abbrev cX3_carryStep : ByteArray := prog_1_method_27_code
def yX3_carryStep : MethodName := ⟨RX3, "carryStep", "(LFoldedMonths$Step;)I"⟩
abbrev cX3_undo : ByteArray := prog_1_method_28_code
def yX3_undo : MethodName := ⟨RX3, "undo", "()I"⟩
abbrev cX3_save : ByteArray := prog_1_method_29_code
def yX3_save : MethodName := ⟨RX3, "save", "(I)I"⟩
abbrev cX3_restore : ByteArray := prog_1_method_30_code
def yX3_restore : MethodName := ⟨RX3, "restore", "(I)I"⟩
abbrev cX3_record : ByteArray := prog_1_method_31_code
def yX3_record : MethodName := ⟨RX3, "record", "()V"⟩
abbrev cX3_moveOldestToTheEnd : ByteArray := prog_1_method_32_code
def yX3_moveOldestToTheEnd : MethodName := ⟨RX3, "moveOldestToTheEnd", "()V"⟩
abbrev cX3_stateAt : ByteArray := prog_1_method_33_code
def yX3_stateAt : MethodName := ⟨RX3, "stateAt", "([LFoldedMonths$Diary;I)LFoldedMonths$Diary;"⟩
abbrev cX3_copy : ByteArray := prog_1_method_34_code
def yX3_copy : MethodName := ⟨RX3, "copy", "(LFoldedMonths$Diary;LFoldedMonths$Diary;)V"⟩
abbrev cX3_copyNumbers : ByteArray := prog_1_method_35_code
def yX3_copyNumbers : MethodName := ⟨RX3, "copyNumbers", "([I[I)V"⟩
abbrev cX3_spanError : ByteArray := prog_1_method_36_code
def yX3_spanError : MethodName := ⟨RX3, "spanError", "(II)I"⟩
abbrev cX3_subjectSpanError : ByteArray := prog_1_method_37_code
def yX3_subjectSpanError : MethodName := ⟨RX3, "subjectSpanError", "(III)I"⟩
abbrev cX3_changeError : ByteArray := prog_1_method_38_code
def yX3_changeError : MethodName := ⟨RX3, "changeError", "(III)I"⟩
abbrev cX3_passError : ByteArray := prog_1_method_39_code
def yX3_passError : MethodName := ⟨RX3, "passError", "(I)I"⟩
abbrev cX3_isSubject : ByteArray := prog_1_method_40_code
def yX3_isSubject : MethodName := ⟨RX3, "isSubject", "(I)Z"⟩
abbrev cX3_isDay : ByteArray := prog_1_method_41_code
def yX3_isDay : MethodName := ⟨RX3, "isDay", "(I)Z"⟩
abbrev cX3_isMonth : ByteArray := prog_1_method_42_code
def yX3_isMonth : MethodName := ⟨RX3, "isMonth", "(I)Z"⟩
abbrev cX3_monthOf : ByteArray := prog_1_method_43_code
def yX3_monthOf : MethodName := ⟨RX3, "monthOf", "(I)I"⟩
abbrev cX3_firstDayOf : ByteArray := prog_1_method_44_code
def yX3_firstDayOf : MethodName := ⟨RX3, "firstDayOf", "(I)I"⟩
abbrev cX3_daysOf : ByteArray := prog_1_method_45_code
def yX3_daysOf : MethodName := ⟨RX3, "daysOf", "(I)I"⟩
abbrev cX3_startInYear : ByteArray := prog_1_method_46_code
def yX3_startInYear : MethodName := ⟨RX3, "startInYear", "(I)I"⟩
abbrev cX3_daysMeant : ByteArray := prog_1_method_47_code
def yX3_daysMeant : MethodName := ⟨RX3, "daysMeant", "(III)I"⟩
abbrev cX3_allDays : ByteArray := prog_1_method_48_code
def yX3_allDays : MethodName := ⟨RX3, "allDays", "(I)I"⟩
abbrev cX3_lowestBits : ByteArray := prog_1_method_49_code
def yX3_lowestBits : MethodName := ⟨RX3, "lowestBits", "(I)I"⟩
abbrev cX3_isBitSet : ByteArray := prog_1_method_50_code
def yX3_isBitSet : MethodName := ⟨RX3, "isBitSet", "(II)Z"⟩
abbrev cX3_charactersIn : ByteArray := prog_1_method_51_code
def yX3_charactersIn : MethodName := ⟨RX3, "charactersIn", "(J)I"⟩
def RX4 : String := "FoldedMonthsModel"
def TX4 : u_T := fun k => match k with
  | 0 => ("FoldedMonthsModel", "now", "[I", true)
  | 1 => ("FoldedMonthsModel", "trial", "[I", true)
  | 2 => ("FoldedMonthsModel", "history", "[I", true)
  | 3 => ("FoldedMonthsModel", "changes", "I", false)
  | 4 => ("FoldedMonthsModel", "kept", "[I", true)
  | 5 => ("FoldedMonthsModel", "isKept", "[Z", true)
  | 6 => ("FoldedMonthsModel", "pad", "[I", true)
  | 7 => ("FoldedMonthsModel", "size", "I", false)
  | 8 => ("FoldedMonthsModel", "firsts", "[I", true)
  | _ => ("FoldedMonthsModel", "spot", "I", false)
def tyX4 : Nat → FieldType := fun k => match k with
  | 0 => .array .int
  | 1 => .array .int
  | 2 => .array .int
  | 3 => .int
  | 4 => .array .int
  | 5 => .array .boolean
  | 6 => .array .int
  | 7 => .int
  | 8 => .array .int
  | _ => .int
abbrev wsX40 : List Cond := u_ws RX4 TX4 10
theorem nmX4 : ∀ a, a < 10 → ∀ b, b < 10 → a ≠ b → (TX4 a).2.1 ≠ (TX4 b).2.1 := by decide +kernel
theorem tyX4_ok : ∀ k, k < 10 → parseFieldDescriptor (TX4 k).2.2.1 = some (tyX4 k) := by decide +kernel
abbrev cX4_init : ByteArray := prog_6_method_1_code
def yX4_init : MethodName := ⟨RX4, "<init>", "()V"⟩
abbrev cX4_in : ByteArray := prog_6_method_2_code
def yX4_in : MethodName := ⟨RX4, "in", "(JJJ)Z"⟩
abbrev cX4_copyDiary : ByteArray := prog_6_method_3_code
def yX4_copyDiary : MethodName := ⟨RX4, "copyDiary", "([II[II)V"⟩
abbrev cX4_isDay : ByteArray := prog_6_method_4_code
def yX4_isDay : MethodName := ⟨RX4, "isDay", "(I)Z"⟩
abbrev cX4_isSubject : ByteArray := prog_6_method_5_code
def yX4_isSubject : MethodName := ⟨RX4, "isSubject", "(I)Z"⟩
abbrev cX4_isMonth : ByteArray := prog_6_method_6_code
def yX4_isMonth : MethodName := ⟨RX4, "isMonth", "(I)Z"⟩
abbrev cX4_monthOf : ByteArray := prog_6_method_7_code
def yX4_monthOf : MethodName := ⟨RX4, "monthOf", "(I)I"⟩
abbrev cX4_daysOf : ByteArray := prog_6_method_8_code
def yX4_daysOf : MethodName := ⟨RX4, "daysOf", "(I)I"⟩
abbrev cX4_isOld : ByteArray := prog_6_method_9_code
def yX4_isOld : MethodName := ⟨RX4, "isOld", "([II)Z"⟩
abbrev cX4_at : ByteArray := prog_6_method_10_code
def yX4_at : MethodName := ⟨RX4, "at", "(II)I"⟩
abbrev cX4_ones : ByteArray := prog_6_method_11_code
def yX4_ones : MethodName := ⟨RX4, "ones", "(I)I"⟩
abbrev cX4_meant : ByteArray := prog_6_method_12_code
def yX4_meant : MethodName := ⟨RX4, "meant", "(III)I"⟩
abbrev cX4_whole : ByteArray := prog_6_method_13_code
def yX4_whole : MethodName := ⟨RX4, "whole", "(I)I"⟩
abbrev cX4_marksIn : ByteArray := prog_6_method_14_code
def yX4_marksIn : MethodName := ⟨RX4, "marksIn", "([II)I"⟩
abbrev cX4_areAlike : ByteArray := prog_6_method_15_code
def yX4_areAlike : MethodName := ⟨RX4, "areAlike", "([III)Z"⟩
abbrev cX4_twin : ByteArray := prog_6_method_16_code
def yX4_twin : MethodName := ⟨RX4, "twin", "([III)I"⟩
abbrev cX4_runsIn : ByteArray := prog_6_method_17_code
def yX4_runsIn : MethodName := ⟨RX4, "runsIn", "([II)I"⟩
abbrev cX4_sizeIn : ByteArray := prog_6_method_18_code
def yX4_sizeIn : MethodName := ⟨RX4, "sizeIn", "([IIII)I"⟩
abbrev cX4_sizeOf : ByteArray := prog_6_method_19_code
def yX4_sizeOf : MethodName := ⟨RX4, "sizeOf", "([II)I"⟩
abbrev cX4_fold : ByteArray := prog_6_method_20_code
def yX4_fold : MethodName := ⟨RX4, "fold", "([III)V"⟩
abbrev cX4_placeOf : ByteArray := prog_6_method_21_code
def yX4_placeOf : MethodName := ⟨RX4, "placeOf", "([II)I"⟩
abbrev cX4_takeOut : ByteArray := prog_6_method_22_code
def yX4_takeOut : MethodName := ⟨RX4, "takeOut", "([II)V"⟩
abbrev cX4_foldAgain : ByteArray := prog_6_method_23_code
def yX4_foldAgain : MethodName := ⟨RX4, "foldAgain", "([I)V"⟩
abbrev cX4_unfold : ByteArray := prog_6_method_24_code
def yX4_unfold : MethodName := ⟨RX4, "unfold", "([II)V"⟩
abbrev cX4_toEnd : ByteArray := prog_6_method_25_code
def yX4_toEnd : MethodName := ⟨RX4, "toEnd", "([II)V"⟩
abbrev cX4_look : ByteArray := prog_6_method_26_code
def yX4_look : MethodName := ⟨RX4, "look", "([II)V"⟩
abbrev cX4_lay : ByteArray := prog_6_method_27_code
def yX4_lay : MethodName := ⟨RX4, "lay", "([IIIIZ)V"⟩
abbrev cX4_record : ByteArray := prog_6_method_28_code
def yX4_record : MethodName := ⟨RX4, "record", "()V"⟩
abbrev cX4_set : ByteArray := prog_6_method_29_code
def yX4_set : MethodName := ⟨RX4, "set", "(II)I"⟩
abbrev cX4_passOn : ByteArray := prog_6_method_30_code
def yX4_passOn : MethodName := ⟨RX4, "passOn", "([II)I"⟩
abbrev cX4_whyNotPass : ByteArray := prog_6_method_31_code
def yX4_whyNotPass : MethodName := ⟨RX4, "whyNotPass", "([II)I"⟩
abbrev cX4_pass : ByteArray := prog_6_method_32_code
def yX4_pass : MethodName := ⟨RX4, "pass", "(I)I"⟩
abbrev cX4_whyNotDays : ByteArray := prog_6_method_33_code
def yX4_whyNotDays : MethodName := ⟨RX4, "whyNotDays", "(ZII)I"⟩
abbrev cX4_whyNotMark : ByteArray := prog_6_method_34_code
def yX4_whyNotMark : MethodName := ⟨RX4, "whyNotMark", "([IIII)I"⟩
abbrev cX4_markOn : ByteArray := prog_6_method_35_code
def yX4_markOn : MethodName := ⟨RX4, "markOn", "([IIIIZ)I"⟩
abbrev cX4_mark : ByteArray := prog_6_method_36_code
def yX4_mark : MethodName := ⟨RX4, "mark", "(III)I"⟩
abbrev cX4_clear : ByteArray := prog_6_method_37_code
def yX4_clear : MethodName := ⟨RX4, "clear", "(III)I"⟩
abbrev cX4_marks : ByteArray := prog_6_method_38_code
def yX4_marks : MethodName := ⟨RX4, "marks", "(III)I"⟩
abbrev cX4_isMarked : ByteArray := prog_6_method_39_code
def yX4_isMarked : MethodName := ⟨RX4, "isMarked", "(II)I"⟩
abbrev cX4_both : ByteArray := prog_6_method_40_code
def yX4_both : MethodName := ⟨RX4, "both", "(IIII)I"⟩
abbrev cX4_crowded : ByteArray := prog_6_method_41_code
def yX4_crowded : MethodName := ⟨RX4, "crowded", "(III)I"⟩
abbrev cX4_longest : ByteArray := prog_6_method_42_code
def yX4_longest : MethodName := ⟨RX4, "longest", "(IIII)I"⟩
abbrev cX4_nextMark : ByteArray := prog_6_method_43_code
def yX4_nextMark : MethodName := ⟨RX4, "nextMark", "(II)I"⟩
abbrev cX4_subjectsIn : ByteArray := prog_6_method_44_code
def yX4_subjectsIn : MethodName := ⟨RX4, "subjectsIn", "([II)I"⟩
abbrev cX4_ofMonth : ByteArray := prog_6_method_45_code
def yX4_ofMonth : MethodName := ⟨RX4, "ofMonth", "(II)I"⟩
abbrev cX4_inMonth : ByteArray := prog_6_method_46_code
def yX4_inMonth : MethodName := ⟨RX4, "inMonth", "(II)I"⟩
abbrev cX4_dayOf : ByteArray := prog_6_method_47_code
def yX4_dayOf : MethodName := ⟨RX4, "dayOf", "(III)I"⟩
abbrev cX4_dateOf : ByteArray := prog_6_method_48_code
def yX4_dateOf : MethodName := ⟨RX4, "dateOf", "(II)I"⟩
abbrev cX4_count : ByteArray := prog_6_method_49_code
def yX4_count : MethodName := ⟨RX4, "count", "(I)I"⟩
abbrev cX4_sizeAs : ByteArray := prog_6_method_50_code
def yX4_sizeAs : MethodName := ⟨RX4, "sizeAs", "(II)I"⟩
abbrev cX4_lookAll : ByteArray := prog_6_method_51_code
def yX4_lookAll : MethodName := ⟨RX4, "lookAll", "(II)V"⟩
abbrev cX4_workOf : ByteArray := prog_6_method_52_code
def yX4_workOf : MethodName := ⟨RX4, "workOf", "(II)I"⟩
abbrev cX4_bestOpen : ByteArray := prog_6_method_53_code
def yX4_bestOpen : MethodName := ⟨RX4, "bestOpen", "(II)I"⟩
abbrev cX4_put : ByteArray := prog_6_method_54_code
def yX4_put : MethodName := ⟨RX4, "put", "(J)I"⟩
abbrev cX4_wipe : ByteArray := prog_6_method_55_code
def yX4_wipe : MethodName := ⟨RX4, "wipe", "()I"⟩
abbrev cX4_sign : ByteArray := prog_6_method_56_code
def yX4_sign : MethodName := ⟨RX4, "sign", "()I"⟩
abbrev cX4_number : ByteArray := prog_6_method_57_code
def yX4_number : MethodName := ⟨RX4, "number", "()I"⟩
abbrev cX4_readRanges : ByteArray := prog_6_method_58_code
def yX4_readRanges : MethodName := ⟨RX4, "readRanges", "()Z"⟩
abbrev cX4_readOrder : ByteArray := prog_6_method_59_code
def yX4_readOrder : MethodName := ⟨RX4, "readOrder", "()Z"⟩
abbrev cX4_fault : ByteArray := prog_6_method_60_code
def yX4_fault : MethodName := ⟨RX4, "fault", "()I"⟩
abbrev cX4_doOrder : ByteArray := prog_6_method_61_code
def yX4_doOrder : MethodName := ⟨RX4, "doOrder", "()Z"⟩
abbrev cX4_carryOut : ByteArray := prog_6_method_62_code
def yX4_carryOut : MethodName := ⟨RX4, "carryOut", "()I"⟩
abbrev cX4_undo : ByteArray := prog_6_method_63_code
def yX4_undo : MethodName := ⟨RX4, "undo", "()I"⟩
abbrev cX4_save : ByteArray := prog_6_method_64_code
def yX4_save : MethodName := ⟨RX4, "save", "(I)I"⟩
abbrev cX4_restore : ByteArray := prog_6_method_65_code
def yX4_restore : MethodName := ⟨RX4, "restore", "(I)I"⟩
def RJ6 : String := "java/lang/Integer"
def TJ6 : u_T := fun k => match k with
  | _ => ("", "", "", false)
def tyJ6 : Nat → FieldType := fun k => match k with
  | _ => .int
abbrev wsJ60 : List Cond := u_ws RJ6 TJ6 0
theorem nmJ6 : ∀ a, a < 0 → ∀ b, b < 0 → a ≠ b → (TJ6 a).2.1 ≠ (TJ6 b).2.1 := by decide +kernel
theorem tyJ6_ok : ∀ k, k < 0 → parseFieldDescriptor (TJ6 k).2.2.1 = some (tyJ6 k) := by decide +kernel
abbrev cJ6_bitCount_0f7a4 : ByteArray := prog_7_method_49_code
def yJ6_bitCount_0f7a4 : MethodName := ⟨RJ6, "bitCount", "(I)I"⟩
def RJ9 : String := "java/lang/Math"
def TJ9 : u_T := fun k => match k with
  | _ => ("", "", "", false)
def tyJ9 : Nat → FieldType := fun k => match k with
  | _ => .int
abbrev wsJ90 : List Cond := u_ws RJ9 TJ9 0
theorem nmJ9 : ∀ a, a < 0 → ∀ b, b < 0 → a ≠ b → (TJ9 a).2.1 ≠ (TJ9 b).2.1 := by decide +kernel
theorem tyJ9_ok : ∀ k, k < 0 → parseFieldDescriptor (TJ9 k).2.2.1 = some (tyJ9 k) := by decide +kernel
abbrev cJ9_max_7cf53 : ByteArray := prog_8_method_65_code
def yJ9_max_7cf53 : MethodName := ⟨RJ9, "max", "(II)I"⟩
abbrev cJ9_min_7cf53 : ByteArray := prog_8_method_69_code
def yJ9_min_7cf53 : MethodName := ⟨RJ9, "min", "(II)I"⟩
def RJ10 : String := "java/lang/System"
def TJ10 : u_T := fun k => match k with
  | _ => ("", "", "", false)
def tyJ10 : Nat → FieldType := fun k => match k with
  | _ => .int
abbrev wsJ100 : List Cond := u_ws RJ10 TJ10 0
theorem nmJ10 : ∀ a, a < 0 → ∀ b, b < 0 → a ≠ b → (TJ10 a).2.1 ≠ (TJ10 b).2.1 := by decide +kernel
theorem tyJ10_ok : ∀ k, k < 0 → parseFieldDescriptor (TJ10 k).2.2.1 = some (tyJ10 k) := by decide +kernel
def RL : String := "FoldedMonthsLaw"
abbrev cL_law : ByteArray := code
def yL_law : MethodName := ⟨RL, "law", "([I)Z"⟩
theorem dJ9_max_7cf53_0 : decode cJ9_max_7cf53 0 = .ok (.iload_n 0, 1) := by decide +kernel
theorem dJ9_max_7cf53_1 : decode cJ9_max_7cf53 1 = .ok (.iload_n 1, 1) := by decide +kernel
theorem dJ9_max_7cf53_2 : decode cJ9_max_7cf53 2 = .ok (.if_icmp .lt 7, 3) := by decide +kernel
theorem dJ9_max_7cf53_5 : decode cJ9_max_7cf53 5 = .ok (.iload_n 0, 1) := by decide +kernel
theorem dJ9_max_7cf53_6 : decode cJ9_max_7cf53 6 = .ok (.goto 4, 3) := by decide +kernel
theorem dJ9_max_7cf53_9 : decode cJ9_max_7cf53 9 = .ok (.iload_n 1, 1) := by decide +kernel
theorem dJ9_max_7cf53_10 : decode cJ9_max_7cf53 10 = .ok (.ireturn, 1) := by decide +kernel
theorem dJ9_min_7cf53_0 : decode cJ9_min_7cf53 0 = .ok (.iload_n 0, 1) := by decide +kernel
theorem dJ9_min_7cf53_1 : decode cJ9_min_7cf53 1 = .ok (.iload_n 1, 1) := by decide +kernel
theorem dJ9_min_7cf53_2 : decode cJ9_min_7cf53 2 = .ok (.if_icmp .gt 7, 3) := by decide +kernel
theorem dJ9_min_7cf53_5 : decode cJ9_min_7cf53 5 = .ok (.iload_n 0, 1) := by decide +kernel
theorem dJ9_min_7cf53_6 : decode cJ9_min_7cf53 6 = .ok (.goto 4, 3) := by decide +kernel
theorem dJ9_min_7cf53_9 : decode cJ9_min_7cf53 9 = .ok (.iload_n 1, 1) := by decide +kernel
theorem dJ9_min_7cf53_10 : decode cJ9_min_7cf53 10 = .ok (.ireturn, 1) := by decide +kernel
abbrev vwCl : List vw_C := [(RX0, TX0, 11), (RX1, TX1, 6), (RX2, TX2, 5), (RX3, TX3, 7), (RX4, TX4, 10)]
end
section
/-- the words that every contract of ours rests on: those of the tables that may be handed on -/
def GW : List Cond := lw_tbl.filter goodWord
theorem gw_of {w : Cond} (h : w ∈ lw_tbl) (hg : goodWord w = true) : w ∈ GW := List.mem_filter.mpr ⟨h, hg⟩
theorem gw_tbl : ∀ w ∈ GW, w ∈ lw_tbl := fun w h => (List.mem_filter.mp h).1
theorem gw_good {w : Cond} (h : w ∈ GW) : goodWord w = true := (List.mem_filter.mp h).2
theorem gt_1 {w : Cond} {i : Nat} (h : tables_1_1[i]? = some w) (hg : goodWord w = true) : w ∈ GW := gw_of (List.mem_append_right _ (List.mem_append_left _ (List.mem_of_getElem? h))) hg
theorem gt_2 {w : Cond} {i : Nat} (h : tables_1_2[i]? = some w) (hg : goodWord w = true) : w ∈ GW := gw_of (List.mem_append_right _ (List.mem_append_right _ (List.mem_append_left _ (List.mem_of_getElem? h)))) hg
theorem gt_3 {w : Cond} {i : Nat} (h : tables_1_3[i]? = some w) (hg : goodWord w = true) : w ∈ GW := gw_of (List.mem_append_right _ (List.mem_append_right _ (List.mem_append_right _ (List.mem_append_left _ (List.mem_of_getElem? h))))) hg
theorem gt_4 {w : Cond} {i : Nat} (h : tables_1_4[i]? = some w) (hg : goodWord w = true) : w ∈ GW := gw_of (List.mem_append_right _ (List.mem_append_right _ (List.mem_append_right _ (List.mem_append_right _ (List.mem_of_getElem? h))))) hg
theorem gp_0 {q : MethodName × Nat} (h : q ∈ lw_privs) : Cond.selects q.1.cls q.1 q.1 ∈ GW := gw_of (List.mem_append_left _ (List.mem_map_of_mem h)) rfl
theorem gp_1 {q : MethodName × Nat} {i : Nat} (h : lw_privs_1[i]? = some q) : Cond.selects q.1.cls q.1 q.1 ∈ GW := gp_0 (List.mem_append_left _ (List.mem_of_getElem? h))
theorem gp_2 {q : MethodName × Nat} {i : Nat} (h : lw_privs_2[i]? = some q) : Cond.selects q.1.cls q.1 q.1 ∈ GW := gp_0 (List.mem_append_right _ (List.mem_of_getElem? h))

theorem mw_1_0 : Cond.initialized "FoldedMonthsLaw" ∈ GW := gt_1 (i := 0) rfl rfl
theorem mw_1_1 : Cond.initialized "FoldedMonths" ∈ GW := gt_1 (i := 1) rfl rfl
theorem mw_1_2 : Cond.initialized "FoldedMonths$Diary" ∈ GW := gt_1 (i := 2) rfl rfl
theorem mw_1_3 : Cond.initialized "FoldedMonths$Pad" ∈ GW := gt_1 (i := 3) rfl rfl
theorem mw_1_4 : Cond.initialized "FoldedMonths$Step" ∈ GW := gt_1 (i := 4) rfl rfl
theorem mw_1_5 : Cond.initialized "FoldedMonthsModel" ∈ GW := gt_1 (i := 5) rfl rfl
theorem mw_1_6 : Cond.initialized "java/lang/Math" ∈ GW := gt_1 (i := 6) rfl rfl
theorem mw_1_7 : Cond.initialized "java/lang/System" ∈ GW := gt_1 (i := 7) rfl rfl
theorem mw_1_8 : Cond.initialized "java/lang/Integer" ∈ GW := gt_1 (i := 8) rfl rfl
theorem mw_1_9 : Cond.classLink "FoldedMonthsLaw" 7 "FoldedMonths" ∈ GW := gt_1 (i := 9) rfl rfl
theorem mw_1_10 : Cond.instantiable "FoldedMonths" 7 ∈ GW := gt_1 (i := 10) rfl rfl
theorem mw_1_11 : Cond.methodLink "FoldedMonthsLaw" 9 yX3_init ∈ GW := gt_1 (i := 11) rfl rfl
theorem mw_1_12 : Cond.instanceMethod yX3_init ∈ GW := gt_1 (i := 12) rfl rfl
theorem mw_1_13 : Cond.code yX3_init cX3_init 2 (Option.none : Option FieldType) ∈ GW := gt_1 (i := 13) rfl rfl
theorem mw_1_14 : Cond.methodLink "FoldedMonths" 3 objectInit ∈ GW := gt_1 (i := 14) rfl rfl
theorem mw_1_15 : Cond.instanceMethod objectInit ∈ GW := gt_1 (i := 15) rfl rfl
theorem mw_1_16 : Cond.code objectInit object_method_1_code 1 (Option.none : Option FieldType) ∈ GW := gt_1 (i := 16) rfl rfl
theorem mw_1_17 : Cond.classLink "FoldedMonths" 9 "FoldedMonths$Diary" ∈ GW := gt_1 (i := 17) rfl rfl
theorem mw_1_18 : Cond.instantiable "FoldedMonths$Diary" 11 ∈ GW := gt_1 (i := 18) rfl rfl
theorem mw_1_19 : Cond.methodLink "FoldedMonths" 11 yX0_init ∈ GW := gt_1 (i := 19) rfl rfl
theorem mw_1_20 : Cond.instanceMethod yX0_init ∈ GW := gt_1 (i := 20) rfl rfl
theorem mw_1_21 : Cond.code yX0_init cX0_init 2 (Option.none : Option FieldType) ∈ GW := gt_1 (i := 21) rfl rfl
theorem mw_1_22 : Cond.methodLink "FoldedMonths$Diary" 3 objectInit ∈ GW := gt_1 (i := 22) rfl rfl
theorem mw_1_23 : Cond.fieldLink "FoldedMonths" 40 "FoldedMonths$Diary" "today" "I" ∈ GW := gt_1 (i := 23) rfl rfl
theorem mw_1_24 : Cond.fieldLink "FoldedMonths$Diary" 57 "FoldedMonths$Diary" "today" "I" ∈ GW := gt_1 (i := 24) rfl rfl
theorem mw_1_25 : Cond.fieldLink "FoldedMonths$Diary" 9 "FoldedMonths$Diary" "keep" "I" ∈ GW := gt_1 (i := 25) rfl rfl
theorem mw_1_26 : Cond.fieldLink "FoldedMonths" 47 "FoldedMonths$Diary" "keep" "I" ∈ GW := gt_1 (i := 26) rfl rfl
theorem mw_1_27 : Cond.fieldLink "FoldedMonths$Diary" 15 "FoldedMonths$Diary" "open" "I" ∈ GW := gt_1 (i := 27) rfl rfl
theorem mw_1_28 : Cond.fieldLink "FoldedMonths" 50 "FoldedMonths$Diary" "open" "I" ∈ GW := gt_1 (i := 28) rfl rfl
theorem mw_1_29 : Cond.fieldLink "FoldedMonths" 171 "FoldedMonths$Diary" "work" "I" ∈ GW := gt_1 (i := 29) rfl rfl
theorem mw_1_30 : Cond.fieldLink "FoldedMonths$Diary" 95 "FoldedMonths$Diary" "work" "I" ∈ GW := gt_1 (i := 30) rfl rfl
theorem mw_1_31 : Cond.fieldLink "FoldedMonths" 174 "FoldedMonths$Diary" "unfoldings" "I" ∈ GW := gt_1 (i := 31) rfl rfl
theorem mw_1_32 : Cond.fieldLink "FoldedMonths$Diary" 111 "FoldedMonths$Diary" "unfoldings" "I" ∈ GW := gt_1 (i := 32) rfl rfl
theorem mw_1_33 : Cond.fieldLink "FoldedMonths" 177 "FoldedMonths$Diary" "foldings" "I" ∈ GW := gt_1 (i := 33) rfl rfl
theorem mw_1_34 : Cond.fieldLink "FoldedMonths$Diary" 98 "FoldedMonths$Diary" "foldings" "I" ∈ GW := gt_1 (i := 34) rfl rfl
theorem mw_1_35 : Cond.fieldLink "FoldedMonths" 165 "FoldedMonths$Diary" "rowLength" "I" ∈ GW := gt_1 (i := 35) rfl rfl
theorem mw_1_36 : Cond.fieldLink "FoldedMonths$Diary" 101 "FoldedMonths$Diary" "rowLength" "I" ∈ GW := gt_1 (i := 36) rfl rfl
theorem mw_1_37 : Cond.fieldLink "FoldedMonths$Diary" 18 "FoldedMonths$Diary" "bits" "[I" ∈ GW := gt_1 (i := 37) rfl rfl
theorem mw_1_38 : Cond.fieldLink "FoldedMonths" 253 "FoldedMonths$Diary" "bits" "[I" ∈ GW := gt_1 (i := 38) rfl rfl
theorem mw_1_39 : Cond.fieldLink "FoldedMonths$Diary" 25 "FoldedMonths$Diary" "forms" "[I" ∈ GW := gt_1 (i := 39) rfl rfl
theorem mw_1_40 : Cond.fieldLink "FoldedMonths" 261 "FoldedMonths$Diary" "forms" "[I" ∈ GW := gt_1 (i := 40) rfl rfl
theorem mw_1_41 : Cond.fieldLink "FoldedMonths$Diary" 28 "FoldedMonths$Diary" "names" "[I" ∈ GW := gt_1 (i := 41) rfl rfl
theorem mw_1_42 : Cond.fieldLink "FoldedMonths" 264 "FoldedMonths$Diary" "names" "[I" ∈ GW := gt_1 (i := 42) rfl rfl
theorem mw_1_43 : Cond.fieldLink "FoldedMonths$Diary" 22 "FoldedMonths$Diary" "row" "[I" ∈ GW := gt_1 (i := 43) rfl rfl
theorem mw_1_44 : Cond.fieldLink "FoldedMonths" 267 "FoldedMonths$Diary" "row" "[I" ∈ GW := gt_1 (i := 44) rfl rfl
theorem mw_1_45 : Cond.lays "FoldedMonths$Diary" "FoldedMonths$Diary" "today" "I" ∈ GW := gt_1 (i := 45) rfl rfl
theorem mw_1_47 : Cond.lays "FoldedMonths$Diary" "FoldedMonths$Diary" "keep" "I" ∈ GW := gt_1 (i := 47) rfl rfl
theorem mw_1_49 : Cond.lays "FoldedMonths$Diary" "FoldedMonths$Diary" "open" "I" ∈ GW := gt_1 (i := 49) rfl rfl
theorem mw_1_51 : Cond.lays "FoldedMonths$Diary" "FoldedMonths$Diary" "work" "I" ∈ GW := gt_1 (i := 51) rfl rfl
theorem mw_1_53 : Cond.lays "FoldedMonths$Diary" "FoldedMonths$Diary" "unfoldings" "I" ∈ GW := gt_1 (i := 53) rfl rfl
theorem mw_1_55 : Cond.lays "FoldedMonths$Diary" "FoldedMonths$Diary" "foldings" "I" ∈ GW := gt_1 (i := 55) rfl rfl
theorem mw_1_57 : Cond.lays "FoldedMonths$Diary" "FoldedMonths$Diary" "rowLength" "I" ∈ GW := gt_1 (i := 57) rfl rfl
theorem mw_1_59 : Cond.laysFinal "FoldedMonths$Diary" "FoldedMonths$Diary" "bits" "[I" ∈ GW := gt_1 (i := 59) rfl rfl
theorem mw_1_61 : Cond.laysFinal "FoldedMonths$Diary" "FoldedMonths$Diary" "forms" "[I" ∈ GW := gt_1 (i := 61) rfl rfl
theorem mw_1_63 : Cond.laysFinal "FoldedMonths$Diary" "FoldedMonths$Diary" "names" "[I" ∈ GW := gt_1 (i := 63) rfl rfl
theorem mw_1_65 : Cond.laysFinal "FoldedMonths$Diary" "FoldedMonths$Diary" "row" "[I" ∈ GW := gt_1 (i := 65) rfl rfl
theorem mw_1_68 : Cond.arrayClass FieldType.int ∈ GW := gt_1 (i := 68) rfl rfl
theorem mw_1_70 : Cond.classLink "FoldedMonths" 26 "FoldedMonths$Pad" ∈ GW := gt_1 (i := 70) rfl rfl
theorem mw_1_71 : Cond.instantiable "FoldedMonths$Pad" 6 ∈ GW := gt_1 (i := 71) rfl rfl
theorem mw_1_72 : Cond.methodLink "FoldedMonths" 28 yX1_init ∈ GW := gt_1 (i := 72) rfl rfl
theorem mw_1_73 : Cond.instanceMethod yX1_init ∈ GW := gt_1 (i := 73) rfl rfl
theorem mw_1_74 : Cond.code yX1_init cX1_init 2 (Option.none : Option FieldType) ∈ GW := gt_1 (i := 74) rfl rfl
theorem mw_1_75 : Cond.methodLink "FoldedMonths$Pad" 3 objectInit ∈ GW := gt_1 (i := 75) rfl rfl
theorem mw_1_76 : Cond.classLink "FoldedMonths$Pad" 15 "FoldedMonths$Step" ∈ GW := gt_1 (i := 76) rfl rfl
theorem mw_1_78 : Cond.instantiable "FoldedMonths$Step" 5 ∈ GW := gt_1 (i := 78) rfl rfl
theorem mw_1_80 : Cond.instanceMethod yX2_init ∈ GW := gt_1 (i := 80) rfl rfl
theorem mw_1_81 : Cond.code yX2_init cX2_init 1 (Option.none : Option FieldType) ∈ GW := gt_1 (i := 81) rfl rfl
theorem mw_1_82 : Cond.methodLink "FoldedMonths$Step" 1 objectInit ∈ GW := gt_1 (i := 82) rfl rfl
theorem mw_1_83 : Cond.fieldLink "FoldedMonths$Pad" 71 "FoldedMonths$Step" "kind" "C" ∈ GW := gt_1 (i := 83) rfl rfl
theorem mw_1_84 : Cond.fieldLink "FoldedMonths" 230 "FoldedMonths$Step" "kind" "C" ∈ GW := gt_1 (i := 84) rfl rfl
theorem mw_1_85 : Cond.fieldLink "FoldedMonths$Pad" 75 "FoldedMonths$Step" "subject" "I" ∈ GW := gt_1 (i := 85) rfl rfl
theorem mw_1_86 : Cond.fieldLink "FoldedMonths" 237 "FoldedMonths$Step" "subject" "I" ∈ GW := gt_1 (i := 86) rfl rfl
theorem mw_1_87 : Cond.fieldLink "FoldedMonths$Pad" 78 "FoldedMonths$Step" "from" "I" ∈ GW := gt_1 (i := 87) rfl rfl
theorem mw_1_88 : Cond.fieldLink "FoldedMonths" 234 "FoldedMonths$Step" "from" "I" ∈ GW := gt_1 (i := 88) rfl rfl
theorem mw_1_89 : Cond.fieldLink "FoldedMonths$Pad" 81 "FoldedMonths$Step" "to" "I" ∈ GW := gt_1 (i := 89) rfl rfl
theorem mw_1_90 : Cond.fieldLink "FoldedMonths" 240 "FoldedMonths$Step" "to" "I" ∈ GW := gt_1 (i := 90) rfl rfl
theorem mw_1_91 : Cond.fieldLink "FoldedMonths$Pad" 84 "FoldedMonths$Step" "order" "I" ∈ GW := gt_1 (i := 91) rfl rfl
theorem mw_1_92 : Cond.fieldLink "FoldedMonths" 225 "FoldedMonths$Step" "order" "I" ∈ GW := gt_1 (i := 92) rfl rfl
theorem mw_1_93 : Cond.lays "FoldedMonths$Step" "FoldedMonths$Step" "kind" "C" ∈ GW := gt_1 (i := 93) rfl rfl
theorem mw_1_95 : Cond.lays "FoldedMonths$Step" "FoldedMonths$Step" "subject" "I" ∈ GW := gt_1 (i := 95) rfl rfl
theorem mw_1_97 : Cond.lays "FoldedMonths$Step" "FoldedMonths$Step" "from" "I" ∈ GW := gt_1 (i := 97) rfl rfl
theorem mw_1_99 : Cond.lays "FoldedMonths$Step" "FoldedMonths$Step" "to" "I" ∈ GW := gt_1 (i := 99) rfl rfl
theorem mw_1_101 : Cond.lays "FoldedMonths$Step" "FoldedMonths$Step" "order" "I" ∈ GW := gt_1 (i := 101) rfl rfl
theorem mw_1_104 : Cond.arrayClass FieldType.char ∈ GW := gt_1 (i := 104) rfl rfl
theorem mw_1_105 : Cond.fieldLink "FoldedMonths$Pad" 9 "FoldedMonths$Pad" "signs" "[C" ∈ GW := gt_1 (i := 105) rfl rfl
theorem mw_1_106 : Cond.fieldLink "FoldedMonths$Pad" 17 "FoldedMonths$Pad" "steps" "[LFoldedMonths$Step;" ∈ GW := gt_1 (i := 106) rfl rfl
theorem mw_1_107 : Cond.fieldLink "FoldedMonths$Pad" 22 "FoldedMonths$Pad" "length" "I" ∈ GW := gt_1 (i := 107) rfl rfl
theorem mw_1_108 : Cond.fieldLink "FoldedMonths" 183 "FoldedMonths$Pad" "length" "I" ∈ GW := gt_1 (i := 108) rfl rfl
theorem mw_1_109 : Cond.fieldLink "FoldedMonths$Pad" 28 "FoldedMonths$Pad" "place" "I" ∈ GW := gt_1 (i := 109) rfl rfl
theorem mw_1_110 : Cond.fieldLink "FoldedMonths$Pad" 31 "FoldedMonths$Pad" "stepsRead" "I" ∈ GW := gt_1 (i := 110) rfl rfl
theorem mw_1_111 : Cond.fieldLink "FoldedMonths" 214 "FoldedMonths$Pad" "stepsRead" "I" ∈ GW := gt_1 (i := 111) rfl rfl
theorem mw_1_112 : Cond.fieldLink "FoldedMonths$Pad" 34 "FoldedMonths$Pad" "orders" "I" ∈ GW := gt_1 (i := 112) rfl rfl
theorem mw_1_113 : Cond.fieldLink "FoldedMonths" 211 "FoldedMonths$Pad" "orders" "I" ∈ GW := gt_1 (i := 113) rfl rfl
theorem mw_1_114 : Cond.laysFinal "FoldedMonths$Pad" "FoldedMonths$Pad" "signs" "[C" ∈ GW := gt_1 (i := 114) rfl rfl
theorem mw_1_116 : Cond.laysFinal "FoldedMonths$Pad" "FoldedMonths$Pad" "steps" "[LFoldedMonths$Step;" ∈ GW := gt_1 (i := 116) rfl rfl
theorem mw_1_118 : Cond.lays "FoldedMonths$Pad" "FoldedMonths$Pad" "length" "I" ∈ GW := gt_1 (i := 118) rfl rfl
theorem mw_1_120 : Cond.lays "FoldedMonths$Pad" "FoldedMonths$Pad" "place" "I" ∈ GW := gt_1 (i := 120) rfl rfl
theorem mw_1_122 : Cond.lays "FoldedMonths$Pad" "FoldedMonths$Pad" "stepsRead" "I" ∈ GW := gt_1 (i := 122) rfl rfl
theorem mw_1_124 : Cond.lays "FoldedMonths$Pad" "FoldedMonths$Pad" "orders" "I" ∈ GW := gt_1 (i := 124) rfl rfl
theorem mw_1_127 : Cond.fieldLink "FoldedMonths" 12 "FoldedMonths" "diary" "LFoldedMonths$Diary;" ∈ GW := gt_1 (i := 127) rfl rfl
theorem mw_1_128 : Cond.fieldLink "FoldedMonths" 16 "FoldedMonths" "trial" "LFoldedMonths$Diary;" ∈ GW := gt_1 (i := 128) rfl rfl
theorem mw_1_129 : Cond.fieldLink "FoldedMonths" 19 "FoldedMonths" "history" "[LFoldedMonths$Diary;" ∈ GW := gt_1 (i := 129) rfl rfl
theorem mw_1_130 : Cond.fieldLink "FoldedMonths" 23 "FoldedMonths" "slots" "[LFoldedMonths$Diary;" ∈ GW := gt_1 (i := 130) rfl rfl
theorem mw_1_131 : Cond.fieldLink "FoldedMonths" 29 "FoldedMonths" "pad" "LFoldedMonths$Pad;" ∈ GW := gt_1 (i := 131) rfl rfl
theorem mw_1_132 : Cond.fieldLink "FoldedMonths" 186 "FoldedMonths" "historyLength" "I" ∈ GW := gt_1 (i := 132) rfl rfl
theorem mw_1_133 : Cond.fieldLink "FoldedMonths" 247 "FoldedMonths" "savedSlots" "I" ∈ GW := gt_1 (i := 133) rfl rfl
theorem mw_1_134 : Cond.laysFinal "FoldedMonths" "FoldedMonths" "diary" "LFoldedMonths$Diary;" ∈ GW := gt_1 (i := 134) rfl rfl
theorem mw_1_136 : Cond.laysFinal "FoldedMonths" "FoldedMonths" "trial" "LFoldedMonths$Diary;" ∈ GW := gt_1 (i := 136) rfl rfl
theorem mw_1_138 : Cond.laysFinal "FoldedMonths" "FoldedMonths" "history" "[LFoldedMonths$Diary;" ∈ GW := gt_1 (i := 138) rfl rfl
theorem mw_1_140 : Cond.laysFinal "FoldedMonths" "FoldedMonths" "slots" "[LFoldedMonths$Diary;" ∈ GW := gt_1 (i := 140) rfl rfl
theorem mw_1_142 : Cond.laysFinal "FoldedMonths" "FoldedMonths" "pad" "LFoldedMonths$Pad;" ∈ GW := gt_1 (i := 142) rfl rfl
theorem mw_1_144 : Cond.lays "FoldedMonths" "FoldedMonths" "historyLength" "I" ∈ GW := gt_1 (i := 144) rfl rfl
theorem mw_1_146 : Cond.lays "FoldedMonths" "FoldedMonths" "savedSlots" "I" ∈ GW := gt_1 (i := 146) rfl rfl
theorem mw_1_149 : Cond.methodLink "FoldedMonthsLaw" 13 yX3_set ∈ GW := gt_1 (i := 149) rfl rfl
theorem mw_1_150 : Cond.instanceMethod yX3_set ∈ GW := gt_1 (i := 150) rfl rfl
theorem mw_1_151 : Cond.selects "FoldedMonths" yX3_set yX3_set ∈ GW := gt_1 (i := 151) rfl rfl
theorem mw_1_152 : Cond.code yX3_set cX3_set 3 (Option.some FieldType.int) ∈ GW := gt_1 (i := 152) rfl rfl
theorem mw_1_153 : Cond.methodLink "FoldedMonths" 33 yX3_changeKeep ∈ GW := gt_1 (i := 153) rfl rfl
theorem mw_1_155 : Cond.instanceMethod yX3_changeKeep ∈ GW := gt_1 (i := 155) rfl rfl
theorem mw_1_156 : Cond.code yX3_changeKeep cX3_changeKeep 3 (Option.some FieldType.int) ∈ GW := gt_1 (i := 156) rfl rfl
theorem mw_1_157 : Cond.methodLink "FoldedMonths" 44 yX3_record ∈ GW := gt_1 (i := 157) rfl rfl
theorem mw_1_159 : Cond.instanceMethod yX3_record ∈ GW := gt_1 (i := 159) rfl rfl
theorem mw_1_160 : Cond.code yX3_record cX3_record 1 (Option.none : Option FieldType) ∈ GW := gt_1 (i := 160) rfl rfl
theorem mw_1_161 : Cond.methodLink "FoldedMonths" 250 yX3_moveOldestToTheEnd ∈ GW := gt_1 (i := 161) rfl rfl
theorem mw_1_163 : Cond.instanceMethod yX3_moveOldestToTheEnd ∈ GW := gt_1 (i := 163) rfl rfl
theorem mw_1_164 : Cond.code yX3_moveOldestToTheEnd cX3_moveOldestToTheEnd 3 (Option.none : Option FieldType) ∈ GW := gt_1 (i := 164) rfl rfl
theorem mw_1_165 : Cond.methodLink "FoldedMonths" 243 yX3_stateAt ∈ GW := gt_1 (i := 165) rfl rfl
theorem mw_1_166 : Cond.static yX3_stateAt ∈ GW := gt_1 (i := 166) rfl rfl
theorem mw_1_167 : Cond.code yX3_stateAt cX3_stateAt 2 (Option.some (FieldType.object "FoldedMonths$Diary")) ∈ GW := gt_1 (i := 167) rfl rfl
theorem mw_1_168 : Cond.methodLink "FoldedMonths" 195 yX3_copy ∈ GW := gt_1 (i := 168) rfl rfl
theorem mw_1_169 : Cond.static yX3_copy ∈ GW := gt_1 (i := 169) rfl rfl
theorem mw_1_170 : Cond.code yX3_copy cX3_copy 2 (Option.none : Option FieldType) ∈ GW := gt_1 (i := 170) rfl rfl
theorem mw_1_171 : Cond.methodLink "FoldedMonths" 257 yX3_copyNumbers ∈ GW := gt_1 (i := 171) rfl rfl
theorem mw_1_172 : Cond.static yX3_copyNumbers ∈ GW := gt_1 (i := 172) rfl rfl
theorem mw_1_173 : Cond.code yX3_copyNumbers cX3_copyNumbers 2 (Option.none : Option FieldType) ∈ GW := gt_1 (i := 173) rfl rfl
theorem mw_1_174 : Cond.methodLink "FoldedMonths" 270 yJ9_min_7cf53 ∈ GW := gt_1 (i := 174) rfl rfl
theorem mw_1_175 : Cond.static yJ9_min_7cf53 ∈ GW := gt_1 (i := 175) rfl rfl
theorem mw_1_176 : Cond.code yJ9_min_7cf53 cJ9_min_7cf53 2 (Option.some FieldType.int) ∈ GW := gt_1 (i := 176) rfl rfl
theorem mw_1_177 : Cond.methodLink "FoldedMonths" 273 (⟨"java/lang/System", "arraycopy", "(Ljava/lang/Object;ILjava/lang/Object;II)V"⟩ : MethodName) ∈ GW := gt_1 (i := 177) rfl rfl
theorem mw_1_178 : Cond.static (⟨"java/lang/System", "arraycopy", "(Ljava/lang/Object;ILjava/lang/Object;II)V"⟩ : MethodName) ∈ GW := gt_1 (i := 178) rfl rfl
theorem mw_1_179 : Cond.native (⟨"java/lang/System", "arraycopy", "(Ljava/lang/Object;ILjava/lang/Object;II)V"⟩ : MethodName) ∈ GW := gt_1 (i := 179) rfl rfl
theorem mw_1_180 : Cond.methodLink "FoldedMonths" 37 yX3_changeOpen ∈ GW := gt_1 (i := 180) rfl rfl
theorem mw_1_182 : Cond.instanceMethod yX3_changeOpen ∈ GW := gt_1 (i := 182) rfl rfl
theorem mw_1_183 : Cond.code yX3_changeOpen cX3_changeOpen 3 (Option.some FieldType.int) ∈ GW := gt_1 (i := 183) rfl rfl
theorem mw_1_184 : Cond.methodLink "FoldedMonths" 53 yX0_foldSurplus ∈ GW := gt_1 (i := 184) rfl rfl
theorem mw_1_185 : Cond.instanceMethod yX0_foldSurplus ∈ GW := gt_1 (i := 185) rfl rfl
theorem mw_1_186 : Cond.selects "FoldedMonths$Diary" yX0_foldSurplus yX0_foldSurplus ∈ GW := gt_1 (i := 186) rfl rfl
theorem mw_1_187 : Cond.code yX0_foldSurplus cX0_foldSurplus 3 (Option.none : Option FieldType) ∈ GW := gt_1 (i := 187) rfl rfl
theorem mw_1_188 : Cond.methodLink "FoldedMonths$Diary" 114 yX0_fold ∈ GW := gt_1 (i := 188) rfl rfl
theorem mw_1_189 : Cond.instanceMethod yX0_fold ∈ GW := gt_1 (i := 189) rfl rfl
theorem mw_1_190 : Cond.selects "FoldedMonths$Diary" yX0_fold yX0_fold ∈ GW := gt_1 (i := 190) rfl rfl
theorem mw_1_191 : Cond.code yX0_fold cX0_fold 8 (Option.none : Option FieldType) ∈ GW := gt_1 (i := 191) rfl rfl
theorem mw_1_193 : Cond.static yX3_isMonth ∈ GW := gt_1 (i := 193) rfl rfl
theorem mw_1_194 : Cond.code yX3_isMonth cX3_isMonth 1 (Option.some FieldType.boolean) ∈ GW := gt_1 (i := 194) rfl rfl
theorem mw_1_195 : Cond.methodLink "FoldedMonths$Diary" 92 yX0_twinOf ∈ GW := gt_1 (i := 195) rfl rfl
theorem mw_1_196 : Cond.instanceMethod yX0_twinOf ∈ GW := gt_1 (i := 196) rfl rfl
theorem mw_1_197 : Cond.selects "FoldedMonths$Diary" yX0_twinOf yX0_twinOf ∈ GW := gt_1 (i := 197) rfl rfl
theorem mw_1_198 : Cond.code yX0_twinOf cX0_twinOf 6 (Option.some FieldType.int) ∈ GW := gt_1 (i := 198) rfl rfl
theorem mw_1_199 : Cond.methodLink "FoldedMonths$Diary" 89 yX0_hasSameMarks ∈ GW := gt_1 (i := 199) rfl rfl
theorem mw_1_200 : Cond.instanceMethod yX0_hasSameMarks ∈ GW := gt_1 (i := 200) rfl rfl
theorem mw_1_201 : Cond.selects "FoldedMonths$Diary" yX0_hasSameMarks yX0_hasSameMarks ∈ GW := gt_1 (i := 201) rfl rfl
theorem mw_1_202 : Cond.code yX0_hasSameMarks cX0_hasSameMarks 4 (Option.some FieldType.boolean) ∈ GW := gt_1 (i := 202) rfl rfl
theorem mw_1_203 : Cond.methodLink "FoldedMonths$Diary" 35 yX0_bitsOf ∈ GW := gt_1 (i := 203) rfl rfl
theorem mw_1_204 : Cond.instanceMethod yX0_bitsOf ∈ GW := gt_1 (i := 204) rfl rfl
theorem mw_1_205 : Cond.selects "FoldedMonths$Diary" yX0_bitsOf yX0_bitsOf ∈ GW := gt_1 (i := 205) rfl rfl
theorem mw_1_206 : Cond.code yX0_bitsOf cX0_bitsOf 4 (Option.some FieldType.int) ∈ GW := gt_1 (i := 206) rfl rfl
theorem mw_1_207 : Cond.methodLink "FoldedMonths$Diary" 79 yX0_sizeIn ∈ GW := gt_1 (i := 207) rfl rfl
theorem mw_1_208 : Cond.instanceMethod yX0_sizeIn ∈ GW := gt_1 (i := 208) rfl rfl
theorem mw_1_209 : Cond.selects "FoldedMonths$Diary" yX0_sizeIn yX0_sizeIn ∈ GW := gt_1 (i := 209) rfl rfl
theorem mw_1_210 : Cond.code yX0_sizeIn cX0_sizeIn 4 (Option.some FieldType.int) ∈ GW := gt_1 (i := 210) rfl rfl
theorem mw_1_211 : Cond.methodLink "FoldedMonths$Diary" 54 yX0_marksIn ∈ GW := gt_1 (i := 211) rfl rfl
theorem mw_1_212 : Cond.instanceMethod yX0_marksIn ∈ GW := gt_1 (i := 212) rfl rfl
theorem mw_1_213 : Cond.selects "FoldedMonths$Diary" yX0_marksIn yX0_marksIn ∈ GW := gt_1 (i := 213) rfl rfl
theorem mw_1_214 : Cond.code yX0_marksIn cX0_marksIn 4 (Option.some FieldType.int) ∈ GW := gt_1 (i := 214) rfl rfl
theorem mw_1_215 : Cond.methodLink "FoldedMonths$Diary" 46 yJ6_bitCount_0f7a4 ∈ GW := gt_1 (i := 215) rfl rfl
theorem mw_1_216 : Cond.static yJ6_bitCount_0f7a4 ∈ GW := gt_1 (i := 216) rfl rfl
theorem mw_1_217 : Cond.code yJ6_bitCount_0f7a4 cJ6_bitCount_0f7a4 1 (Option.some FieldType.int) ∈ GW := gt_1 (i := 217) rfl rfl
theorem mw_1_218 : Cond.constant "java/lang/Integer" 265 (1431655765 : Int32) ∈ GW := gt_1 (i := 218) rfl rfl
theorem mw_1_219 : Cond.constant "java/lang/Integer" 266 (858993459 : Int32) ∈ GW := gt_1 (i := 219) rfl rfl
theorem mw_1_220 : Cond.constant "java/lang/Integer" 267 (252645135 : Int32) ∈ GW := gt_1 (i := 220) rfl rfl
theorem mw_1_221 : Cond.methodLink "FoldedMonths$Diary" 86 yX0_runsIn ∈ GW := gt_1 (i := 221) rfl rfl
theorem mw_1_222 : Cond.instanceMethod yX0_runsIn ∈ GW := gt_1 (i := 222) rfl rfl
theorem mw_1_223 : Cond.selects "FoldedMonths$Diary" yX0_runsIn yX0_runsIn ∈ GW := gt_1 (i := 223) rfl rfl
theorem mw_1_224 : Cond.code yX0_runsIn cX0_runsIn 5 (Option.some FieldType.int) ∈ GW := gt_1 (i := 224) rfl rfl
theorem mw_1_225 : Cond.methodLink "FoldedMonths$Diary" 107 yX0_leaveRow ∈ GW := gt_1 (i := 225) rfl rfl
theorem mw_1_226 : Cond.instanceMethod yX0_leaveRow ∈ GW := gt_1 (i := 226) rfl rfl
theorem mw_1_227 : Cond.selects "FoldedMonths$Diary" yX0_leaveRow yX0_leaveRow ∈ GW := gt_1 (i := 227) rfl rfl
theorem mw_1_228 : Cond.code yX0_leaveRow cX0_leaveRow 3 (Option.none : Option FieldType) ∈ GW := gt_1 (i := 228) rfl rfl
theorem mw_1_229 : Cond.methodLink "FoldedMonths$Diary" 60 Lib.Math.max.name ∈ GW := gt_1 (i := 229) rfl rfl
theorem mw_1_230 : Cond.static Lib.Math.max.name ∈ GW := gt_1 (i := 230) rfl rfl
theorem mw_1_231 : Cond.code Lib.Math.max.name cJ9_max_7cf53 2 (Option.some FieldType.int) ∈ GW := gt_1 (i := 231) rfl rfl
theorem mw_1_232 : Cond.methodLink "FoldedMonthsLaw" 18 yX3_pass ∈ GW := gt_1 (i := 232) rfl rfl
theorem mw_1_233 : Cond.instanceMethod yX3_pass ∈ GW := gt_1 (i := 233) rfl rfl
theorem mw_1_234 : Cond.selects "FoldedMonths" yX3_pass yX3_pass ∈ GW := gt_1 (i := 234) rfl rfl
theorem mw_1_235 : Cond.code yX3_pass cX3_pass 3 (Option.some FieldType.int) ∈ GW := gt_1 (i := 235) rfl rfl
theorem mw_1_236 : Cond.methodLink "FoldedMonths" 56 yX3_passError ∈ GW := gt_1 (i := 236) rfl rfl
theorem mw_1_238 : Cond.instanceMethod yX3_passError ∈ GW := gt_1 (i := 238) rfl rfl
theorem mw_1_239 : Cond.code yX3_passError cX3_passError 2 (Option.some FieldType.int) ∈ GW := gt_1 (i := 239) rfl rfl
theorem mw_2_0 : Cond.methodLink "FoldedMonths" 59 yX0_advance ∈ GW := gt_2 (i := 0) rfl rfl
theorem mw_2_1 : Cond.instanceMethod yX0_advance ∈ GW := gt_2 (i := 1) rfl rfl
theorem mw_2_2 : Cond.selects "FoldedMonths$Diary" yX0_advance yX0_advance ∈ GW := gt_2 (i := 2) rfl rfl
theorem mw_2_3 : Cond.code yX0_advance cX0_advance 5 (Option.some FieldType.int) ∈ GW := gt_2 (i := 3) rfl rfl
theorem mw_2_4 : Cond.methodLink "FoldedMonths$Diary" 65 yX0_oldMonths ∈ GW := gt_2 (i := 4) rfl rfl
theorem mw_2_5 : Cond.instanceMethod yX0_oldMonths ∈ GW := gt_2 (i := 5) rfl rfl
theorem mw_2_6 : Cond.selects "FoldedMonths$Diary" yX0_oldMonths yX0_oldMonths ∈ GW := gt_2 (i := 6) rfl rfl
theorem mw_2_7 : Cond.code yX0_oldMonths cX0_oldMonths 1 (Option.some FieldType.int) ∈ GW := gt_2 (i := 7) rfl rfl
theorem mw_2_9 : Cond.static yX3_monthOf ∈ GW := gt_2 (i := 9) rfl rfl
theorem mw_2_10 : Cond.code yX3_monthOf cX3_monthOf 4 (Option.some FieldType.int) ∈ GW := gt_2 (i := 10) rfl rfl
theorem mw_2_11 : Cond.methodLink "FoldedMonths" 279 yX3_startInYear ∈ GW := gt_2 (i := 11) rfl rfl
theorem mw_2_12 : Cond.static yX3_startInYear ∈ GW := gt_2 (i := 12) rfl rfl
theorem mw_2_13 : Cond.code yX3_startInYear cX3_startInYear 1 (Option.some FieldType.int) ∈ GW := gt_2 (i := 13) rfl rfl
theorem mw_2_14 : Cond.fieldLink "FoldedMonths" 282 "FoldedMonths" "MONTH_STARTS" "[I" ∈ GW := gt_2 (i := 14) rfl rfl
theorem mw_2_16 : Cond.methodLink "FoldedMonthsLaw" 23 yX3_mark ∈ GW := gt_2 (i := 16) rfl rfl
theorem mw_2_17 : Cond.instanceMethod yX3_mark ∈ GW := gt_2 (i := 17) rfl rfl
theorem mw_2_18 : Cond.selects "FoldedMonths" yX3_mark yX3_mark ∈ GW := gt_2 (i := 18) rfl rfl
theorem mw_2_19 : Cond.code yX3_mark cX3_mark 4 (Option.some FieldType.int) ∈ GW := gt_2 (i := 19) rfl rfl
theorem mw_2_20 : Cond.methodLink "FoldedMonths" 62 yX3_changeDays ∈ GW := gt_2 (i := 20) rfl rfl
theorem mw_2_22 : Cond.instanceMethod yX3_changeDays ∈ GW := gt_2 (i := 22) rfl rfl
theorem mw_2_23 : Cond.code yX3_changeDays cX3_changeDays 6 (Option.some FieldType.int) ∈ GW := gt_2 (i := 23) rfl rfl
theorem mw_2_24 : Cond.methodLink "FoldedMonths" 66 yX3_changeError ∈ GW := gt_2 (i := 24) rfl rfl
theorem mw_2_26 : Cond.instanceMethod yX3_changeError ∈ GW := gt_2 (i := 26) rfl rfl
theorem mw_2_27 : Cond.code yX3_changeError cX3_changeError 5 (Option.some FieldType.int) ∈ GW := gt_2 (i := 27) rfl rfl
theorem mw_2_28 : Cond.methodLink "FoldedMonths" 73 yX3_subjectSpanError ∈ GW := gt_2 (i := 28) rfl rfl
theorem mw_2_29 : Cond.static yX3_subjectSpanError ∈ GW := gt_2 (i := 29) rfl rfl
theorem mw_2_30 : Cond.code yX3_subjectSpanError cX3_subjectSpanError 3 (Option.some FieldType.int) ∈ GW := gt_2 (i := 30) rfl rfl
theorem mw_2_31 : Cond.methodLink "FoldedMonths" 98 yX3_isSubject ∈ GW := gt_2 (i := 31) rfl rfl
theorem mw_2_32 : Cond.static yX3_isSubject ∈ GW := gt_2 (i := 32) rfl rfl
theorem mw_2_33 : Cond.code yX3_isSubject cX3_isSubject 1 (Option.some FieldType.boolean) ∈ GW := gt_2 (i := 33) rfl rfl
theorem mw_2_34 : Cond.methodLink "FoldedMonths" 116 yX3_spanError ∈ GW := gt_2 (i := 34) rfl rfl
theorem mw_2_35 : Cond.static yX3_spanError ∈ GW := gt_2 (i := 35) rfl rfl
theorem mw_2_36 : Cond.code yX3_spanError cX3_spanError 2 (Option.some FieldType.int) ∈ GW := gt_2 (i := 36) rfl rfl
theorem mw_2_37 : Cond.methodLink "FoldedMonths" 102 yX3_isDay ∈ GW := gt_2 (i := 37) rfl rfl
theorem mw_2_38 : Cond.static yX3_isDay ∈ GW := gt_2 (i := 38) rfl rfl
theorem mw_2_39 : Cond.code yX3_isDay cX3_isDay 1 (Option.some FieldType.boolean) ∈ GW := gt_2 (i := 39) rfl rfl
theorem mw_2_40 : Cond.methodLink "FoldedMonths" 70 yX0_writeDays ∈ GW := gt_2 (i := 40) rfl rfl
theorem mw_2_41 : Cond.instanceMethod yX0_writeDays ∈ GW := gt_2 (i := 41) rfl rfl
theorem mw_2_42 : Cond.selects "FoldedMonths$Diary" yX0_writeDays yX0_writeDays ∈ GW := gt_2 (i := 42) rfl rfl
theorem mw_2_43 : Cond.code yX0_writeDays cX0_writeDays 10 (Option.some FieldType.int) ∈ GW := gt_2 (i := 43) rfl rfl
theorem mw_2_45 : Cond.static yX3_daysMeant ∈ GW := gt_2 (i := 45) rfl rfl
theorem mw_2_46 : Cond.code yX3_daysMeant cX3_daysMeant 6 (Option.some FieldType.int) ∈ GW := gt_2 (i := 46) rfl rfl
theorem mw_2_47 : Cond.methodLink "FoldedMonths" 105 yX3_firstDayOf ∈ GW := gt_2 (i := 47) rfl rfl
theorem mw_2_48 : Cond.static yX3_firstDayOf ∈ GW := gt_2 (i := 48) rfl rfl
theorem mw_2_49 : Cond.code yX3_firstDayOf cX3_firstDayOf 1 (Option.some FieldType.int) ∈ GW := gt_2 (i := 49) rfl rfl
theorem mw_2_50 : Cond.methodLink "FoldedMonths" 132 Lib.Math.max.name ∈ GW := gt_2 (i := 50) rfl rfl
theorem mw_2_51 : Cond.methodLink "FoldedMonths" 129 yX3_daysOf ∈ GW := gt_2 (i := 51) rfl rfl
theorem mw_2_52 : Cond.static yX3_daysOf ∈ GW := gt_2 (i := 52) rfl rfl
theorem mw_2_53 : Cond.code yX3_daysOf cX3_daysOf 2 (Option.some FieldType.int) ∈ GW := gt_2 (i := 53) rfl rfl
theorem mw_2_54 : Cond.methodLink "FoldedMonths" 285 yX3_lowestBits ∈ GW := gt_2 (i := 54) rfl rfl
theorem mw_2_55 : Cond.static yX3_lowestBits ∈ GW := gt_2 (i := 55) rfl rfl
theorem mw_2_56 : Cond.code yX3_lowestBits cX3_lowestBits 1 (Option.some FieldType.int) ∈ GW := gt_2 (i := 56) rfl rfl
theorem mw_2_57 : Cond.methodLink "FoldedMonths$Diary" 118 yX0_isOld ∈ GW := gt_2 (i := 57) rfl rfl
theorem mw_2_58 : Cond.instanceMethod yX0_isOld ∈ GW := gt_2 (i := 58) rfl rfl
theorem mw_2_59 : Cond.selects "FoldedMonths$Diary" yX0_isOld yX0_isOld ∈ GW := gt_2 (i := 59) rfl rfl
theorem mw_2_60 : Cond.code yX0_isOld cX0_isOld 2 (Option.some FieldType.boolean) ∈ GW := gt_2 (i := 60) rfl rfl
theorem mw_2_61 : Cond.methodLink "FoldedMonths$Diary" 133 yX0_foldNamersOf ∈ GW := gt_2 (i := 61) rfl rfl
theorem mw_2_62 : Cond.instanceMethod yX0_foldNamersOf ∈ GW := gt_2 (i := 62) rfl rfl
theorem mw_2_63 : Cond.selects "FoldedMonths$Diary" yX0_foldNamersOf yX0_foldNamersOf ∈ GW := gt_2 (i := 63) rfl rfl
theorem mw_2_64 : Cond.code yX0_foldNamersOf cX0_foldNamersOf 3 (Option.none : Option FieldType) ∈ GW := gt_2 (i := 64) rfl rfl
theorem mw_2_65 : Cond.methodLink "FoldedMonths$Diary" 76 yX0_namedBy ∈ GW := gt_2 (i := 65) rfl rfl
theorem mw_2_66 : Cond.instanceMethod yX0_namedBy ∈ GW := gt_2 (i := 66) rfl rfl
theorem mw_2_67 : Cond.selects "FoldedMonths$Diary" yX0_namedBy yX0_namedBy ∈ GW := gt_2 (i := 67) rfl rfl
theorem mw_2_68 : Cond.code yX0_namedBy cX0_namedBy 2 (Option.some FieldType.int) ∈ GW := gt_2 (i := 68) rfl rfl
theorem mw_2_69 : Cond.methodLink "FoldedMonths$Diary" 121 yX0_bringToTheEnd ∈ GW := gt_2 (i := 69) rfl rfl
theorem mw_2_70 : Cond.instanceMethod yX0_bringToTheEnd ∈ GW := gt_2 (i := 70) rfl rfl
theorem mw_2_71 : Cond.selects "FoldedMonths$Diary" yX0_bringToTheEnd yX0_bringToTheEnd ∈ GW := gt_2 (i := 71) rfl rfl
theorem mw_2_72 : Cond.code yX0_bringToTheEnd cX0_bringToTheEnd 3 (Option.none : Option FieldType) ∈ GW := gt_2 (i := 72) rfl rfl
theorem mw_2_73 : Cond.methodLink "FoldedMonths$Diary" 104 yX0_placeInRow ∈ GW := gt_2 (i := 73) rfl rfl
theorem mw_2_74 : Cond.instanceMethod yX0_placeInRow ∈ GW := gt_2 (i := 74) rfl rfl
theorem mw_2_75 : Cond.selects "FoldedMonths$Diary" yX0_placeInRow yX0_placeInRow ∈ GW := gt_2 (i := 75) rfl rfl
theorem mw_2_76 : Cond.code yX0_placeInRow cX0_placeInRow 3 (Option.some FieldType.int) ∈ GW := gt_2 (i := 76) rfl rfl
theorem mw_2_77 : Cond.methodLink "FoldedMonths$Diary" 83 yX0_sizeOf ∈ GW := gt_2 (i := 77) rfl rfl
theorem mw_2_78 : Cond.instanceMethod yX0_sizeOf ∈ GW := gt_2 (i := 78) rfl rfl
theorem mw_2_79 : Cond.selects "FoldedMonths$Diary" yX0_sizeOf yX0_sizeOf ∈ GW := gt_2 (i := 79) rfl rfl
theorem mw_2_80 : Cond.code yX0_sizeOf cX0_sizeOf 2 (Option.some FieldType.int) ∈ GW := gt_2 (i := 80) rfl rfl
theorem mw_2_81 : Cond.methodLink "FoldedMonths$Diary" 73 yX0_formOf ∈ GW := gt_2 (i := 81) rfl rfl
theorem mw_2_82 : Cond.instanceMethod yX0_formOf ∈ GW := gt_2 (i := 82) rfl rfl
theorem mw_2_83 : Cond.selects "FoldedMonths$Diary" yX0_formOf yX0_formOf ∈ GW := gt_2 (i := 83) rfl rfl
theorem mw_2_84 : Cond.code yX0_formOf cX0_formOf 2 (Option.some FieldType.int) ∈ GW := gt_2 (i := 84) rfl rfl
theorem mw_2_85 : Cond.methodLink "FoldedMonths$Diary" 136 yX0_writeBits ∈ GW := gt_2 (i := 85) rfl rfl
theorem mw_2_86 : Cond.instanceMethod yX0_writeBits ∈ GW := gt_2 (i := 86) rfl rfl
theorem mw_2_87 : Cond.selects "FoldedMonths$Diary" yX0_writeBits yX0_writeBits ∈ GW := gt_2 (i := 87) rfl rfl
theorem mw_2_88 : Cond.code yX0_writeBits cX0_writeBits 5 (Option.none : Option FieldType) ∈ GW := gt_2 (i := 88) rfl rfl
theorem mw_2_89 : Cond.methodLink "FoldedMonths$Diary" 124 yX0_foldSurplus ∈ GW := gt_2 (i := 89) rfl rfl
theorem mw_2_90 : Cond.methodLink "FoldedMonthsLaw" 28 yX3_clear ∈ GW := gt_2 (i := 90) rfl rfl
theorem mw_2_91 : Cond.instanceMethod yX3_clear ∈ GW := gt_2 (i := 91) rfl rfl
theorem mw_2_92 : Cond.selects "FoldedMonths" yX3_clear yX3_clear ∈ GW := gt_2 (i := 92) rfl rfl
theorem mw_2_93 : Cond.code yX3_clear cX3_clear 4 (Option.some FieldType.int) ∈ GW := gt_2 (i := 93) rfl rfl
theorem mw_2_94 : Cond.methodLink "FoldedMonthsLaw" 32 yX3_marks ∈ GW := gt_2 (i := 94) rfl rfl
theorem mw_2_95 : Cond.instanceMethod yX3_marks ∈ GW := gt_2 (i := 95) rfl rfl
theorem mw_2_96 : Cond.selects "FoldedMonths" yX3_marks yX3_marks ∈ GW := gt_2 (i := 96) rfl rfl
theorem mw_2_97 : Cond.code yX3_marks cX3_marks 9 (Option.some FieldType.int) ∈ GW := gt_2 (i := 97) rfl rfl
theorem mw_2_98 : Cond.methodLink "FoldedMonths" 76 yX3_monthOf ∈ GW := gt_2 (i := 98) rfl rfl
theorem mw_2_99 : Cond.methodLink "FoldedMonths" 79 yX3_daysMeant ∈ GW := gt_2 (i := 99) rfl rfl
theorem mw_2_100 : Cond.methodLink "FoldedMonths" 82 yX3_allDays ∈ GW := gt_2 (i := 100) rfl rfl
theorem mw_2_101 : Cond.static yX3_allDays ∈ GW := gt_2 (i := 101) rfl rfl
theorem mw_2_102 : Cond.code yX3_allDays cX3_allDays 1 (Option.some FieldType.int) ∈ GW := gt_2 (i := 102) rfl rfl
theorem mw_2_103 : Cond.methodLink "FoldedMonths" 85 yX0_lookAt ∈ GW := gt_2 (i := 103) rfl rfl
theorem mw_2_104 : Cond.instanceMethod yX0_lookAt ∈ GW := gt_2 (i := 104) rfl rfl
theorem mw_2_105 : Cond.selects "FoldedMonths$Diary" yX0_lookAt yX0_lookAt ∈ GW := gt_2 (i := 105) rfl rfl
theorem mw_2_106 : Cond.code yX0_lookAt cX0_lookAt 2 (Option.none : Option FieldType) ∈ GW := gt_2 (i := 106) rfl rfl
theorem mw_2_107 : Cond.methodLink "FoldedMonths" 89 yX0_bitsOf ∈ GW := gt_2 (i := 107) rfl rfl
theorem mw_2_108 : Cond.methodLink "FoldedMonths" 93 yJ6_bitCount_0f7a4 ∈ GW := gt_2 (i := 108) rfl rfl
theorem mw_2_109 : Cond.methodLink "FoldedMonthsLaw" 36 yX3_isMarked ∈ GW := gt_2 (i := 109) rfl rfl
theorem mw_2_110 : Cond.instanceMethod yX3_isMarked ∈ GW := gt_2 (i := 110) rfl rfl
theorem mw_2_111 : Cond.selects "FoldedMonths" yX3_isMarked yX3_isMarked ∈ GW := gt_2 (i := 111) rfl rfl
theorem mw_2_112 : Cond.code yX3_isMarked cX3_isMarked 4 (Option.some FieldType.int) ∈ GW := gt_2 (i := 112) rfl rfl
theorem mw_2_113 : Cond.methodLink "FoldedMonths" 108 yX3_isBitSet ∈ GW := gt_2 (i := 113) rfl rfl
theorem mw_2_114 : Cond.static yX3_isBitSet ∈ GW := gt_2 (i := 114) rfl rfl
theorem mw_2_115 : Cond.code yX3_isBitSet cX3_isBitSet 2 (Option.some FieldType.boolean) ∈ GW := gt_2 (i := 115) rfl rfl
theorem mw_2_116 : Cond.methodLink "FoldedMonthsLaw" 40 yX3_both ∈ GW := gt_2 (i := 116) rfl rfl
theorem mw_2_117 : Cond.instanceMethod yX3_both ∈ GW := gt_2 (i := 117) rfl rfl
theorem mw_2_118 : Cond.selects "FoldedMonths" yX3_both yX3_both ∈ GW := gt_2 (i := 118) rfl rfl
theorem mw_2_119 : Cond.code yX3_both cX3_both 10 (Option.some FieldType.int) ∈ GW := gt_2 (i := 119) rfl rfl
theorem mw_2_120 : Cond.methodLink "FoldedMonths" 112 yX0_lookAtMonths ∈ GW := gt_2 (i := 120) rfl rfl
theorem mw_2_121 : Cond.instanceMethod yX0_lookAtMonths ∈ GW := gt_2 (i := 121) rfl rfl
theorem mw_2_122 : Cond.selects "FoldedMonths$Diary" yX0_lookAtMonths yX0_lookAtMonths ∈ GW := gt_2 (i := 122) rfl rfl
theorem mw_2_123 : Cond.code yX0_lookAtMonths cX0_lookAtMonths 5 (Option.none : Option FieldType) ∈ GW := gt_2 (i := 123) rfl rfl
theorem mw_2_124 : Cond.methodLink "FoldedMonths$Diary" 127 yX0_lookAt ∈ GW := gt_2 (i := 124) rfl rfl
theorem mw_2_125 : Cond.methodLink "FoldedMonthsLaw" 45 yX3_crowded ∈ GW := gt_2 (i := 125) rfl rfl
theorem mw_2_126 : Cond.instanceMethod yX3_crowded ∈ GW := gt_2 (i := 126) rfl rfl
theorem mw_2_127 : Cond.selects "FoldedMonths" yX3_crowded yX3_crowded ∈ GW := gt_2 (i := 127) rfl rfl
theorem mw_2_128 : Cond.code yX3_crowded cX3_crowded 8 (Option.some FieldType.int) ∈ GW := gt_2 (i := 128) rfl rfl
theorem mw_2_129 : Cond.methodLink "FoldedMonths" 119 yX0_crowdedDays ∈ GW := gt_2 (i := 129) rfl rfl
theorem mw_2_130 : Cond.instanceMethod yX0_crowdedDays ∈ GW := gt_2 (i := 130) rfl rfl
theorem mw_2_131 : Cond.selects "FoldedMonths$Diary" yX0_crowdedDays yX0_crowdedDays ∈ GW := gt_2 (i := 131) rfl rfl
theorem mw_2_132 : Cond.code yX0_crowdedDays cX0_crowdedDays 6 (Option.some FieldType.int) ∈ GW := gt_2 (i := 132) rfl rfl
theorem mw_2_134 : Cond.methodLink "FoldedMonths$Diary" 51 yX0_subjectsOn ∈ GW := gt_2 (i := 134) rfl rfl
theorem mw_2_135 : Cond.instanceMethod yX0_subjectsOn ∈ GW := gt_2 (i := 135) rfl rfl
theorem mw_2_136 : Cond.selects "FoldedMonths$Diary" yX0_subjectsOn yX0_subjectsOn ∈ GW := gt_2 (i := 136) rfl rfl
theorem mw_2_137 : Cond.code yX0_subjectsOn cX0_subjectsOn 5 (Option.some FieldType.int) ∈ GW := gt_2 (i := 137) rfl rfl
theorem mw_2_138 : Cond.methodLink "FoldedMonthsLaw" 49 yX3_longest ∈ GW := gt_2 (i := 138) rfl rfl
theorem mw_2_139 : Cond.instanceMethod yX3_longest ∈ GW := gt_2 (i := 139) rfl rfl
theorem mw_2_140 : Cond.selects "FoldedMonths" yX3_longest yX3_longest ∈ GW := gt_2 (i := 140) rfl rfl
theorem mw_2_141 : Cond.code yX3_longest cX3_longest 10 (Option.some FieldType.int) ∈ GW := gt_2 (i := 141) rfl rfl
theorem mw_2_142 : Cond.methodLink "FoldedMonths" 122 yX0_lookAtMarkedMonths ∈ GW := gt_2 (i := 142) rfl rfl
theorem mw_2_143 : Cond.instanceMethod yX0_lookAtMarkedMonths ∈ GW := gt_2 (i := 143) rfl rfl
theorem mw_2_144 : Cond.selects "FoldedMonths$Diary" yX0_lookAtMarkedMonths yX0_lookAtMarkedMonths ∈ GW := gt_2 (i := 144) rfl rfl
theorem mw_2_145 : Cond.code yX0_lookAtMarkedMonths cX0_lookAtMarkedMonths 6 (Option.none : Option FieldType) ∈ GW := gt_2 (i := 145) rfl rfl
theorem mw_2_146 : Cond.methodLink "FoldedMonths" 126 yX0_isMarkedOn ∈ GW := gt_2 (i := 146) rfl rfl
theorem mw_2_147 : Cond.instanceMethod yX0_isMarkedOn ∈ GW := gt_2 (i := 147) rfl rfl
theorem mw_2_148 : Cond.selects "FoldedMonths$Diary" yX0_isMarkedOn yX0_isMarkedOn ∈ GW := gt_2 (i := 148) rfl rfl
theorem mw_2_149 : Cond.code yX0_isMarkedOn cX0_isMarkedOn 4 (Option.some FieldType.boolean) ∈ GW := gt_2 (i := 149) rfl rfl
theorem mw_2_151 : Cond.methodLink "FoldedMonthsLaw" 53 yX3_nextMark ∈ GW := gt_2 (i := 151) rfl rfl
theorem mw_2_152 : Cond.instanceMethod yX3_nextMark ∈ GW := gt_2 (i := 152) rfl rfl
theorem mw_2_153 : Cond.selects "FoldedMonths" yX3_nextMark yX3_nextMark ∈ GW := gt_2 (i := 153) rfl rfl
theorem mw_2_154 : Cond.code yX3_nextMark cX3_nextMark 6 (Option.some FieldType.int) ∈ GW := gt_2 (i := 154) rfl rfl
theorem mw_2_155 : Cond.methodLink "FoldedMonthsLaw" 57 yX3_ofMonth ∈ GW := gt_2 (i := 155) rfl rfl
theorem mw_2_156 : Cond.instanceMethod yX3_ofMonth ∈ GW := gt_2 (i := 156) rfl rfl
theorem mw_2_157 : Cond.selects "FoldedMonths" yX3_ofMonth yX3_ofMonth ∈ GW := gt_2 (i := 157) rfl rfl
theorem mw_2_158 : Cond.code yX3_ofMonth cX3_ofMonth 3 (Option.some FieldType.int) ∈ GW := gt_2 (i := 158) rfl rfl
theorem mw_2_159 : Cond.methodLink "FoldedMonths" 137 yX3_isMonth ∈ GW := gt_2 (i := 159) rfl rfl
theorem mw_2_160 : Cond.methodLink "FoldedMonths" 140 yX0_isOld ∈ GW := gt_2 (i := 160) rfl rfl
theorem mw_2_161 : Cond.methodLink "FoldedMonths" 143 yX0_placeInRow ∈ GW := gt_2 (i := 161) rfl rfl
theorem mw_2_162 : Cond.methodLink "FoldedMonths" 146 yX0_formOf ∈ GW := gt_2 (i := 162) rfl rfl
theorem mw_2_163 : Cond.methodLink "FoldedMonths" 149 yX0_sizeOf ∈ GW := gt_2 (i := 163) rfl rfl
theorem mw_2_164 : Cond.methodLink "FoldedMonths" 152 yX0_namedBy ∈ GW := gt_2 (i := 164) rfl rfl
theorem mw_2_165 : Cond.methodLink "FoldedMonths" 155 yX0_marksIn ∈ GW := gt_2 (i := 165) rfl rfl
theorem mw_2_166 : Cond.methodLink "FoldedMonths" 158 yX0_subjectsIn ∈ GW := gt_2 (i := 166) rfl rfl
theorem mw_2_167 : Cond.instanceMethod yX0_subjectsIn ∈ GW := gt_2 (i := 167) rfl rfl
theorem mw_2_168 : Cond.selects "FoldedMonths$Diary" yX0_subjectsIn yX0_subjectsIn ∈ GW := gt_2 (i := 168) rfl rfl
theorem mw_2_169 : Cond.code yX0_subjectsIn cX0_subjectsIn 4 (Option.some FieldType.int) ∈ GW := gt_2 (i := 169) rfl rfl
theorem mw_2_170 : Cond.methodLink "FoldedMonthsLaw" 61 yX3_inMonth ∈ GW := gt_2 (i := 170) rfl rfl
theorem mw_2_171 : Cond.instanceMethod yX3_inMonth ∈ GW := gt_2 (i := 171) rfl rfl
theorem mw_2_172 : Cond.selects "FoldedMonths" yX3_inMonth yX3_inMonth ∈ GW := gt_2 (i := 172) rfl rfl
theorem mw_2_173 : Cond.code yX3_inMonth cX3_inMonth 3 (Option.some FieldType.int) ∈ GW := gt_2 (i := 173) rfl rfl
theorem mw_2_174 : Cond.methodLink "FoldedMonthsLaw" 65 yX3_dayOf ∈ GW := gt_2 (i := 174) rfl rfl
theorem mw_2_175 : Cond.instanceMethod yX3_dayOf ∈ GW := gt_2 (i := 175) rfl rfl
theorem mw_2_176 : Cond.selects "FoldedMonths" yX3_dayOf yX3_dayOf ∈ GW := gt_2 (i := 176) rfl rfl
theorem mw_2_177 : Cond.code yX3_dayOf cX3_dayOf 5 (Option.some FieldType.int) ∈ GW := gt_2 (i := 177) rfl rfl
theorem mw_2_178 : Cond.methodLink "FoldedMonthsLaw" 69 yX3_dateOf ∈ GW := gt_2 (i := 178) rfl rfl
theorem mw_2_179 : Cond.instanceMethod yX3_dateOf ∈ GW := gt_2 (i := 179) rfl rfl
theorem mw_2_180 : Cond.selects "FoldedMonths" yX3_dateOf yX3_dateOf ∈ GW := gt_2 (i := 180) rfl rfl
theorem mw_2_181 : Cond.code yX3_dateOf cX3_dateOf 4 (Option.some FieldType.int) ∈ GW := gt_2 (i := 181) rfl rfl
theorem mw_2_182 : Cond.methodLink "FoldedMonthsLaw" 73 yX3_count ∈ GW := gt_2 (i := 182) rfl rfl
theorem mw_2_183 : Cond.instanceMethod yX3_count ∈ GW := gt_2 (i := 183) rfl rfl
theorem mw_2_184 : Cond.selects "FoldedMonths" yX3_count yX3_count ∈ GW := gt_2 (i := 184) rfl rfl
theorem mw_2_185 : Cond.code yX3_count cX3_count 2 (Option.some FieldType.int) ∈ GW := gt_2 (i := 185) rfl rfl
theorem mw_2_186 : Cond.methodLink "FoldedMonths" 161 yX0_oldMonths ∈ GW := gt_2 (i := 186) rfl rfl
theorem mw_2_187 : Cond.methodLink "FoldedMonths" 168 yX0_allSizes ∈ GW := gt_2 (i := 187) rfl rfl
theorem mw_2_188 : Cond.instanceMethod yX0_allSizes ∈ GW := gt_2 (i := 188) rfl rfl
theorem mw_2_189 : Cond.selects "FoldedMonths$Diary" yX0_allSizes yX0_allSizes ∈ GW := gt_2 (i := 189) rfl rfl
theorem mw_2_190 : Cond.code yX0_allSizes cX0_allSizes 4 (Option.some FieldType.int) ∈ GW := gt_2 (i := 190) rfl rfl
theorem mw_2_191 : Cond.methodLink "FoldedMonths" 180 yX0_allMarks ∈ GW := gt_2 (i := 191) rfl rfl
theorem mw_2_192 : Cond.instanceMethod yX0_allMarks ∈ GW := gt_2 (i := 192) rfl rfl
theorem mw_2_193 : Cond.selects "FoldedMonths$Diary" yX0_allMarks yX0_allMarks ∈ GW := gt_2 (i := 193) rfl rfl
theorem mw_2_194 : Cond.code yX0_allMarks cX0_allMarks 3 (Option.some FieldType.int) ∈ GW := gt_2 (i := 194) rfl rfl
theorem mw_2_195 : Cond.methodLink "FoldedMonthsLaw" 77 yX3_sizeAs ∈ GW := gt_2 (i := 195) rfl rfl
theorem mw_2_196 : Cond.instanceMethod yX3_sizeAs ∈ GW := gt_2 (i := 196) rfl rfl
theorem mw_2_197 : Cond.selects "FoldedMonths" yX3_sizeAs yX3_sizeAs ∈ GW := gt_2 (i := 197) rfl rfl
theorem mw_2_198 : Cond.code yX3_sizeAs cX3_sizeAs 3 (Option.some FieldType.int) ∈ GW := gt_2 (i := 198) rfl rfl
theorem mw_2_199 : Cond.methodLink "FoldedMonths" 189 yX0_twinOf ∈ GW := gt_2 (i := 199) rfl rfl
theorem mw_2_200 : Cond.methodLink "FoldedMonths" 192 yX0_sizeIn ∈ GW := gt_2 (i := 200) rfl rfl
theorem mw_2_201 : Cond.methodLink "FoldedMonthsLaw" 81 yX3_workOf ∈ GW := gt_2 (i := 201) rfl rfl
theorem mw_2_202 : Cond.instanceMethod yX3_workOf ∈ GW := gt_2 (i := 202) rfl rfl
theorem mw_2_203 : Cond.selects "FoldedMonths" yX3_workOf yX3_workOf ∈ GW := gt_2 (i := 203) rfl rfl
theorem mw_2_204 : Cond.code yX3_workOf cX3_workOf 4 (Option.some FieldType.int) ∈ GW := gt_2 (i := 204) rfl rfl
theorem mw_2_205 : Cond.methodLink "FoldedMonthsLaw" 85 yX3_bestOpen ∈ GW := gt_2 (i := 205) rfl rfl
theorem mw_2_206 : Cond.instanceMethod yX3_bestOpen ∈ GW := gt_2 (i := 206) rfl rfl
theorem mw_2_207 : Cond.selects "FoldedMonths" yX3_bestOpen yX3_bestOpen ∈ GW := gt_2 (i := 207) rfl rfl
theorem mw_2_208 : Cond.code yX3_bestOpen cX3_bestOpen 8 (Option.some FieldType.int) ∈ GW := gt_2 (i := 208) rfl rfl
theorem mw_2_209 : Cond.constant "FoldedMonths" 199 (2147483647 : Int32) ∈ GW := gt_2 (i := 209) rfl rfl
theorem mw_2_210 : Cond.methodLink "FoldedMonthsLaw" 91 yX3_put ∈ GW := gt_2 (i := 210) rfl rfl
theorem mw_2_211 : Cond.instanceMethod yX3_put ∈ GW := gt_2 (i := 211) rfl rfl
theorem mw_2_212 : Cond.selects "FoldedMonths" yX3_put yX3_put ∈ GW := gt_2 (i := 212) rfl rfl
theorem mw_2_213 : Cond.code yX3_put cX3_put 4 (Option.some FieldType.int) ∈ GW := gt_2 (i := 213) rfl rfl
theorem mw_2_214 : Cond.methodLink "FoldedMonths" 200 yX3_charactersIn ∈ GW := gt_2 (i := 214) rfl rfl
theorem mw_2_215 : Cond.static yX3_charactersIn ∈ GW := gt_2 (i := 215) rfl rfl
theorem mw_2_216 : Cond.code yX3_charactersIn cX3_charactersIn 6 (Option.some FieldType.int) ∈ GW := gt_2 (i := 216) rfl rfl
theorem mw_2_217 : Cond.constantLong "FoldedMonths" 288 (255 : Int64) ∈ GW := gt_2 (i := 217) rfl rfl
theorem mw_2_218 : Cond.methodLink "FoldedMonths" 204 yX1_append ∈ GW := gt_2 (i := 218) rfl rfl
theorem mw_2_219 : Cond.instanceMethod yX1_append ∈ GW := gt_2 (i := 219) rfl rfl
theorem mw_2_220 : Cond.selects "FoldedMonths$Pad" yX1_append yX1_append ∈ GW := gt_2 (i := 220) rfl rfl
theorem mw_2_221 : Cond.code yX1_append cX1_append 5 (Option.none : Option FieldType) ∈ GW := gt_2 (i := 221) rfl rfl
theorem mw_2_222 : Cond.constantLong "FoldedMonths$Pad" 26 (255 : Int64) ∈ GW := gt_2 (i := 222) rfl rfl
theorem mw_2_223 : Cond.methodLink "FoldedMonthsLaw" 96 yX3_wipe ∈ GW := gt_2 (i := 223) rfl rfl
theorem mw_2_224 : Cond.instanceMethod yX3_wipe ∈ GW := gt_2 (i := 224) rfl rfl
theorem mw_2_225 : Cond.selects "FoldedMonths" yX3_wipe yX3_wipe ∈ GW := gt_2 (i := 225) rfl rfl
theorem mw_2_226 : Cond.code yX3_wipe cX3_wipe 2 (Option.some FieldType.int) ∈ GW := gt_2 (i := 226) rfl rfl
theorem mw_2_227 : Cond.methodLink "FoldedMonthsLaw" 101 yX3_fault ∈ GW := gt_2 (i := 227) rfl rfl
theorem mw_2_228 : Cond.instanceMethod yX3_fault ∈ GW := gt_2 (i := 228) rfl rfl
theorem mw_2_229 : Cond.selects "FoldedMonths" yX3_fault yX3_fault ∈ GW := gt_2 (i := 229) rfl rfl
theorem mw_2_230 : Cond.code yX3_fault cX3_fault 1 (Option.some FieldType.int) ∈ GW := gt_2 (i := 230) rfl rfl
theorem mw_2_231 : Cond.methodLink "FoldedMonths" 208 yX1_readAll ∈ GW := gt_2 (i := 231) rfl rfl
theorem mw_2_232 : Cond.instanceMethod yX1_readAll ∈ GW := gt_2 (i := 232) rfl rfl
theorem mw_2_233 : Cond.selects "FoldedMonths$Pad" yX1_readAll yX1_readAll ∈ GW := gt_2 (i := 233) rfl rfl
theorem mw_2_234 : Cond.code yX1_readAll cX1_readAll 2 (Option.some FieldType.int) ∈ GW := gt_2 (i := 234) rfl rfl
theorem mw_2_235 : Cond.methodLink "FoldedMonths$Pad" 37 yX1_readOrder ∈ GW := gt_2 (i := 235) rfl rfl
theorem mw_2_236 : Cond.instanceMethod yX1_readOrder ∈ GW := gt_2 (i := 236) rfl rfl
theorem mw_2_237 : Cond.selects "FoldedMonths$Pad" yX1_readOrder yX1_readOrder ∈ GW := gt_2 (i := 237) rfl rfl
theorem mw_2_238 : Cond.code yX1_readOrder cX1_readOrder 4 (Option.some FieldType.boolean) ∈ GW := gt_2 (i := 238) rfl rfl
theorem mw_2_239 : Cond.methodLink "FoldedMonths$Pad" 41 yX1_take ∈ GW := gt_2 (i := 239) rfl rfl
theorem mw_3_0 : Cond.instanceMethod yX1_take ∈ GW := gt_3 (i := 0) rfl rfl
theorem mw_3_1 : Cond.selects "FoldedMonths$Pad" yX1_take yX1_take ∈ GW := gt_3 (i := 1) rfl rfl
theorem mw_3_2 : Cond.code yX1_take cX1_take 2 (Option.some FieldType.boolean) ∈ GW := gt_3 (i := 2) rfl rfl
theorem mw_3_3 : Cond.methodLink "FoldedMonths$Pad" 53 yX1_signHere ∈ GW := gt_3 (i := 3) rfl rfl
theorem mw_3_4 : Cond.instanceMethod yX1_signHere ∈ GW := gt_3 (i := 4) rfl rfl
theorem mw_3_5 : Cond.selects "FoldedMonths$Pad" yX1_signHere yX1_signHere ∈ GW := gt_3 (i := 5) rfl rfl
theorem mw_3_6 : Cond.code yX1_signHere cX1_signHere 2 (Option.some FieldType.char) ∈ GW := gt_3 (i := 6) rfl rfl
theorem mw_3_7 : Cond.methodLink "FoldedMonths$Pad" 45 yX1_readNumber ∈ GW := gt_3 (i := 7) rfl rfl
theorem mw_3_8 : Cond.instanceMethod yX1_readNumber ∈ GW := gt_3 (i := 8) rfl rfl
theorem mw_3_9 : Cond.selects "FoldedMonths$Pad" yX1_readNumber yX1_readNumber ∈ GW := gt_3 (i := 9) rfl rfl
theorem mw_3_10 : Cond.code yX1_readNumber cX1_readNumber 4 (Option.some FieldType.int) ∈ GW := gt_3 (i := 10) rfl rfl
theorem mw_3_11 : Cond.methodLink "FoldedMonths$Pad" 64 yX1_digitHere ∈ GW := gt_3 (i := 11) rfl rfl
theorem mw_3_12 : Cond.instanceMethod yX1_digitHere ∈ GW := gt_3 (i := 12) rfl rfl
theorem mw_3_13 : Cond.selects "FoldedMonths$Pad" yX1_digitHere yX1_digitHere ∈ GW := gt_3 (i := 13) rfl rfl
theorem mw_3_14 : Cond.code yX1_digitHere cX1_digitHere 2 (Option.some FieldType.int) ∈ GW := gt_3 (i := 14) rfl rfl
theorem mw_3_15 : Cond.methodLink "FoldedMonths$Pad" 49 yX1_addStep ∈ GW := gt_3 (i := 15) rfl rfl
theorem mw_3_16 : Cond.instanceMethod yX1_addStep ∈ GW := gt_3 (i := 16) rfl rfl
theorem mw_3_17 : Cond.selects "FoldedMonths$Pad" yX1_addStep yX1_addStep ∈ GW := gt_3 (i := 17) rfl rfl
theorem mw_3_18 : Cond.code yX1_addStep cX1_addStep 7 (Option.some FieldType.boolean) ∈ GW := gt_3 (i := 18) rfl rfl
theorem mw_3_19 : Cond.methodLink "FoldedMonths$Pad" 67 yX1_stepAt ∈ GW := gt_3 (i := 19) rfl rfl
theorem mw_3_20 : Cond.instanceMethod yX1_stepAt ∈ GW := gt_3 (i := 20) rfl rfl
theorem mw_3_21 : Cond.selects "FoldedMonths$Pad" yX1_stepAt yX1_stepAt ∈ GW := gt_3 (i := 21) rfl rfl
theorem mw_3_22 : Cond.code yX1_stepAt cX1_stepAt 2 (Option.some (FieldType.object "FoldedMonths$Step")) ∈ GW := gt_3 (i := 22) rfl rfl
theorem mw_3_24 : Cond.methodLink "FoldedMonths$Pad" 60 yX1_readRanges ∈ GW := gt_3 (i := 24) rfl rfl
theorem mw_3_25 : Cond.instanceMethod yX1_readRanges ∈ GW := gt_3 (i := 25) rfl rfl
theorem mw_3_26 : Cond.selects "FoldedMonths$Pad" yX1_readRanges yX1_readRanges ∈ GW := gt_3 (i := 26) rfl rfl
theorem mw_3_27 : Cond.code yX1_readRanges cX1_readRanges 7 (Option.some FieldType.boolean) ∈ GW := gt_3 (i := 27) rfl rfl
theorem mw_3_28 : Cond.methodLink "FoldedMonthsLaw" 105 yX3_carryOut ∈ GW := gt_3 (i := 28) rfl rfl
theorem mw_3_29 : Cond.instanceMethod yX3_carryOut ∈ GW := gt_3 (i := 29) rfl rfl
theorem mw_3_30 : Cond.selects "FoldedMonths" yX3_carryOut yX3_carryOut ∈ GW := gt_3 (i := 30) rfl rfl
theorem mw_3_31 : Cond.code yX3_carryOut cX3_carryOut 4 (Option.some FieldType.int) ∈ GW := gt_3 (i := 31) rfl rfl
theorem mw_3_32 : Cond.methodLink "FoldedMonths" 217 yX1_stepAt ∈ GW := gt_3 (i := 32) rfl rfl
theorem mw_3_33 : Cond.methodLink "FoldedMonths" 221 yX3_carryStep ∈ GW := gt_3 (i := 33) rfl rfl
theorem mw_3_35 : Cond.instanceMethod yX3_carryStep ∈ GW := gt_3 (i := 35) rfl rfl
theorem mw_3_36 : Cond.code yX3_carryStep cX3_carryStep 3 (Option.some FieldType.int) ∈ GW := gt_3 (i := 36) rfl rfl
theorem mw_3_37 : Cond.methodLink "FoldedMonthsLaw" 109 yX3_undo ∈ GW := gt_3 (i := 37) rfl rfl
theorem mw_3_38 : Cond.instanceMethod yX3_undo ∈ GW := gt_3 (i := 38) rfl rfl
theorem mw_3_39 : Cond.selects "FoldedMonths" yX3_undo yX3_undo ∈ GW := gt_3 (i := 39) rfl rfl
theorem mw_3_40 : Cond.code yX3_undo cX3_undo 1 (Option.some FieldType.int) ∈ GW := gt_3 (i := 40) rfl rfl
theorem mw_3_41 : Cond.methodLink "FoldedMonthsLaw" 113 yX3_save ∈ GW := gt_3 (i := 41) rfl rfl
theorem mw_3_42 : Cond.instanceMethod yX3_save ∈ GW := gt_3 (i := 42) rfl rfl
theorem mw_3_43 : Cond.selects "FoldedMonths" yX3_save yX3_save ∈ GW := gt_3 (i := 43) rfl rfl
theorem mw_3_44 : Cond.code yX3_save cX3_save 2 (Option.some FieldType.int) ∈ GW := gt_3 (i := 44) rfl rfl
theorem mw_3_45 : Cond.methodLink "FoldedMonthsLaw" 117 yX3_restore ∈ GW := gt_3 (i := 45) rfl rfl
theorem mw_3_46 : Cond.instanceMethod yX3_restore ∈ GW := gt_3 (i := 46) rfl rfl
theorem mw_3_47 : Cond.selects "FoldedMonths" yX3_restore yX3_restore ∈ GW := gt_3 (i := 47) rfl rfl
theorem mw_3_48 : Cond.code yX3_restore cX3_restore 2 (Option.some FieldType.int) ∈ GW := gt_3 (i := 48) rfl rfl
theorem mw_3_49 : Cond.classLink "FoldedMonthsLaw" 10 "FoldedMonthsModel" ∈ GW := gt_3 (i := 49) rfl rfl
theorem mw_3_50 : Cond.instantiable "FoldedMonthsModel" 10 ∈ GW := gt_3 (i := 50) rfl rfl
theorem mw_3_51 : Cond.methodLink "FoldedMonthsLaw" 12 yX4_init ∈ GW := gt_3 (i := 51) rfl rfl
theorem mw_3_52 : Cond.instanceMethod yX4_init ∈ GW := gt_3 (i := 52) rfl rfl
theorem mw_3_53 : Cond.code yX4_init cX4_init 3 (Option.none : Option FieldType) ∈ GW := gt_3 (i := 53) rfl rfl
theorem mw_3_54 : Cond.methodLink "FoldedMonthsModel" 1 objectInit ∈ GW := gt_3 (i := 54) rfl rfl
theorem mw_3_55 : Cond.fieldLink "FoldedMonthsModel" 7 "FoldedMonthsModel" "now" "[I" ∈ GW := gt_3 (i := 55) rfl rfl
theorem mw_3_56 : Cond.fieldLink "FoldedMonthsModel" 13 "FoldedMonthsModel" "trial" "[I" ∈ GW := gt_3 (i := 56) rfl rfl
theorem mw_3_57 : Cond.fieldLink "FoldedMonthsModel" 16 "FoldedMonthsModel" "history" "[I" ∈ GW := gt_3 (i := 57) rfl rfl
theorem mw_3_58 : Cond.fieldLink "FoldedMonthsModel" 107 "FoldedMonthsModel" "changes" "I" ∈ GW := gt_3 (i := 58) rfl rfl
theorem mw_3_59 : Cond.fieldLink "FoldedMonthsModel" 19 "FoldedMonthsModel" "kept" "[I" ∈ GW := gt_3 (i := 59) rfl rfl
theorem mw_3_60 : Cond.fieldLink "FoldedMonthsModel" 22 "FoldedMonthsModel" "isKept" "[Z" ∈ GW := gt_3 (i := 60) rfl rfl
theorem mw_3_61 : Cond.fieldLink "FoldedMonthsModel" 26 "FoldedMonthsModel" "pad" "[I" ∈ GW := gt_3 (i := 61) rfl rfl
theorem mw_3_62 : Cond.fieldLink "FoldedMonthsModel" 170 "FoldedMonthsModel" "size" "I" ∈ GW := gt_3 (i := 62) rfl rfl
theorem mw_3_63 : Cond.fieldLink "FoldedMonthsModel" 29 "FoldedMonthsModel" "firsts" "[I" ∈ GW := gt_3 (i := 63) rfl rfl
theorem mw_3_64 : Cond.fieldLink "FoldedMonthsModel" 185 "FoldedMonthsModel" "spot" "I" ∈ GW := gt_3 (i := 64) rfl rfl
theorem mw_3_65 : Cond.laysFinal "FoldedMonthsModel" "FoldedMonthsModel" "now" "[I" ∈ GW := gt_3 (i := 65) rfl rfl
theorem mw_3_67 : Cond.laysFinal "FoldedMonthsModel" "FoldedMonthsModel" "trial" "[I" ∈ GW := gt_3 (i := 67) rfl rfl
theorem mw_3_69 : Cond.laysFinal "FoldedMonthsModel" "FoldedMonthsModel" "history" "[I" ∈ GW := gt_3 (i := 69) rfl rfl
theorem mw_3_71 : Cond.lays "FoldedMonthsModel" "FoldedMonthsModel" "changes" "I" ∈ GW := gt_3 (i := 71) rfl rfl
theorem mw_3_73 : Cond.laysFinal "FoldedMonthsModel" "FoldedMonthsModel" "kept" "[I" ∈ GW := gt_3 (i := 73) rfl rfl
theorem mw_3_75 : Cond.laysFinal "FoldedMonthsModel" "FoldedMonthsModel" "isKept" "[Z" ∈ GW := gt_3 (i := 75) rfl rfl
theorem mw_3_77 : Cond.laysFinal "FoldedMonthsModel" "FoldedMonthsModel" "pad" "[I" ∈ GW := gt_3 (i := 77) rfl rfl
theorem mw_3_79 : Cond.lays "FoldedMonthsModel" "FoldedMonthsModel" "size" "I" ∈ GW := gt_3 (i := 79) rfl rfl
theorem mw_3_81 : Cond.laysFinal "FoldedMonthsModel" "FoldedMonthsModel" "firsts" "[I" ∈ GW := gt_3 (i := 81) rfl rfl
theorem mw_3_83 : Cond.lays "FoldedMonthsModel" "FoldedMonthsModel" "spot" "I" ∈ GW := gt_3 (i := 83) rfl rfl
theorem mw_3_86 : Cond.arrayClass FieldType.boolean ∈ GW := gt_3 (i := 86) rfl rfl
theorem mw_3_87 : Cond.methodLink "FoldedMonthsLaw" 17 yX4_set ∈ GW := gt_3 (i := 87) rfl rfl
theorem mw_3_88 : Cond.instanceMethod yX4_set ∈ GW := gt_3 (i := 88) rfl rfl
theorem mw_3_89 : Cond.selects "FoldedMonthsModel" yX4_set yX4_set ∈ GW := gt_3 (i := 89) rfl rfl
theorem mw_3_90 : Cond.code yX4_set cX4_set 5 (Option.some FieldType.int) ∈ GW := gt_3 (i := 90) rfl rfl
theorem mw_3_91 : Cond.constantLong "FoldedMonthsModel" 115 (12 : Int64) ∈ GW := gt_3 (i := 91) rfl rfl
theorem mw_3_92 : Cond.methodLink "FoldedMonthsModel" 34 yX4_in ∈ GW := gt_3 (i := 92) rfl rfl
theorem mw_3_93 : Cond.static yX4_in ∈ GW := gt_3 (i := 93) rfl rfl
theorem mw_3_94 : Cond.code yX4_in cX4_in 6 (Option.some FieldType.boolean) ∈ GW := gt_3 (i := 94) rfl rfl
theorem mw_3_95 : Cond.constantLong "FoldedMonthsModel" 117 (6 : Int64) ∈ GW := gt_3 (i := 95) rfl rfl
theorem mw_3_96 : Cond.methodLink "FoldedMonthsModel" 119 yX4_record ∈ GW := gt_3 (i := 96) rfl rfl
theorem mw_3_98 : Cond.instanceMethod yX4_record ∈ GW := gt_3 (i := 98) rfl rfl
theorem mw_3_99 : Cond.code yX4_record cX4_record 2 (Option.none : Option FieldType) ∈ GW := gt_3 (i := 99) rfl rfl
theorem mw_3_100 : Cond.methodLink "FoldedMonthsModel" 111 yX4_copyDiary ∈ GW := gt_3 (i := 100) rfl rfl
theorem mw_3_101 : Cond.static yX4_copyDiary ∈ GW := gt_3 (i := 101) rfl rfl
theorem mw_3_102 : Cond.code yX4_copyDiary cX4_copyDiary 5 (Option.none : Option FieldType) ∈ GW := gt_3 (i := 102) rfl rfl
theorem mw_3_103 : Cond.methodLink "FoldedMonthsModel" 103 yX4_foldAgain ∈ GW := gt_3 (i := 103) rfl rfl
theorem mw_3_104 : Cond.static yX4_foldAgain ∈ GW := gt_3 (i := 104) rfl rfl
theorem mw_3_105 : Cond.code yX4_foldAgain cX4_foldAgain 2 (Option.none : Option FieldType) ∈ GW := gt_3 (i := 105) rfl rfl
theorem mw_3_106 : Cond.methodLink "FoldedMonthsModel" 82 yX4_takeOut ∈ GW := gt_3 (i := 106) rfl rfl
theorem mw_3_107 : Cond.static yX4_takeOut ∈ GW := gt_3 (i := 107) rfl rfl
theorem mw_3_108 : Cond.code yX4_takeOut cX4_takeOut 3 (Option.none : Option FieldType) ∈ GW := gt_3 (i := 108) rfl rfl
theorem mw_3_109 : Cond.methodLink "FoldedMonthsModel" 86 yX4_fold ∈ GW := gt_3 (i := 109) rfl rfl
theorem mw_3_110 : Cond.static yX4_fold ∈ GW := gt_3 (i := 110) rfl rfl
theorem mw_3_111 : Cond.code yX4_fold cX4_fold 6 (Option.none : Option FieldType) ∈ GW := gt_3 (i := 111) rfl rfl
theorem mw_3_112 : Cond.methodLink "FoldedMonthsModel" 75 yX4_sizeIn ∈ GW := gt_3 (i := 112) rfl rfl
theorem mw_3_113 : Cond.static yX4_sizeIn ∈ GW := gt_3 (i := 113) rfl rfl
theorem mw_3_114 : Cond.code yX4_sizeIn cX4_sizeIn 5 (Option.some FieldType.int) ∈ GW := gt_3 (i := 114) rfl rfl
theorem mw_3_115 : Cond.methodLink "FoldedMonthsModel" 64 yX4_marksIn ∈ GW := gt_3 (i := 115) rfl rfl
theorem mw_3_116 : Cond.static yX4_marksIn ∈ GW := gt_3 (i := 116) rfl rfl
theorem mw_3_117 : Cond.code yX4_marksIn cX4_marksIn 4 (Option.some FieldType.int) ∈ GW := gt_3 (i := 117) rfl rfl
theorem mw_3_118 : Cond.methodLink "FoldedMonthsModel" 53 yX4_at ∈ GW := gt_3 (i := 118) rfl rfl
theorem mw_3_119 : Cond.static yX4_at ∈ GW := gt_3 (i := 119) rfl rfl
theorem mw_3_120 : Cond.code yX4_at cX4_at 2 (Option.some FieldType.int) ∈ GW := gt_3 (i := 120) rfl rfl
theorem mw_3_121 : Cond.methodLink "FoldedMonthsModel" 57 yX4_ones ∈ GW := gt_3 (i := 121) rfl rfl
theorem mw_3_122 : Cond.static yX4_ones ∈ GW := gt_3 (i := 122) rfl rfl
theorem mw_3_123 : Cond.code yX4_ones cX4_ones 3 (Option.some FieldType.int) ∈ GW := gt_3 (i := 123) rfl rfl
theorem mw_3_124 : Cond.methodLink "FoldedMonthsModel" 68 yX4_twin ∈ GW := gt_3 (i := 124) rfl rfl
theorem mw_3_125 : Cond.static yX4_twin ∈ GW := gt_3 (i := 125) rfl rfl
theorem mw_3_126 : Cond.code yX4_twin cX4_twin 5 (Option.some FieldType.int) ∈ GW := gt_3 (i := 126) rfl rfl
theorem mw_3_127 : Cond.methodLink "FoldedMonthsModel" 60 yX4_areAlike ∈ GW := gt_3 (i := 127) rfl rfl
theorem mw_3_128 : Cond.static yX4_areAlike ∈ GW := gt_3 (i := 128) rfl rfl
theorem mw_3_129 : Cond.code yX4_areAlike cX4_areAlike 5 (Option.some FieldType.boolean) ∈ GW := gt_3 (i := 129) rfl rfl
theorem mw_3_130 : Cond.methodLink "FoldedMonthsModel" 72 yX4_runsIn ∈ GW := gt_3 (i := 130) rfl rfl
theorem mw_3_131 : Cond.static yX4_runsIn ∈ GW := gt_3 (i := 131) rfl rfl
theorem mw_3_132 : Cond.code yX4_runsIn cX4_runsIn 5 (Option.some FieldType.int) ∈ GW := gt_3 (i := 132) rfl rfl
theorem mw_3_133 : Cond.methodLink "FoldedMonthsModel" 79 yX4_sizeOf ∈ GW := gt_3 (i := 133) rfl rfl
theorem mw_3_134 : Cond.static yX4_sizeOf ∈ GW := gt_3 (i := 134) rfl rfl
theorem mw_3_135 : Cond.code yX4_sizeOf cX4_sizeOf 3 (Option.some FieldType.int) ∈ GW := gt_3 (i := 135) rfl rfl
theorem mw_3_136 : Cond.methodLink "FoldedMonthsLaw" 22 yX4_pass ∈ GW := gt_3 (i := 136) rfl rfl
theorem mw_3_137 : Cond.instanceMethod yX4_pass ∈ GW := gt_3 (i := 137) rfl rfl
theorem mw_3_138 : Cond.selects "FoldedMonthsModel" yX4_pass yX4_pass ∈ GW := gt_3 (i := 138) rfl rfl
theorem mw_3_139 : Cond.code yX4_pass cX4_pass 3 (Option.some FieldType.int) ∈ GW := gt_3 (i := 139) rfl rfl
theorem mw_3_140 : Cond.methodLink "FoldedMonthsModel" 124 yX4_whyNotPass ∈ GW := gt_3 (i := 140) rfl rfl
theorem mw_3_142 : Cond.instanceMethod yX4_whyNotPass ∈ GW := gt_3 (i := 142) rfl rfl
theorem mw_3_143 : Cond.code yX4_whyNotPass cX4_whyNotPass 3 (Option.some FieldType.int) ∈ GW := gt_3 (i := 143) rfl rfl
theorem mw_3_144 : Cond.constantLong "FoldedMonthsModel" 122 (400 : Int64) ∈ GW := gt_3 (i := 144) rfl rfl
theorem mw_3_145 : Cond.methodLink "FoldedMonthsModel" 127 yX4_passOn ∈ GW := gt_3 (i := 145) rfl rfl
theorem mw_3_147 : Cond.instanceMethod yX4_passOn ∈ GW := gt_3 (i := 147) rfl rfl
theorem mw_3_148 : Cond.code yX4_passOn cX4_passOn 5 (Option.some FieldType.int) ∈ GW := gt_3 (i := 148) rfl rfl
theorem mw_3_149 : Cond.methodLink "FoldedMonthsModel" 42 yX4_monthOf ∈ GW := gt_3 (i := 149) rfl rfl
theorem mw_3_151 : Cond.instanceMethod yX4_monthOf ∈ GW := gt_3 (i := 151) rfl rfl
theorem mw_3_152 : Cond.code yX4_monthOf cX4_monthOf 3 (Option.some FieldType.int) ∈ GW := gt_3 (i := 152) rfl rfl
theorem mw_3_153 : Cond.methodLink "FoldedMonthsModel" 93 yX4_isOld ∈ GW := gt_3 (i := 153) rfl rfl
theorem mw_3_155 : Cond.instanceMethod yX4_isOld ∈ GW := gt_3 (i := 155) rfl rfl
theorem mw_3_156 : Cond.code yX4_isOld cX4_isOld 3 (Option.some FieldType.boolean) ∈ GW := gt_3 (i := 156) rfl rfl
theorem mw_3_157 : Cond.methodLink "FoldedMonthsLaw" 27 yX4_mark ∈ GW := gt_3 (i := 157) rfl rfl
theorem mw_3_158 : Cond.instanceMethod yX4_mark ∈ GW := gt_3 (i := 158) rfl rfl
theorem mw_3_159 : Cond.selects "FoldedMonthsModel" yX4_mark yX4_mark ∈ GW := gt_3 (i := 159) rfl rfl
theorem mw_3_160 : Cond.code yX4_mark cX4_mark 5 (Option.some FieldType.int) ∈ GW := gt_3 (i := 160) rfl rfl
theorem mw_3_161 : Cond.methodLink "FoldedMonthsModel" 145 yX4_whyNotMark ∈ GW := gt_3 (i := 161) rfl rfl
theorem mw_3_163 : Cond.instanceMethod yX4_whyNotMark ∈ GW := gt_3 (i := 163) rfl rfl
theorem mw_3_164 : Cond.code yX4_whyNotMark cX4_whyNotMark 6 (Option.some FieldType.int) ∈ GW := gt_3 (i := 164) rfl rfl
theorem mw_3_165 : Cond.methodLink "FoldedMonthsModel" 134 yX4_isSubject ∈ GW := gt_3 (i := 165) rfl rfl
theorem mw_3_166 : Cond.static yX4_isSubject ∈ GW := gt_3 (i := 166) rfl rfl
theorem mw_3_167 : Cond.code yX4_isSubject cX4_isSubject 1 (Option.some FieldType.boolean) ∈ GW := gt_3 (i := 167) rfl rfl
theorem mw_3_168 : Cond.constantLong "FoldedMonthsModel" 38 (15 : Int64) ∈ GW := gt_3 (i := 168) rfl rfl
theorem mw_3_169 : Cond.methodLink "FoldedMonthsModel" 137 yX4_whyNotDays ∈ GW := gt_3 (i := 169) rfl rfl
theorem mw_3_170 : Cond.static yX4_whyNotDays ∈ GW := gt_3 (i := 170) rfl rfl
theorem mw_3_171 : Cond.code yX4_whyNotDays cX4_whyNotDays 3 (Option.some FieldType.int) ∈ GW := gt_3 (i := 171) rfl rfl
theorem mw_3_172 : Cond.methodLink "FoldedMonthsModel" 130 yX4_isDay ∈ GW := gt_3 (i := 172) rfl rfl
theorem mw_3_173 : Cond.static yX4_isDay ∈ GW := gt_3 (i := 173) rfl rfl
theorem mw_3_174 : Cond.code yX4_isDay cX4_isDay 1 (Option.some FieldType.boolean) ∈ GW := gt_3 (i := 174) rfl rfl
theorem mw_3_175 : Cond.constantLong "FoldedMonthsModel" 32 (3649 : Int64) ∈ GW := gt_3 (i := 175) rfl rfl
theorem mw_3_176 : Cond.methodLink "FoldedMonthsModel" 148 yX4_markOn ∈ GW := gt_3 (i := 176) rfl rfl
theorem mw_3_178 : Cond.instanceMethod yX4_markOn ∈ GW := gt_3 (i := 178) rfl rfl
theorem mw_3_179 : Cond.code yX4_markOn cX4_markOn 10 (Option.some FieldType.int) ∈ GW := gt_3 (i := 179) rfl rfl
theorem mw_3_180 : Cond.methodLink "FoldedMonthsModel" 49 yX4_meant ∈ GW := gt_3 (i := 180) rfl rfl
theorem mw_3_182 : Cond.instanceMethod yX4_meant ∈ GW := gt_3 (i := 182) rfl rfl
theorem mw_3_183 : Cond.code yX4_meant cX4_meant 6 (Option.some FieldType.int) ∈ GW := gt_3 (i := 183) rfl rfl
theorem mw_3_184 : Cond.methodLink "FoldedMonthsModel" 46 yX4_daysOf ∈ GW := gt_3 (i := 184) rfl rfl
theorem mw_3_186 : Cond.instanceMethod yX4_daysOf ∈ GW := gt_3 (i := 186) rfl rfl
theorem mw_3_187 : Cond.code yX4_daysOf cX4_daysOf 2 (Option.some FieldType.int) ∈ GW := gt_3 (i := 187) rfl rfl
theorem mw_3_188 : Cond.methodLink "FoldedMonthsModel" 141 yX4_lay ∈ GW := gt_3 (i := 188) rfl rfl
theorem mw_3_190 : Cond.instanceMethod yX4_lay ∈ GW := gt_3 (i := 190) rfl rfl
theorem mw_3_191 : Cond.code yX4_lay cX4_lay 8 (Option.none : Option FieldType) ∈ GW := gt_3 (i := 191) rfl rfl
theorem mw_3_192 : Cond.methodLink "FoldedMonthsModel" 97 yX4_unfold ∈ GW := gt_3 (i := 192) rfl rfl
theorem mw_3_193 : Cond.static yX4_unfold ∈ GW := gt_3 (i := 193) rfl rfl
theorem mw_3_194 : Cond.code yX4_unfold cX4_unfold 2 (Option.none : Option FieldType) ∈ GW := gt_3 (i := 194) rfl rfl
theorem mw_3_195 : Cond.methodLink "FoldedMonthsModel" 100 yX4_toEnd ∈ GW := gt_3 (i := 195) rfl rfl
theorem mw_3_196 : Cond.static yX4_toEnd ∈ GW := gt_3 (i := 196) rfl rfl
theorem mw_3_197 : Cond.code yX4_toEnd cX4_toEnd 3 (Option.none : Option FieldType) ∈ GW := gt_3 (i := 197) rfl rfl
theorem mw_3_198 : Cond.methodLink "FoldedMonthsModel" 90 yX4_placeOf ∈ GW := gt_3 (i := 198) rfl rfl
theorem mw_3_199 : Cond.static yX4_placeOf ∈ GW := gt_3 (i := 199) rfl rfl
theorem mw_3_200 : Cond.code yX4_placeOf cX4_placeOf 3 (Option.some FieldType.int) ∈ GW := gt_3 (i := 200) rfl rfl
theorem mw_3_201 : Cond.methodLink "FoldedMonthsLaw" 31 yX4_clear ∈ GW := gt_3 (i := 201) rfl rfl
theorem mw_3_202 : Cond.instanceMethod yX4_clear ∈ GW := gt_3 (i := 202) rfl rfl
theorem mw_3_203 : Cond.selects "FoldedMonthsModel" yX4_clear yX4_clear ∈ GW := gt_3 (i := 203) rfl rfl
theorem mw_3_204 : Cond.code yX4_clear cX4_clear 5 (Option.some FieldType.int) ∈ GW := gt_3 (i := 204) rfl rfl
theorem mw_3_205 : Cond.methodLink "FoldedMonthsLaw" 35 yX4_marks ∈ GW := gt_3 (i := 205) rfl rfl
theorem mw_3_206 : Cond.instanceMethod yX4_marks ∈ GW := gt_3 (i := 206) rfl rfl
theorem mw_3_207 : Cond.selects "FoldedMonthsModel" yX4_marks yX4_marks ∈ GW := gt_3 (i := 207) rfl rfl
theorem mw_3_208 : Cond.code yX4_marks cX4_marks 8 (Option.some FieldType.int) ∈ GW := gt_3 (i := 208) rfl rfl
theorem mw_3_209 : Cond.methodLink "FoldedMonthsModel" 152 yX4_whole ∈ GW := gt_3 (i := 209) rfl rfl
theorem mw_3_211 : Cond.instanceMethod yX4_whole ∈ GW := gt_3 (i := 211) rfl rfl
theorem mw_3_212 : Cond.code yX4_whole cX4_whole 2 (Option.some FieldType.int) ∈ GW := gt_3 (i := 212) rfl rfl
theorem mw_3_213 : Cond.methodLink "FoldedMonthsModel" 155 yX4_look ∈ GW := gt_3 (i := 213) rfl rfl
theorem mw_3_215 : Cond.instanceMethod yX4_look ∈ GW := gt_3 (i := 215) rfl rfl
theorem mw_3_216 : Cond.code yX4_look cX4_look 3 (Option.none : Option FieldType) ∈ GW := gt_3 (i := 216) rfl rfl
theorem mw_3_217 : Cond.methodLink "FoldedMonthsLaw" 39 yX4_isMarked ∈ GW := gt_3 (i := 217) rfl rfl
theorem mw_3_218 : Cond.instanceMethod yX4_isMarked ∈ GW := gt_3 (i := 218) rfl rfl
theorem mw_3_219 : Cond.selects "FoldedMonthsModel" yX4_isMarked yX4_isMarked ∈ GW := gt_3 (i := 219) rfl rfl
theorem mw_3_220 : Cond.code yX4_isMarked cX4_isMarked 4 (Option.some FieldType.int) ∈ GW := gt_3 (i := 220) rfl rfl
theorem mw_3_221 : Cond.methodLink "FoldedMonthsLaw" 44 yX4_both ∈ GW := gt_3 (i := 221) rfl rfl
theorem mw_3_222 : Cond.instanceMethod yX4_both ∈ GW := gt_3 (i := 222) rfl rfl
theorem mw_3_223 : Cond.selects "FoldedMonthsModel" yX4_both yX4_both ∈ GW := gt_3 (i := 223) rfl rfl
theorem mw_3_224 : Cond.code yX4_both cX4_both 8 (Option.some FieldType.int) ∈ GW := gt_3 (i := 224) rfl rfl
theorem mw_3_225 : Cond.methodLink "FoldedMonthsLaw" 48 yX4_crowded ∈ GW := gt_3 (i := 225) rfl rfl
theorem mw_3_226 : Cond.instanceMethod yX4_crowded ∈ GW := gt_3 (i := 226) rfl rfl
theorem mw_3_227 : Cond.selects "FoldedMonthsModel" yX4_crowded yX4_crowded ∈ GW := gt_3 (i := 227) rfl rfl
theorem mw_3_228 : Cond.code yX4_crowded cX4_crowded 10 (Option.some FieldType.int) ∈ GW := gt_3 (i := 228) rfl rfl
theorem mw_3_229 : Cond.constantLong "FoldedMonthsModel" 158 (16 : Int64) ∈ GW := gt_3 (i := 229) rfl rfl
theorem mw_3_230 : Cond.methodLink "FoldedMonthsLaw" 52 yX4_longest ∈ GW := gt_3 (i := 230) rfl rfl
theorem mw_3_231 : Cond.instanceMethod yX4_longest ∈ GW := gt_3 (i := 231) rfl rfl
theorem mw_3_232 : Cond.selects "FoldedMonthsModel" yX4_longest yX4_longest ∈ GW := gt_3 (i := 232) rfl rfl
theorem mw_3_233 : Cond.code yX4_longest cX4_longest 11 (Option.some FieldType.int) ∈ GW := gt_3 (i := 233) rfl rfl
theorem mw_3_234 : Cond.methodLink "FoldedMonthsLaw" 56 yX4_nextMark ∈ GW := gt_3 (i := 234) rfl rfl
theorem mw_3_235 : Cond.instanceMethod yX4_nextMark ∈ GW := gt_3 (i := 235) rfl rfl
theorem mw_3_236 : Cond.selects "FoldedMonthsModel" yX4_nextMark yX4_nextMark ∈ GW := gt_3 (i := 236) rfl rfl
theorem mw_3_237 : Cond.code yX4_nextMark cX4_nextMark 6 (Option.some FieldType.int) ∈ GW := gt_3 (i := 237) rfl rfl
theorem mw_3_238 : Cond.methodLink "FoldedMonthsLaw" 60 yX4_ofMonth ∈ GW := gt_3 (i := 238) rfl rfl
theorem mw_3_239 : Cond.instanceMethod yX4_ofMonth ∈ GW := gt_3 (i := 239) rfl rfl
theorem mw_4_0 : Cond.selects "FoldedMonthsModel" yX4_ofMonth yX4_ofMonth ∈ GW := gt_4 (i := 0) rfl rfl
theorem mw_4_1 : Cond.code yX4_ofMonth cX4_ofMonth 3 (Option.some FieldType.int) ∈ GW := gt_4 (i := 1) rfl rfl
theorem mw_4_2 : Cond.methodLink "FoldedMonthsModel" 160 yX4_isMonth ∈ GW := gt_4 (i := 2) rfl rfl
theorem mw_4_3 : Cond.static yX4_isMonth ∈ GW := gt_4 (i := 3) rfl rfl
theorem mw_4_4 : Cond.code yX4_isMonth cX4_isMonth 1 (Option.some FieldType.boolean) ∈ GW := gt_4 (i := 4) rfl rfl
theorem mw_4_5 : Cond.constantLong "FoldedMonthsModel" 40 (119 : Int64) ∈ GW := gt_4 (i := 5) rfl rfl
theorem mw_4_6 : Cond.methodLink "FoldedMonthsModel" 163 yX4_subjectsIn ∈ GW := gt_4 (i := 6) rfl rfl
theorem mw_4_7 : Cond.static yX4_subjectsIn ∈ GW := gt_4 (i := 7) rfl rfl
theorem mw_4_8 : Cond.code yX4_subjectsIn cX4_subjectsIn 4 (Option.some FieldType.int) ∈ GW := gt_4 (i := 8) rfl rfl
theorem mw_4_9 : Cond.methodLink "FoldedMonthsLaw" 64 yX4_inMonth ∈ GW := gt_4 (i := 9) rfl rfl
theorem mw_4_10 : Cond.instanceMethod yX4_inMonth ∈ GW := gt_4 (i := 10) rfl rfl
theorem mw_4_11 : Cond.selects "FoldedMonthsModel" yX4_inMonth yX4_inMonth ∈ GW := gt_4 (i := 11) rfl rfl
theorem mw_4_12 : Cond.code yX4_inMonth cX4_inMonth 3 (Option.some FieldType.int) ∈ GW := gt_4 (i := 12) rfl rfl
theorem mw_4_13 : Cond.methodLink "FoldedMonthsLaw" 68 yX4_dayOf ∈ GW := gt_4 (i := 13) rfl rfl
theorem mw_4_14 : Cond.instanceMethod yX4_dayOf ∈ GW := gt_4 (i := 14) rfl rfl
theorem mw_4_15 : Cond.selects "FoldedMonthsModel" yX4_dayOf yX4_dayOf ∈ GW := gt_4 (i := 15) rfl rfl
theorem mw_4_16 : Cond.code yX4_dayOf cX4_dayOf 5 (Option.some FieldType.int) ∈ GW := gt_4 (i := 16) rfl rfl
theorem mw_4_17 : Cond.constantLong "FoldedMonthsModel" 166 (9 : Int64) ∈ GW := gt_4 (i := 17) rfl rfl
theorem mw_4_18 : Cond.methodLink "FoldedMonthsLaw" 72 yX4_dateOf ∈ GW := gt_4 (i := 18) rfl rfl
theorem mw_4_19 : Cond.instanceMethod yX4_dateOf ∈ GW := gt_4 (i := 19) rfl rfl
theorem mw_4_20 : Cond.selects "FoldedMonthsModel" yX4_dateOf yX4_dateOf ∈ GW := gt_4 (i := 20) rfl rfl
theorem mw_4_21 : Cond.code yX4_dateOf cX4_dateOf 4 (Option.some FieldType.int) ∈ GW := gt_4 (i := 21) rfl rfl
theorem mw_4_22 : Cond.constantLong "FoldedMonthsModel" 168 (3 : Int64) ∈ GW := gt_4 (i := 22) rfl rfl
theorem mw_4_23 : Cond.methodLink "FoldedMonthsLaw" 76 yX4_count ∈ GW := gt_4 (i := 23) rfl rfl
theorem mw_4_24 : Cond.instanceMethod yX4_count ∈ GW := gt_4 (i := 24) rfl rfl
theorem mw_4_25 : Cond.selects "FoldedMonthsModel" yX4_count yX4_count ∈ GW := gt_4 (i := 25) rfl rfl
theorem mw_4_26 : Cond.code yX4_count cX4_count 5 (Option.some FieldType.int) ∈ GW := gt_4 (i := 26) rfl rfl
theorem mw_4_27 : Cond.methodLink "FoldedMonthsLaw" 80 yX4_sizeAs ∈ GW := gt_4 (i := 27) rfl rfl
theorem mw_4_28 : Cond.instanceMethod yX4_sizeAs ∈ GW := gt_4 (i := 28) rfl rfl
theorem mw_4_29 : Cond.selects "FoldedMonthsModel" yX4_sizeAs yX4_sizeAs ∈ GW := gt_4 (i := 29) rfl rfl
theorem mw_4_30 : Cond.code yX4_sizeAs cX4_sizeAs 3 (Option.some FieldType.int) ∈ GW := gt_4 (i := 30) rfl rfl
theorem mw_4_31 : Cond.constantLong "FoldedMonthsModel" 173 (4 : Int64) ∈ GW := gt_4 (i := 31) rfl rfl
theorem mw_4_32 : Cond.methodLink "FoldedMonthsLaw" 84 yX4_workOf ∈ GW := gt_4 (i := 32) rfl rfl
theorem mw_4_33 : Cond.instanceMethod yX4_workOf ∈ GW := gt_4 (i := 33) rfl rfl
theorem mw_4_34 : Cond.selects "FoldedMonthsModel" yX4_workOf yX4_workOf ∈ GW := gt_4 (i := 34) rfl rfl
theorem mw_4_35 : Cond.code yX4_workOf cX4_workOf 4 (Option.some FieldType.int) ∈ GW := gt_4 (i := 35) rfl rfl
theorem mw_4_36 : Cond.methodLink "FoldedMonthsModel" 175 yX4_lookAll ∈ GW := gt_4 (i := 36) rfl rfl
theorem mw_4_38 : Cond.instanceMethod yX4_lookAll ∈ GW := gt_4 (i := 38) rfl rfl
theorem mw_4_39 : Cond.code yX4_lookAll cX4_lookAll 4 (Option.none : Option FieldType) ∈ GW := gt_4 (i := 39) rfl rfl
theorem mw_4_40 : Cond.methodLink "FoldedMonthsLaw" 88 yX4_bestOpen ∈ GW := gt_4 (i := 40) rfl rfl
theorem mw_4_41 : Cond.instanceMethod yX4_bestOpen ∈ GW := gt_4 (i := 41) rfl rfl
theorem mw_4_42 : Cond.selects "FoldedMonthsModel" yX4_bestOpen yX4_bestOpen ∈ GW := gt_4 (i := 42) rfl rfl
theorem mw_4_43 : Cond.code yX4_bestOpen cX4_bestOpen 9 (Option.some FieldType.int) ∈ GW := gt_4 (i := 43) rfl rfl
theorem mw_4_44 : Cond.methodLink "FoldedMonthsLaw" 95 yX4_put ∈ GW := gt_4 (i := 44) rfl rfl
theorem mw_4_45 : Cond.instanceMethod yX4_put ∈ GW := gt_4 (i := 45) rfl rfl
theorem mw_4_46 : Cond.selects "FoldedMonthsModel" yX4_put yX4_put ∈ GW := gt_4 (i := 46) rfl rfl
theorem mw_4_47 : Cond.code yX4_put cX4_put 7 (Option.some FieldType.int) ∈ GW := gt_4 (i := 47) rfl rfl
theorem mw_4_48 : Cond.constantLong "FoldedMonthsModel" 179 (255 : Int64) ∈ GW := gt_4 (i := 48) rfl rfl
theorem mw_4_49 : Cond.constantLong "FoldedMonthsModel" 181 (33 : Int64) ∈ GW := gt_4 (i := 49) rfl rfl
theorem mw_4_50 : Cond.constantLong "FoldedMonthsModel" 183 (126 : Int64) ∈ GW := gt_4 (i := 50) rfl rfl
theorem mw_4_51 : Cond.methodLink "FoldedMonthsLaw" 100 yX4_wipe ∈ GW := gt_4 (i := 51) rfl rfl
theorem mw_4_52 : Cond.instanceMethod yX4_wipe ∈ GW := gt_4 (i := 52) rfl rfl
theorem mw_4_53 : Cond.selects "FoldedMonthsModel" yX4_wipe yX4_wipe ∈ GW := gt_4 (i := 53) rfl rfl
theorem mw_4_54 : Cond.code yX4_wipe cX4_wipe 2 (Option.some FieldType.int) ∈ GW := gt_4 (i := 54) rfl rfl
theorem mw_4_55 : Cond.methodLink "FoldedMonthsLaw" 104 yX4_fault ∈ GW := gt_4 (i := 55) rfl rfl
theorem mw_4_56 : Cond.instanceMethod yX4_fault ∈ GW := gt_4 (i := 56) rfl rfl
theorem mw_4_57 : Cond.selects "FoldedMonthsModel" yX4_fault yX4_fault ∈ GW := gt_4 (i := 57) rfl rfl
theorem mw_4_58 : Cond.code yX4_fault cX4_fault 2 (Option.some FieldType.int) ∈ GW := gt_4 (i := 58) rfl rfl
theorem mw_4_59 : Cond.methodLink "FoldedMonthsModel" 207 yX4_readOrder ∈ GW := gt_4 (i := 59) rfl rfl
theorem mw_4_61 : Cond.instanceMethod yX4_readOrder ∈ GW := gt_4 (i := 61) rfl rfl
theorem mw_4_62 : Cond.code yX4_readOrder cX4_readOrder 2 (Option.some FieldType.boolean) ∈ GW := gt_4 (i := 62) rfl rfl
theorem mw_4_63 : Cond.methodLink "FoldedMonthsModel" 188 yX4_sign ∈ GW := gt_4 (i := 63) rfl rfl
theorem mw_4_65 : Cond.instanceMethod yX4_sign ∈ GW := gt_4 (i := 65) rfl rfl
theorem mw_4_66 : Cond.code yX4_sign cX4_sign 1 (Option.some FieldType.int) ∈ GW := gt_4 (i := 66) rfl rfl
theorem mw_4_67 : Cond.methodLink "FoldedMonthsModel" 196 yX4_number ∈ GW := gt_4 (i := 67) rfl rfl
theorem mw_4_69 : Cond.instanceMethod yX4_number ∈ GW := gt_4 (i := 69) rfl rfl
theorem mw_4_70 : Cond.code yX4_number cX4_number 2 (Option.some FieldType.int) ∈ GW := gt_4 (i := 70) rfl rfl
theorem mw_4_71 : Cond.constantLong "FoldedMonthsModel" 192 (48 : Int64) ∈ GW := gt_4 (i := 71) rfl rfl
theorem mw_4_72 : Cond.constantLong "FoldedMonthsModel" 194 (57 : Int64) ∈ GW := gt_4 (i := 72) rfl rfl
theorem mw_4_73 : Cond.constantLong "FoldedMonthsModel" 199 (97 : Int64) ∈ GW := gt_4 (i := 73) rfl rfl
theorem mw_4_74 : Cond.constantLong "FoldedMonthsModel" 201 (112 : Int64) ∈ GW := gt_4 (i := 74) rfl rfl
theorem mw_4_75 : Cond.methodLink "FoldedMonthsModel" 203 yX4_readRanges ∈ GW := gt_4 (i := 75) rfl rfl
theorem mw_4_77 : Cond.instanceMethod yX4_readRanges ∈ GW := gt_4 (i := 77) rfl rfl
theorem mw_4_78 : Cond.code yX4_readRanges cX4_readRanges 2 (Option.some FieldType.boolean) ∈ GW := gt_4 (i := 78) rfl rfl
theorem mw_4_79 : Cond.methodLink "FoldedMonthsLaw" 108 yX4_carryOut ∈ GW := gt_4 (i := 79) rfl rfl
theorem mw_4_80 : Cond.instanceMethod yX4_carryOut ∈ GW := gt_4 (i := 80) rfl rfl
theorem mw_4_81 : Cond.selects "FoldedMonthsModel" yX4_carryOut yX4_carryOut ∈ GW := gt_4 (i := 81) rfl rfl
theorem mw_4_82 : Cond.code yX4_carryOut cX4_carryOut 3 (Option.some FieldType.int) ∈ GW := gt_4 (i := 82) rfl rfl
theorem mw_4_83 : Cond.methodLink "FoldedMonthsModel" 210 yX4_fault ∈ GW := gt_4 (i := 83) rfl rfl
theorem mw_4_84 : Cond.methodLink "FoldedMonthsModel" 213 yX4_doOrder ∈ GW := gt_4 (i := 84) rfl rfl
theorem mw_4_86 : Cond.instanceMethod yX4_doOrder ∈ GW := gt_4 (i := 86) rfl rfl
theorem mw_4_87 : Cond.code yX4_doOrder cX4_doOrder 6 (Option.some FieldType.boolean) ∈ GW := gt_4 (i := 87) rfl rfl
theorem mw_4_88 : Cond.methodLink "FoldedMonthsLaw" 112 yX4_undo ∈ GW := gt_4 (i := 88) rfl rfl
theorem mw_4_89 : Cond.instanceMethod yX4_undo ∈ GW := gt_4 (i := 89) rfl rfl
theorem mw_4_90 : Cond.selects "FoldedMonthsModel" yX4_undo yX4_undo ∈ GW := gt_4 (i := 90) rfl rfl
theorem mw_4_91 : Cond.code yX4_undo cX4_undo 1 (Option.some FieldType.int) ∈ GW := gt_4 (i := 91) rfl rfl
theorem mw_4_92 : Cond.methodLink "FoldedMonthsLaw" 116 yX4_save ∈ GW := gt_4 (i := 92) rfl rfl
theorem mw_4_93 : Cond.instanceMethod yX4_save ∈ GW := gt_4 (i := 93) rfl rfl
theorem mw_4_94 : Cond.selects "FoldedMonthsModel" yX4_save yX4_save ∈ GW := gt_4 (i := 94) rfl rfl
theorem mw_4_95 : Cond.code yX4_save cX4_save 2 (Option.some FieldType.int) ∈ GW := gt_4 (i := 95) rfl rfl
theorem mw_4_96 : Cond.methodLink "FoldedMonthsLaw" 120 yX4_restore ∈ GW := gt_4 (i := 96) rfl rfl
theorem mw_4_97 : Cond.instanceMethod yX4_restore ∈ GW := gt_4 (i := 97) rfl rfl
theorem mw_4_98 : Cond.selects "FoldedMonthsModel" yX4_restore yX4_restore ∈ GW := gt_4 (i := 98) rfl rfl
theorem mw_4_99 : Cond.code yX4_restore cX4_restore 2 (Option.some FieldType.int) ∈ GW := gt_4 (i := 99) rfl rfl
theorem mw_4_100 : Cond.constantLong "FoldedMonthsLaw" 89 (4294967295 : Int64) ∈ GW := gt_4 (i := 100) rfl rfl
theorem mw_p1_0 : Cond.selects "FoldedMonths" yX3_changeKeep yX3_changeKeep ∈ GW := gp_1 (q := (yX3_changeKeep, 7)) (i := 0) rfl
theorem mw_p1_1 : Cond.selects "FoldedMonths" yX3_record yX3_record ∈ GW := gp_1 (q := (yX3_record, 7)) (i := 1) rfl
theorem mw_p1_2 : Cond.selects "FoldedMonths" yX3_moveOldestToTheEnd yX3_moveOldestToTheEnd ∈ GW := gp_1 (q := (yX3_moveOldestToTheEnd, 7)) (i := 2) rfl
theorem mw_p1_3 : Cond.selects "FoldedMonths" yX3_changeOpen yX3_changeOpen ∈ GW := gp_1 (q := (yX3_changeOpen, 7)) (i := 3) rfl
theorem mw_p1_4 : Cond.selects "FoldedMonths" yX3_passError yX3_passError ∈ GW := gp_1 (q := (yX3_passError, 7)) (i := 4) rfl
theorem mw_p1_5 : Cond.selects "FoldedMonths" yX3_changeDays yX3_changeDays ∈ GW := gp_1 (q := (yX3_changeDays, 7)) (i := 5) rfl
theorem mw_p1_6 : Cond.selects "FoldedMonths" yX3_changeError yX3_changeError ∈ GW := gp_1 (q := (yX3_changeError, 7)) (i := 6) rfl
theorem mw_p1_7 : Cond.selects "FoldedMonths" yX3_carryStep yX3_carryStep ∈ GW := gp_1 (q := (yX3_carryStep, 7)) (i := 7) rfl
theorem mw_p1_8 : Cond.selects "FoldedMonthsModel" yX4_record yX4_record ∈ GW := gp_1 (q := (yX4_record, 10)) (i := 8) rfl
theorem mw_p1_9 : Cond.selects "FoldedMonthsModel" yX4_whyNotPass yX4_whyNotPass ∈ GW := gp_1 (q := (yX4_whyNotPass, 10)) (i := 9) rfl
theorem mw_p1_10 : Cond.selects "FoldedMonthsModel" yX4_passOn yX4_passOn ∈ GW := gp_1 (q := (yX4_passOn, 10)) (i := 10) rfl
theorem mw_p1_11 : Cond.selects "FoldedMonthsModel" yX4_monthOf yX4_monthOf ∈ GW := gp_1 (q := (yX4_monthOf, 10)) (i := 11) rfl
theorem mw_p1_12 : Cond.selects "FoldedMonthsModel" yX4_isOld yX4_isOld ∈ GW := gp_1 (q := (yX4_isOld, 10)) (i := 12) rfl
theorem mw_p1_13 : Cond.selects "FoldedMonthsModel" yX4_whyNotMark yX4_whyNotMark ∈ GW := gp_1 (q := (yX4_whyNotMark, 10)) (i := 13) rfl
theorem mw_p1_14 : Cond.selects "FoldedMonthsModel" yX4_markOn yX4_markOn ∈ GW := gp_1 (q := (yX4_markOn, 10)) (i := 14) rfl
theorem mw_p1_15 : Cond.selects "FoldedMonthsModel" yX4_meant yX4_meant ∈ GW := gp_1 (q := (yX4_meant, 10)) (i := 15) rfl
theorem mw_p2_0 : Cond.selects "FoldedMonthsModel" yX4_daysOf yX4_daysOf ∈ GW := gp_2 (q := (yX4_daysOf, 10)) (i := 0) rfl
theorem mw_p2_1 : Cond.selects "FoldedMonthsModel" yX4_lay yX4_lay ∈ GW := gp_2 (q := (yX4_lay, 10)) (i := 1) rfl
theorem mw_p2_2 : Cond.selects "FoldedMonthsModel" yX4_whole yX4_whole ∈ GW := gp_2 (q := (yX4_whole, 10)) (i := 2) rfl
theorem mw_p2_3 : Cond.selects "FoldedMonthsModel" yX4_look yX4_look ∈ GW := gp_2 (q := (yX4_look, 10)) (i := 3) rfl
theorem mw_p2_4 : Cond.selects "FoldedMonthsModel" yX4_lookAll yX4_lookAll ∈ GW := gp_2 (q := (yX4_lookAll, 10)) (i := 4) rfl
theorem mw_p2_5 : Cond.selects "FoldedMonthsModel" yX4_readOrder yX4_readOrder ∈ GW := gp_2 (q := (yX4_readOrder, 10)) (i := 5) rfl
theorem mw_p2_6 : Cond.selects "FoldedMonthsModel" yX4_sign yX4_sign ∈ GW := gp_2 (q := (yX4_sign, 10)) (i := 6) rfl
theorem mw_p2_7 : Cond.selects "FoldedMonthsModel" yX4_number yX4_number ∈ GW := gp_2 (q := (yX4_number, 10)) (i := 7) rfl
theorem mw_p2_8 : Cond.selects "FoldedMonthsModel" yX4_readRanges yX4_readRanges ∈ GW := gp_2 (q := (yX4_readRanges, 10)) (i := 8) rfl
theorem mw_p2_9 : Cond.selects "FoldedMonthsModel" yX4_doOrder yX4_doOrder ∈ GW := gp_2 (q := (yX4_doOrder, 10)) (i := 9) rfl
theorem iGX0 : ∀ k, k < 11 → u_lay RX0 TX0 k ∈ GW := fun k hk => match k, hk with
  | 0, _ => mw_1_45
  | 1, _ => mw_1_47
  | 2, _ => mw_1_49
  | 3, _ => mw_1_51
  | 4, _ => mw_1_53
  | 5, _ => mw_1_55
  | 6, _ => mw_1_57
  | 7, _ => mw_1_59
  | 8, _ => mw_1_61
  | 9, _ => mw_1_63
  | 10, _ => mw_1_65
  | k + 11, h => absurd h (by omega)
theorem inGX0 : ∀ w ∈ u_ws RX0 TX0 11, w ∈ GW := by
  intro w h
  obtain ⟨k, hk, rfl⟩ := List.mem_map.mp h
  exact iGX0 k (List.mem_range.mp hk)
theorem iGX1 : ∀ k, k < 6 → u_lay RX1 TX1 k ∈ GW := fun k hk => match k, hk with
  | 0, _ => mw_1_114
  | 1, _ => mw_1_116
  | 2, _ => mw_1_118
  | 3, _ => mw_1_120
  | 4, _ => mw_1_122
  | 5, _ => mw_1_124
  | k + 6, h => absurd h (by omega)
theorem inGX1 : ∀ w ∈ u_ws RX1 TX1 6, w ∈ GW := by
  intro w h
  obtain ⟨k, hk, rfl⟩ := List.mem_map.mp h
  exact iGX1 k (List.mem_range.mp hk)
theorem iGX2 : ∀ k, k < 5 → u_lay RX2 TX2 k ∈ GW := fun k hk => match k, hk with
  | 0, _ => mw_1_93
  | 1, _ => mw_1_95
  | 2, _ => mw_1_97
  | 3, _ => mw_1_99
  | 4, _ => mw_1_101
  | k + 5, h => absurd h (by omega)
theorem inGX2 : ∀ w ∈ u_ws RX2 TX2 5, w ∈ GW := by
  intro w h
  obtain ⟨k, hk, rfl⟩ := List.mem_map.mp h
  exact iGX2 k (List.mem_range.mp hk)
theorem iGX3 : ∀ k, k < 7 → u_lay RX3 TX3 k ∈ GW := fun k hk => match k, hk with
  | 0, _ => mw_1_134
  | 1, _ => mw_1_136
  | 2, _ => mw_1_138
  | 3, _ => mw_1_140
  | 4, _ => mw_1_142
  | 5, _ => mw_1_144
  | 6, _ => mw_1_146
  | k + 7, h => absurd h (by omega)
theorem inGX3 : ∀ w ∈ u_ws RX3 TX3 7, w ∈ GW := by
  intro w h
  obtain ⟨k, hk, rfl⟩ := List.mem_map.mp h
  exact iGX3 k (List.mem_range.mp hk)
theorem iGX4 : ∀ k, k < 10 → u_lay RX4 TX4 k ∈ GW := fun k hk => match k, hk with
  | 0, _ => mw_3_65
  | 1, _ => mw_3_67
  | 2, _ => mw_3_69
  | 3, _ => mw_3_71
  | 4, _ => mw_3_73
  | 5, _ => mw_3_75
  | 6, _ => mw_3_77
  | 7, _ => mw_3_79
  | 8, _ => mw_3_81
  | 9, _ => mw_3_83
  | k + 10, h => absurd h (by omega)
theorem inGX4 : ∀ w ∈ u_ws RX4 TX4 10, w ∈ GW := by
  intro w h
  obtain ⟨k, hk, rfl⟩ := List.mem_map.mp h
  exact iGX4 k (List.mem_range.mp hk)
end
section
theorem dX0_init_0 : decode cX0_init 0 = .ok (.aload_n 0, 1) := by decide +kernel
theorem dX0_init_1 : decode cX0_init 1 = .ok (.invokespecial 3, 3) := by decide +kernel
theorem dX0_init_4 : decode cX0_init 4 = .ok (.aload_n 0, 1) := by decide +kernel
theorem dX0_init_5 : decode cX0_init 5 = .ok (.iconst 2, 1) := by decide +kernel
theorem dX0_init_6 : decode cX0_init 6 = .ok (.putfield 9, 3) := by decide +kernel
theorem dX0_init_9 : decode cX0_init 9 = .ok (.aload_n 0, 1) := by decide +kernel
theorem dX0_init_10 : decode cX0_init 10 = .ok (.iconst 2, 1) := by decide +kernel
theorem dX0_init_11 : decode cX0_init 11 = .ok (.putfield 15, 3) := by decide +kernel
theorem dX0_init_14 : decode cX0_init 14 = .ok (.aload_n 0, 1) := by decide +kernel
theorem dX0_init_15 : decode cX0_init 15 = .ok (.sipush 1920, 3) := by decide +kernel
theorem dX0_init_18 : decode cX0_init 18 = .ok (.newarray .int, 2) := by decide +kernel
theorem dX0_init_20 : decode cX0_init 20 = .ok (.putfield 18, 3) := by decide +kernel
theorem dX0_init_23 : decode cX0_init 23 = .ok (.aload_n 0, 1) := by decide +kernel
theorem dX0_init_24 : decode cX0_init 24 = .ok (.bipush 7, 2) := by decide +kernel
theorem dX0_init_26 : decode cX0_init 26 = .ok (.newarray .int, 2) := by decide +kernel
theorem dX0_init_28 : decode cX0_init 28 = .ok (.putfield 22, 3) := by decide +kernel
theorem dX0_init_31 : decode cX0_init 31 = .ok (.aload_n 0, 1) := by decide +kernel
theorem dX0_init_32 : decode cX0_init 32 = .ok (.bipush 120, 2) := by decide +kernel
theorem dX0_init_34 : decode cX0_init 34 = .ok (.newarray .int, 2) := by decide +kernel
theorem dX0_init_36 : decode cX0_init 36 = .ok (.putfield 25, 3) := by decide +kernel
theorem dX0_init_39 : decode cX0_init 39 = .ok (.iconst 0, 1) := by decide +kernel
theorem dX0_init_40 : decode cX0_init 40 = .ok (.istore_n 1, 1) := by decide +kernel
theorem dX0_init_41 : decode cX0_init 41 = .ok (.iload_n 1, 1) := by decide +kernel
theorem dX0_init_42 : decode cX0_init 42 = .ok (.aload_n 0, 1) := by decide +kernel
theorem dX0_init_43 : decode cX0_init 43 = .ok (.getfield 25, 3) := by decide +kernel
theorem dX0_init_46 : decode cX0_init 46 = .ok (.arraylength, 1) := by decide +kernel
theorem dX0_init_47 : decode cX0_init 47 = .ok (.if_icmp .ge 16, 3) := by decide +kernel
theorem dX0_init_50 : decode cX0_init 50 = .ok (.aload_n 0, 1) := by decide +kernel
theorem dX0_init_51 : decode cX0_init 51 = .ok (.getfield 25, 3) := by decide +kernel
theorem dX0_init_54 : decode cX0_init 54 = .ok (.iload_n 1, 1) := by decide +kernel
theorem dX0_init_55 : decode cX0_init 55 = .ok (.iconst 5, 1) := by decide +kernel
theorem dX0_init_56 : decode cX0_init 56 = .ok (.iastore, 1) := by decide +kernel
theorem dX0_init_57 : decode cX0_init 57 = .ok (.iinc 1 1, 3) := by decide +kernel
theorem dX0_init_60 : decode cX0_init 60 = .ok (.goto (-19), 3) := by decide +kernel
theorem dX0_init_63 : decode cX0_init 63 = .ok (.aload_n 0, 1) := by decide +kernel
theorem dX0_init_64 : decode cX0_init 64 = .ok (.bipush 120, 2) := by decide +kernel
theorem dX0_init_66 : decode cX0_init 66 = .ok (.newarray .int, 2) := by decide +kernel
theorem dX0_init_68 : decode cX0_init 68 = .ok (.putfield 28, 3) := by decide +kernel
theorem dX0_init_71 : decode cX0_init 71 = .ok (.iconst 0, 1) := by decide +kernel
theorem dX0_init_72 : decode cX0_init 72 = .ok (.istore_n 1, 1) := by decide +kernel
theorem dX0_init_73 : decode cX0_init 73 = .ok (.iload_n 1, 1) := by decide +kernel
theorem dX0_init_74 : decode cX0_init 74 = .ok (.aload_n 0, 1) := by decide +kernel
theorem dX0_init_75 : decode cX0_init 75 = .ok (.getfield 28, 3) := by decide +kernel
theorem dX0_init_78 : decode cX0_init 78 = .ok (.arraylength, 1) := by decide +kernel
theorem dX0_init_79 : decode cX0_init 79 = .ok (.if_icmp .ge 17, 3) := by decide +kernel
theorem dX0_init_82 : decode cX0_init 82 = .ok (.aload_n 0, 1) := by decide +kernel
theorem dX0_init_83 : decode cX0_init 83 = .ok (.getfield 28, 3) := by decide +kernel
theorem dX0_init_86 : decode cX0_init 86 = .ok (.iload_n 1, 1) := by decide +kernel
theorem dX0_init_87 : decode cX0_init 87 = .ok (.bipush (-6), 2) := by decide +kernel
theorem dX0_init_89 : decode cX0_init 89 = .ok (.iastore, 1) := by decide +kernel
theorem dX0_init_90 : decode cX0_init 90 = .ok (.iinc 1 1, 3) := by decide +kernel
theorem dX0_init_93 : decode cX0_init 93 = .ok (.goto (-20), 3) := by decide +kernel
theorem dX0_init_96 : decode cX0_init 96 = .ok (.return_, 1) := by decide +kernel
theorem dX0_bitsOf_0 : decode cX0_bitsOf 0 = .ok (.iload_n 2, 1) := by decide +kernel
theorem dX0_bitsOf_1 : decode cX0_bitsOf 1 = .ok (.bipush 16, 2) := by decide +kernel
theorem dX0_bitsOf_3 : decode cX0_bitsOf 3 = .ok (.imul, 1) := by decide +kernel
theorem dX0_bitsOf_4 : decode cX0_bitsOf 4 = .ok (.iload_n 1, 1) := by decide +kernel
theorem dX0_bitsOf_5 : decode cX0_bitsOf 5 = .ok (.iadd, 1) := by decide +kernel
theorem dX0_bitsOf_6 : decode cX0_bitsOf 6 = .ok (.istore_n 3, 1) := by decide +kernel
theorem dX0_bitsOf_7 : decode cX0_bitsOf 7 = .ok (.iload_n 3, 1) := by decide +kernel
theorem dX0_bitsOf_8 : decode cX0_bitsOf 8 = .ok (.ifCond .lt 21, 3) := by decide +kernel
theorem dX0_bitsOf_11 : decode cX0_bitsOf 11 = .ok (.iload_n 3, 1) := by decide +kernel
theorem dX0_bitsOf_12 : decode cX0_bitsOf 12 = .ok (.aload_n 0, 1) := by decide +kernel
theorem dX0_bitsOf_13 : decode cX0_bitsOf 13 = .ok (.getfield 18, 3) := by decide +kernel
theorem dX0_bitsOf_16 : decode cX0_bitsOf 16 = .ok (.arraylength, 1) := by decide +kernel
theorem dX0_bitsOf_17 : decode cX0_bitsOf 17 = .ok (.if_icmp .ge 12, 3) := by decide +kernel
theorem dX0_bitsOf_20 : decode cX0_bitsOf 20 = .ok (.aload_n 0, 1) := by decide +kernel
theorem dX0_bitsOf_21 : decode cX0_bitsOf 21 = .ok (.getfield 18, 3) := by decide +kernel
theorem dX0_bitsOf_24 : decode cX0_bitsOf 24 = .ok (.iload_n 3, 1) := by decide +kernel
theorem dX0_bitsOf_25 : decode cX0_bitsOf 25 = .ok (.iaload, 1) := by decide +kernel
theorem dX0_bitsOf_26 : decode cX0_bitsOf 26 = .ok (.goto 4, 3) := by decide +kernel
theorem dX0_bitsOf_29 : decode cX0_bitsOf 29 = .ok (.iconst 0, 1) := by decide +kernel
theorem dX0_bitsOf_30 : decode cX0_bitsOf 30 = .ok (.ireturn, 1) := by decide +kernel
theorem dX0_writeBits_0 : decode cX0_writeBits 0 = .ok (.iload_n 2, 1) := by decide +kernel
theorem dX0_writeBits_1 : decode cX0_writeBits 1 = .ok (.bipush 16, 2) := by decide +kernel
theorem dX0_writeBits_3 : decode cX0_writeBits 3 = .ok (.imul, 1) := by decide +kernel
theorem dX0_writeBits_4 : decode cX0_writeBits 4 = .ok (.iload_n 1, 1) := by decide +kernel
theorem dX0_writeBits_5 : decode cX0_writeBits 5 = .ok (.iadd, 1) := by decide +kernel
theorem dX0_writeBits_6 : decode cX0_writeBits 6 = .ok (.istore 4, 2) := by decide +kernel
theorem dX0_writeBits_8 : decode cX0_writeBits 8 = .ok (.iload 4, 2) := by decide +kernel
theorem dX0_writeBits_10 : decode cX0_writeBits 10 = .ok (.ifCond .lt 21, 3) := by decide +kernel
theorem dX0_writeBits_13 : decode cX0_writeBits 13 = .ok (.iload 4, 2) := by decide +kernel
theorem dX0_writeBits_15 : decode cX0_writeBits 15 = .ok (.aload_n 0, 1) := by decide +kernel
theorem dX0_writeBits_16 : decode cX0_writeBits 16 = .ok (.getfield 18, 3) := by decide +kernel
theorem dX0_writeBits_19 : decode cX0_writeBits 19 = .ok (.arraylength, 1) := by decide +kernel
theorem dX0_writeBits_20 : decode cX0_writeBits 20 = .ok (.if_icmp .ge 11, 3) := by decide +kernel
theorem dX0_writeBits_23 : decode cX0_writeBits 23 = .ok (.aload_n 0, 1) := by decide +kernel
theorem dX0_writeBits_24 : decode cX0_writeBits 24 = .ok (.getfield 18, 3) := by decide +kernel
theorem dX0_writeBits_27 : decode cX0_writeBits 27 = .ok (.iload 4, 2) := by decide +kernel
theorem dX0_writeBits_29 : decode cX0_writeBits 29 = .ok (.iload_n 3, 1) := by decide +kernel
theorem dX0_writeBits_30 : decode cX0_writeBits 30 = .ok (.iastore, 1) := by decide +kernel
theorem dX0_writeBits_31 : decode cX0_writeBits 31 = .ok (.return_, 1) := by decide +kernel
theorem dX0_isMarkedOn_0 : decode cX0_isMarkedOn 0 = .ok (.iload_n 2, 1) := by decide +kernel
theorem dX0_isMarkedOn_1 : decode cX0_isMarkedOn 1 = .ok (.invokestatic 31, 3) := by decide +kernel
theorem dX0_isMarkedOn_4 : decode cX0_isMarkedOn 4 = .ok (.istore_n 3, 1) := by decide +kernel
theorem dX0_isMarkedOn_5 : decode cX0_isMarkedOn 5 = .ok (.aload_n 0, 1) := by decide +kernel
theorem dX0_isMarkedOn_6 : decode cX0_isMarkedOn 6 = .ok (.iload_n 1, 1) := by decide +kernel
theorem dX0_isMarkedOn_7 : decode cX0_isMarkedOn 7 = .ok (.iload_n 3, 1) := by decide +kernel
theorem dX0_isMarkedOn_8 : decode cX0_isMarkedOn 8 = .ok (.invokevirtual 35, 3) := by decide +kernel
theorem dX0_isMarkedOn_11 : decode cX0_isMarkedOn 11 = .ok (.iload_n 2, 1) := by decide +kernel
theorem dX0_isMarkedOn_12 : decode cX0_isMarkedOn 12 = .ok (.iload_n 3, 1) := by decide +kernel
theorem dX0_isMarkedOn_13 : decode cX0_isMarkedOn 13 = .ok (.invokestatic 39, 3) := by decide +kernel
theorem dX0_isMarkedOn_16 : decode cX0_isMarkedOn 16 = .ok (.isub, 1) := by decide +kernel
theorem dX0_isMarkedOn_17 : decode cX0_isMarkedOn 17 = .ok (.invokestatic 42, 3) := by decide +kernel
theorem dX0_isMarkedOn_20 : decode cX0_isMarkedOn 20 = .ok (.ireturn, 1) := by decide +kernel
theorem dX0_marksIn_0 : decode cX0_marksIn 0 = .ok (.iconst 0, 1) := by decide +kernel
theorem dX0_marksIn_1 : decode cX0_marksIn 1 = .ok (.istore_n 2, 1) := by decide +kernel
theorem dX0_marksIn_2 : decode cX0_marksIn 2 = .ok (.iconst 0, 1) := by decide +kernel
theorem dX0_marksIn_3 : decode cX0_marksIn 3 = .ok (.istore_n 3, 1) := by decide +kernel
theorem dX0_marksIn_4 : decode cX0_marksIn 4 = .ok (.iload_n 3, 1) := by decide +kernel
theorem dX0_marksIn_5 : decode cX0_marksIn 5 = .ok (.bipush 16, 2) := by decide +kernel
theorem dX0_marksIn_7 : decode cX0_marksIn 7 = .ok (.if_icmp .ge 21, 3) := by decide +kernel
theorem dX0_marksIn_10 : decode cX0_marksIn 10 = .ok (.iload_n 2, 1) := by decide +kernel
theorem dX0_marksIn_11 : decode cX0_marksIn 11 = .ok (.aload_n 0, 1) := by decide +kernel
theorem dX0_marksIn_12 : decode cX0_marksIn 12 = .ok (.iload_n 3, 1) := by decide +kernel
theorem dX0_marksIn_13 : decode cX0_marksIn 13 = .ok (.iload_n 1, 1) := by decide +kernel
theorem dX0_marksIn_14 : decode cX0_marksIn 14 = .ok (.invokevirtual 35, 3) := by decide +kernel
theorem dX0_marksIn_17 : decode cX0_marksIn 17 = .ok (.invokestatic 46, 3) := by decide +kernel
theorem dX0_marksIn_20 : decode cX0_marksIn 20 = .ok (.iadd, 1) := by decide +kernel
theorem dX0_marksIn_21 : decode cX0_marksIn 21 = .ok (.istore_n 2, 1) := by decide +kernel
theorem dX0_marksIn_22 : decode cX0_marksIn 22 = .ok (.iinc 3 1, 3) := by decide +kernel
theorem dX0_marksIn_25 : decode cX0_marksIn 25 = .ok (.goto (-21), 3) := by decide +kernel
theorem dX0_marksIn_28 : decode cX0_marksIn 28 = .ok (.iload_n 2, 1) := by decide +kernel
theorem dX0_marksIn_29 : decode cX0_marksIn 29 = .ok (.ireturn, 1) := by decide +kernel
theorem dX0_runsIn_0 : decode cX0_runsIn 0 = .ok (.iconst 0, 1) := by decide +kernel
theorem dX0_runsIn_1 : decode cX0_runsIn 1 = .ok (.istore_n 2, 1) := by decide +kernel
theorem dX0_runsIn_2 : decode cX0_runsIn 2 = .ok (.iconst 0, 1) := by decide +kernel
theorem dX0_runsIn_3 : decode cX0_runsIn 3 = .ok (.istore_n 3, 1) := by decide +kernel
theorem dX0_runsIn_4 : decode cX0_runsIn 4 = .ok (.iload_n 3, 1) := by decide +kernel
theorem dX0_runsIn_5 : decode cX0_runsIn 5 = .ok (.bipush 16, 2) := by decide +kernel
theorem dX0_runsIn_7 : decode cX0_runsIn 7 = .ok (.if_icmp .ge 32, 3) := by decide +kernel
theorem dX0_runsIn_10 : decode cX0_runsIn 10 = .ok (.aload_n 0, 1) := by decide +kernel
theorem dX0_runsIn_11 : decode cX0_runsIn 11 = .ok (.iload_n 3, 1) := by decide +kernel
theorem dX0_runsIn_12 : decode cX0_runsIn 12 = .ok (.iload_n 1, 1) := by decide +kernel
theorem dX0_runsIn_13 : decode cX0_runsIn 13 = .ok (.invokevirtual 35, 3) := by decide +kernel
theorem dX0_runsIn_16 : decode cX0_runsIn 16 = .ok (.istore 4, 2) := by decide +kernel
theorem dX0_runsIn_18 : decode cX0_runsIn 18 = .ok (.iload_n 2, 1) := by decide +kernel
theorem dX0_runsIn_19 : decode cX0_runsIn 19 = .ok (.iload 4, 2) := by decide +kernel
theorem dX0_runsIn_21 : decode cX0_runsIn 21 = .ok (.iload 4, 2) := by decide +kernel
theorem dX0_runsIn_23 : decode cX0_runsIn 23 = .ok (.iconst 1, 1) := by decide +kernel
theorem dX0_runsIn_24 : decode cX0_runsIn 24 = .ok (.ishl, 1) := by decide +kernel
theorem dX0_runsIn_25 : decode cX0_runsIn 25 = .ok (.iconst (-1), 1) := by decide +kernel
theorem dX0_runsIn_26 : decode cX0_runsIn 26 = .ok (.ixor, 1) := by decide +kernel
theorem dX0_runsIn_27 : decode cX0_runsIn 27 = .ok (.iand, 1) := by decide +kernel
theorem dX0_runsIn_28 : decode cX0_runsIn 28 = .ok (.invokestatic 46, 3) := by decide +kernel
theorem dX0_runsIn_31 : decode cX0_runsIn 31 = .ok (.iadd, 1) := by decide +kernel
theorem dX0_runsIn_32 : decode cX0_runsIn 32 = .ok (.istore_n 2, 1) := by decide +kernel
theorem dX0_runsIn_33 : decode cX0_runsIn 33 = .ok (.iinc 3 1, 3) := by decide +kernel
theorem dX0_runsIn_36 : decode cX0_runsIn 36 = .ok (.goto (-32), 3) := by decide +kernel
theorem dX0_runsIn_39 : decode cX0_runsIn 39 = .ok (.iload_n 2, 1) := by decide +kernel
theorem dX0_runsIn_40 : decode cX0_runsIn 40 = .ok (.ireturn, 1) := by decide +kernel
theorem dX0_subjectsIn_0 : decode cX0_subjectsIn 0 = .ok (.iconst 0, 1) := by decide +kernel
theorem dX0_subjectsIn_1 : decode cX0_subjectsIn 1 = .ok (.istore_n 2, 1) := by decide +kernel
theorem dX0_subjectsIn_2 : decode cX0_subjectsIn 2 = .ok (.iconst 0, 1) := by decide +kernel
theorem dX0_subjectsIn_3 : decode cX0_subjectsIn 3 = .ok (.istore_n 3, 1) := by decide +kernel
theorem dX0_subjectsIn_4 : decode cX0_subjectsIn 4 = .ok (.iload_n 3, 1) := by decide +kernel
theorem dX0_subjectsIn_5 : decode cX0_subjectsIn 5 = .ok (.bipush 16, 2) := by decide +kernel
theorem dX0_subjectsIn_7 : decode cX0_subjectsIn 7 = .ok (.if_icmp .ge 24, 3) := by decide +kernel
theorem dX0_subjectsIn_10 : decode cX0_subjectsIn 10 = .ok (.aload_n 0, 1) := by decide +kernel
theorem dX0_subjectsIn_11 : decode cX0_subjectsIn 11 = .ok (.iload_n 3, 1) := by decide +kernel
theorem dX0_subjectsIn_12 : decode cX0_subjectsIn 12 = .ok (.iload_n 1, 1) := by decide +kernel
theorem dX0_subjectsIn_13 : decode cX0_subjectsIn 13 = .ok (.invokevirtual 35, 3) := by decide +kernel
theorem dX0_subjectsIn_16 : decode cX0_subjectsIn 16 = .ok (.ifCond .eq 9, 3) := by decide +kernel
theorem dX0_subjectsIn_19 : decode cX0_subjectsIn 19 = .ok (.iload_n 2, 1) := by decide +kernel
theorem dX0_subjectsIn_20 : decode cX0_subjectsIn 20 = .ok (.iconst 1, 1) := by decide +kernel
theorem dX0_subjectsIn_21 : decode cX0_subjectsIn 21 = .ok (.iload_n 3, 1) := by decide +kernel
theorem dX0_subjectsIn_22 : decode cX0_subjectsIn 22 = .ok (.ishl, 1) := by decide +kernel
theorem dX0_subjectsIn_23 : decode cX0_subjectsIn 23 = .ok (.ior, 1) := by decide +kernel
theorem dX0_subjectsIn_24 : decode cX0_subjectsIn 24 = .ok (.istore_n 2, 1) := by decide +kernel
theorem dX0_subjectsIn_25 : decode cX0_subjectsIn 25 = .ok (.iinc 3 1, 3) := by decide +kernel
theorem dX0_subjectsIn_28 : decode cX0_subjectsIn 28 = .ok (.goto (-24), 3) := by decide +kernel
theorem dX0_subjectsIn_31 : decode cX0_subjectsIn 31 = .ok (.iload_n 2, 1) := by decide +kernel
theorem dX0_subjectsIn_32 : decode cX0_subjectsIn 32 = .ok (.ireturn, 1) := by decide +kernel
theorem dX0_crowdedDays_0 : decode cX0_crowdedDays 0 = .ok (.iconst 0, 1) := by decide +kernel
theorem dX0_crowdedDays_1 : decode cX0_crowdedDays 1 = .ok (.istore 4, 2) := by decide +kernel
theorem dX0_crowdedDays_3 : decode cX0_crowdedDays 3 = .ok (.iconst 0, 1) := by decide +kernel
theorem dX0_crowdedDays_4 : decode cX0_crowdedDays 4 = .ok (.istore 5, 2) := by decide +kernel
theorem dX0_crowdedDays_6 : decode cX0_crowdedDays 6 = .ok (.iload 5, 2) := by decide +kernel
theorem dX0_crowdedDays_8 : decode cX0_crowdedDays 8 = .ok (.bipush 31, 2) := by decide +kernel
theorem dX0_crowdedDays_10 : decode cX0_crowdedDays 10 = .ok (.if_icmp .ge 32, 3) := by decide +kernel
theorem dX0_crowdedDays_13 : decode cX0_crowdedDays 13 = .ok (.iload_n 3, 1) := by decide +kernel
theorem dX0_crowdedDays_14 : decode cX0_crowdedDays 14 = .ok (.iload 5, 2) := by decide +kernel
theorem dX0_crowdedDays_16 : decode cX0_crowdedDays 16 = .ok (.invokestatic 42, 3) := by decide +kernel
theorem dX0_crowdedDays_19 : decode cX0_crowdedDays 19 = .ok (.ifCond .eq 17, 3) := by decide +kernel
theorem dX0_crowdedDays_22 : decode cX0_crowdedDays 22 = .ok (.aload_n 0, 1) := by decide +kernel
theorem dX0_crowdedDays_23 : decode cX0_crowdedDays 23 = .ok (.iload_n 2, 1) := by decide +kernel
theorem dX0_crowdedDays_24 : decode cX0_crowdedDays 24 = .ok (.iload 5, 2) := by decide +kernel
theorem dX0_crowdedDays_26 : decode cX0_crowdedDays 26 = .ok (.invokevirtual 51, 3) := by decide +kernel
theorem dX0_crowdedDays_29 : decode cX0_crowdedDays 29 = .ok (.iload_n 1, 1) := by decide +kernel
theorem dX0_crowdedDays_30 : decode cX0_crowdedDays 30 = .ok (.if_icmp .lt 6, 3) := by decide +kernel
theorem dX0_crowdedDays_33 : decode cX0_crowdedDays 33 = .ok (.iinc 4 1, 3) := by decide +kernel
theorem dX0_crowdedDays_36 : decode cX0_crowdedDays 36 = .ok (.iinc 5 1, 3) := by decide +kernel
theorem dX0_crowdedDays_39 : decode cX0_crowdedDays 39 = .ok (.goto (-33), 3) := by decide +kernel
theorem dX0_crowdedDays_42 : decode cX0_crowdedDays 42 = .ok (.iload 4, 2) := by decide +kernel
theorem dX0_crowdedDays_44 : decode cX0_crowdedDays 44 = .ok (.ireturn, 1) := by decide +kernel
theorem dX0_subjectsOn_0 : decode cX0_subjectsOn 0 = .ok (.iconst 0, 1) := by decide +kernel
theorem dX0_subjectsOn_1 : decode cX0_subjectsOn 1 = .ok (.istore_n 3, 1) := by decide +kernel
theorem dX0_subjectsOn_2 : decode cX0_subjectsOn 2 = .ok (.iconst 0, 1) := by decide +kernel
theorem dX0_subjectsOn_3 : decode cX0_subjectsOn 3 = .ok (.istore 4, 2) := by decide +kernel
theorem dX0_subjectsOn_5 : decode cX0_subjectsOn 5 = .ok (.iload 4, 2) := by decide +kernel
theorem dX0_subjectsOn_7 : decode cX0_subjectsOn 7 = .ok (.bipush 16, 2) := by decide +kernel
theorem dX0_subjectsOn_9 : decode cX0_subjectsOn 9 = .ok (.if_icmp .ge 26, 3) := by decide +kernel
theorem dX0_subjectsOn_12 : decode cX0_subjectsOn 12 = .ok (.aload_n 0, 1) := by decide +kernel
theorem dX0_subjectsOn_13 : decode cX0_subjectsOn 13 = .ok (.iload 4, 2) := by decide +kernel
theorem dX0_subjectsOn_15 : decode cX0_subjectsOn 15 = .ok (.iload_n 1, 1) := by decide +kernel
theorem dX0_subjectsOn_16 : decode cX0_subjectsOn 16 = .ok (.invokevirtual 35, 3) := by decide +kernel
theorem dX0_subjectsOn_19 : decode cX0_subjectsOn 19 = .ok (.iload_n 2, 1) := by decide +kernel
theorem dX0_subjectsOn_20 : decode cX0_subjectsOn 20 = .ok (.invokestatic 42, 3) := by decide +kernel
theorem dX0_subjectsOn_23 : decode cX0_subjectsOn 23 = .ok (.ifCond .eq 6, 3) := by decide +kernel
theorem dX0_subjectsOn_26 : decode cX0_subjectsOn 26 = .ok (.iinc 3 1, 3) := by decide +kernel
theorem dX0_subjectsOn_29 : decode cX0_subjectsOn 29 = .ok (.iinc 4 1, 3) := by decide +kernel
theorem dX0_subjectsOn_32 : decode cX0_subjectsOn 32 = .ok (.goto (-27), 3) := by decide +kernel
theorem dX0_subjectsOn_35 : decode cX0_subjectsOn 35 = .ok (.iload_n 3, 1) := by decide +kernel
theorem dX0_subjectsOn_36 : decode cX0_subjectsOn 36 = .ok (.ireturn, 1) := by decide +kernel
theorem dX0_allMarks_0 : decode cX0_allMarks 0 = .ok (.iconst 0, 1) := by decide +kernel
theorem dX0_allMarks_1 : decode cX0_allMarks 1 = .ok (.istore_n 1, 1) := by decide +kernel
theorem dX0_allMarks_2 : decode cX0_allMarks 2 = .ok (.iconst 0, 1) := by decide +kernel
theorem dX0_allMarks_3 : decode cX0_allMarks 3 = .ok (.istore_n 2, 1) := by decide +kernel
theorem dX0_allMarks_4 : decode cX0_allMarks 4 = .ok (.iload_n 2, 1) := by decide +kernel
theorem dX0_allMarks_5 : decode cX0_allMarks 5 = .ok (.bipush 120, 2) := by decide +kernel
theorem dX0_allMarks_7 : decode cX0_allMarks 7 = .ok (.if_icmp .ge 17, 3) := by decide +kernel
theorem dX0_allMarks_10 : decode cX0_allMarks 10 = .ok (.iload_n 1, 1) := by decide +kernel
theorem dX0_allMarks_11 : decode cX0_allMarks 11 = .ok (.aload_n 0, 1) := by decide +kernel
theorem dX0_allMarks_12 : decode cX0_allMarks 12 = .ok (.iload_n 2, 1) := by decide +kernel
theorem dX0_allMarks_13 : decode cX0_allMarks 13 = .ok (.invokevirtual 54, 3) := by decide +kernel
theorem dX0_allMarks_16 : decode cX0_allMarks 16 = .ok (.iadd, 1) := by decide +kernel
theorem dX0_allMarks_17 : decode cX0_allMarks 17 = .ok (.istore_n 1, 1) := by decide +kernel
theorem dX0_allMarks_18 : decode cX0_allMarks 18 = .ok (.iinc 2 1, 3) := by decide +kernel
theorem dX0_allMarks_21 : decode cX0_allMarks 21 = .ok (.goto (-17), 3) := by decide +kernel
theorem dX0_allMarks_24 : decode cX0_allMarks 24 = .ok (.iload_n 1, 1) := by decide +kernel
theorem dX0_allMarks_25 : decode cX0_allMarks 25 = .ok (.ireturn, 1) := by decide +kernel
theorem dX0_oldMonths_0 : decode cX0_oldMonths 0 = .ok (.iconst 0, 1) := by decide +kernel
theorem dX0_oldMonths_1 : decode cX0_oldMonths 1 = .ok (.aload_n 0, 1) := by decide +kernel
theorem dX0_oldMonths_2 : decode cX0_oldMonths 2 = .ok (.getfield 57, 3) := by decide +kernel
theorem dX0_oldMonths_5 : decode cX0_oldMonths 5 = .ok (.invokestatic 31, 3) := by decide +kernel
theorem dX0_oldMonths_8 : decode cX0_oldMonths 8 = .ok (.aload_n 0, 1) := by decide +kernel
theorem dX0_oldMonths_9 : decode cX0_oldMonths 9 = .ok (.getfield 9, 3) := by decide +kernel
theorem dX0_oldMonths_12 : decode cX0_oldMonths 12 = .ok (.isub, 1) := by decide +kernel
theorem dX0_oldMonths_13 : decode cX0_oldMonths 13 = .ok (.iconst 1, 1) := by decide +kernel
theorem dX0_oldMonths_14 : decode cX0_oldMonths 14 = .ok (.iadd, 1) := by decide +kernel
theorem dX0_oldMonths_15 : decode cX0_oldMonths 15 = .ok (.invokestatic 60, 3) := by decide +kernel
theorem dX0_oldMonths_18 : decode cX0_oldMonths 18 = .ok (.ireturn, 1) := by decide +kernel
theorem dX0_isOld_0 : decode cX0_isOld 0 = .ok (.iload_n 1, 1) := by decide +kernel
theorem dX0_isOld_1 : decode cX0_isOld 1 = .ok (.aload_n 0, 1) := by decide +kernel
theorem dX0_isOld_2 : decode cX0_isOld 2 = .ok (.invokevirtual 65, 3) := by decide +kernel
theorem dX0_isOld_5 : decode cX0_isOld 5 = .ok (.if_icmp .ge 7, 3) := by decide +kernel
theorem dX0_isOld_8 : decode cX0_isOld 8 = .ok (.iconst 1, 1) := by decide +kernel
theorem dX0_isOld_9 : decode cX0_isOld 9 = .ok (.goto 4, 3) := by decide +kernel
theorem dX0_isOld_12 : decode cX0_isOld 12 = .ok (.iconst 0, 1) := by decide +kernel
theorem dX0_isOld_13 : decode cX0_isOld 13 = .ok (.ireturn, 1) := by decide +kernel
theorem dX0_formOf_0 : decode cX0_formOf 0 = .ok (.iload_n 1, 1) := by decide +kernel
theorem dX0_formOf_1 : decode cX0_formOf 1 = .ok (.invokestatic 69, 3) := by decide +kernel
theorem dX0_formOf_4 : decode cX0_formOf 4 = .ok (.ifCond .eq 12, 3) := by decide +kernel
theorem dX0_formOf_7 : decode cX0_formOf 7 = .ok (.aload_n 0, 1) := by decide +kernel
theorem dX0_formOf_8 : decode cX0_formOf 8 = .ok (.getfield 25, 3) := by decide +kernel
theorem dX0_formOf_11 : decode cX0_formOf 11 = .ok (.iload_n 1, 1) := by decide +kernel
theorem dX0_formOf_12 : decode cX0_formOf 12 = .ok (.iaload, 1) := by decide +kernel
theorem dX0_formOf_13 : decode cX0_formOf 13 = .ok (.goto 4, 3) := by decide +kernel
theorem dX0_formOf_16 : decode cX0_formOf 16 = .ok (.iconst 5, 1) := by decide +kernel
theorem dX0_formOf_17 : decode cX0_formOf 17 = .ok (.ireturn, 1) := by decide +kernel
theorem dX0_namedBy_0 : decode cX0_namedBy 0 = .ok (.iload_n 1, 1) := by decide +kernel
theorem dX0_namedBy_1 : decode cX0_namedBy 1 = .ok (.invokestatic 69, 3) := by decide +kernel
theorem dX0_namedBy_4 : decode cX0_namedBy 4 = .ok (.ifCond .eq 12, 3) := by decide +kernel
theorem dX0_namedBy_7 : decode cX0_namedBy 7 = .ok (.aload_n 0, 1) := by decide +kernel
theorem dX0_namedBy_8 : decode cX0_namedBy 8 = .ok (.getfield 28, 3) := by decide +kernel
theorem dX0_namedBy_11 : decode cX0_namedBy 11 = .ok (.iload_n 1, 1) := by decide +kernel
theorem dX0_namedBy_12 : decode cX0_namedBy 12 = .ok (.iaload, 1) := by decide +kernel
theorem dX0_namedBy_13 : decode cX0_namedBy 13 = .ok (.goto 5, 3) := by decide +kernel
theorem dX0_namedBy_16 : decode cX0_namedBy 16 = .ok (.bipush (-6), 2) := by decide +kernel
theorem dX0_namedBy_18 : decode cX0_namedBy 18 = .ok (.ireturn, 1) := by decide +kernel
theorem dX0_sizeOf_0 : decode cX0_sizeOf 0 = .ok (.aload_n 0, 1) := by decide +kernel
theorem dX0_sizeOf_1 : decode cX0_sizeOf 1 = .ok (.iload_n 1, 1) := by decide +kernel
theorem dX0_sizeOf_2 : decode cX0_sizeOf 2 = .ok (.aload_n 0, 1) := by decide +kernel
theorem dX0_sizeOf_3 : decode cX0_sizeOf 3 = .ok (.iload_n 1, 1) := by decide +kernel
theorem dX0_sizeOf_4 : decode cX0_sizeOf 4 = .ok (.invokevirtual 73, 3) := by decide +kernel
theorem dX0_sizeOf_7 : decode cX0_sizeOf 7 = .ok (.aload_n 0, 1) := by decide +kernel
theorem dX0_sizeOf_8 : decode cX0_sizeOf 8 = .ok (.iload_n 1, 1) := by decide +kernel
theorem dX0_sizeOf_9 : decode cX0_sizeOf 9 = .ok (.invokevirtual 76, 3) := by decide +kernel
theorem dX0_sizeOf_12 : decode cX0_sizeOf 12 = .ok (.invokevirtual 79, 3) := by decide +kernel
theorem dX0_sizeOf_15 : decode cX0_sizeOf 15 = .ok (.ireturn, 1) := by decide +kernel
theorem dX0_allSizes_0 : decode cX0_allSizes 0 = .ok (.iconst 0, 1) := by decide +kernel
theorem dX0_allSizes_1 : decode cX0_allSizes 1 = .ok (.istore_n 1, 1) := by decide +kernel
theorem dX0_allSizes_2 : decode cX0_allSizes 2 = .ok (.aload_n 0, 1) := by decide +kernel
theorem dX0_allSizes_3 : decode cX0_allSizes 3 = .ok (.getfield 57, 3) := by decide +kernel
theorem dX0_allSizes_6 : decode cX0_allSizes 6 = .ok (.invokestatic 31, 3) := by decide +kernel
theorem dX0_allSizes_9 : decode cX0_allSizes 9 = .ok (.istore_n 2, 1) := by decide +kernel
theorem dX0_allSizes_10 : decode cX0_allSizes 10 = .ok (.iconst 0, 1) := by decide +kernel
theorem dX0_allSizes_11 : decode cX0_allSizes 11 = .ok (.istore_n 3, 1) := by decide +kernel
theorem dX0_allSizes_12 : decode cX0_allSizes 12 = .ok (.iload_n 3, 1) := by decide +kernel
theorem dX0_allSizes_13 : decode cX0_allSizes 13 = .ok (.iload_n 2, 1) := by decide +kernel
theorem dX0_allSizes_14 : decode cX0_allSizes 14 = .ok (.if_icmp .gt 17, 3) := by decide +kernel
theorem dX0_allSizes_17 : decode cX0_allSizes 17 = .ok (.iload_n 1, 1) := by decide +kernel
theorem dX0_allSizes_18 : decode cX0_allSizes 18 = .ok (.aload_n 0, 1) := by decide +kernel
theorem dX0_allSizes_19 : decode cX0_allSizes 19 = .ok (.iload_n 3, 1) := by decide +kernel
theorem dX0_allSizes_20 : decode cX0_allSizes 20 = .ok (.invokevirtual 83, 3) := by decide +kernel
theorem dX0_allSizes_23 : decode cX0_allSizes 23 = .ok (.iadd, 1) := by decide +kernel
theorem dX0_allSizes_24 : decode cX0_allSizes 24 = .ok (.istore_n 1, 1) := by decide +kernel
theorem dX0_allSizes_25 : decode cX0_allSizes 25 = .ok (.iinc 3 1, 3) := by decide +kernel
theorem dX0_allSizes_28 : decode cX0_allSizes 28 = .ok (.goto (-16), 3) := by decide +kernel
theorem dX0_allSizes_31 : decode cX0_allSizes 31 = .ok (.iload_n 1, 1) := by decide +kernel
theorem dX0_allSizes_32 : decode cX0_allSizes 32 = .ok (.ireturn, 1) := by decide +kernel
theorem dX0_sizeIn_0 : decode cX0_sizeIn 0 = .ok (.iload_n 2, 1) := by decide +kernel
theorem dX0_sizeIn_1 : decode cX0_sizeIn 1 = .ok (.tableswitch 81 0 3 #[31, 46, 59, 67], 31) := by decide +kernel
theorem dX0_sizeIn_32 : decode cX0_sizeIn 32 = .ok (.aload_n 0, 1) := by decide +kernel
theorem dX0_sizeIn_33 : decode cX0_sizeIn 33 = .ok (.iload_n 1, 1) := by decide +kernel
theorem dX0_sizeIn_34 : decode cX0_sizeIn 34 = .ok (.invokevirtual 54, 3) := by decide +kernel
theorem dX0_sizeIn_37 : decode cX0_sizeIn 37 = .ok (.ifCond .ne 7, 3) := by decide +kernel
theorem dX0_sizeIn_40 : decode cX0_sizeIn 40 = .ok (.iconst 0, 1) := by decide +kernel
theorem dX0_sizeIn_41 : decode cX0_sizeIn 41 = .ok (.goto 5, 3) := by decide +kernel
theorem dX0_sizeIn_44 : decode cX0_sizeIn 44 = .ok (.bipush (-6), 2) := by decide +kernel
theorem dX0_sizeIn_46 : decode cX0_sizeIn 46 = .ok (.ireturn, 1) := by decide +kernel
theorem dX0_sizeIn_47 : decode cX0_sizeIn 47 = .ok (.iload_n 3, 1) := by decide +kernel
theorem dX0_sizeIn_48 : decode cX0_sizeIn 48 = .ok (.bipush (-6), 2) := by decide +kernel
theorem dX0_sizeIn_50 : decode cX0_sizeIn 50 = .ok (.if_icmp .ne 8, 3) := by decide +kernel
theorem dX0_sizeIn_53 : decode cX0_sizeIn 53 = .ok (.bipush (-6), 2) := by decide +kernel
theorem dX0_sizeIn_55 : decode cX0_sizeIn 55 = .ok (.goto 4, 3) := by decide +kernel
theorem dX0_sizeIn_58 : decode cX0_sizeIn 58 = .ok (.iconst 1, 1) := by decide +kernel
theorem dX0_sizeIn_59 : decode cX0_sizeIn 59 = .ok (.ireturn, 1) := by decide +kernel
theorem dX0_sizeIn_60 : decode cX0_sizeIn 60 = .ok (.iconst 1, 1) := by decide +kernel
theorem dX0_sizeIn_61 : decode cX0_sizeIn 61 = .ok (.aload_n 0, 1) := by decide +kernel
theorem dX0_sizeIn_62 : decode cX0_sizeIn 62 = .ok (.iload_n 1, 1) := by decide +kernel
theorem dX0_sizeIn_63 : decode cX0_sizeIn 63 = .ok (.invokevirtual 86, 3) := by decide +kernel
theorem dX0_sizeIn_66 : decode cX0_sizeIn 66 = .ok (.iadd, 1) := by decide +kernel
theorem dX0_sizeIn_67 : decode cX0_sizeIn 67 = .ok (.ireturn, 1) := by decide +kernel
theorem dX0_sizeIn_68 : decode cX0_sizeIn 68 = .ok (.iconst 1, 1) := by decide +kernel
theorem dX0_sizeIn_69 : decode cX0_sizeIn 69 = .ok (.aload_n 0, 1) := by decide +kernel
theorem dX0_sizeIn_70 : decode cX0_sizeIn 70 = .ok (.iload_n 1, 1) := by decide +kernel
theorem dX0_sizeIn_71 : decode cX0_sizeIn 71 = .ok (.invokevirtual 54, 3) := by decide +kernel
theorem dX0_sizeIn_74 : decode cX0_sizeIn 74 = .ok (.iconst 3, 1) := by decide +kernel
theorem dX0_sizeIn_75 : decode cX0_sizeIn 75 = .ok (.iadd, 1) := by decide +kernel
theorem dX0_sizeIn_76 : decode cX0_sizeIn 76 = .ok (.iconst 1, 1) := by decide +kernel
theorem dX0_sizeIn_77 : decode cX0_sizeIn 77 = .ok (.isub, 1) := by decide +kernel
theorem dX0_sizeIn_78 : decode cX0_sizeIn 78 = .ok (.iconst 3, 1) := by decide +kernel
theorem dX0_sizeIn_79 : decode cX0_sizeIn 79 = .ok (.idiv, 1) := by decide +kernel
theorem dX0_sizeIn_80 : decode cX0_sizeIn 80 = .ok (.iadd, 1) := by decide +kernel
theorem dX0_sizeIn_81 : decode cX0_sizeIn 81 = .ok (.ireturn, 1) := by decide +kernel
theorem dX0_sizeIn_82 : decode cX0_sizeIn 82 = .ok (.bipush 16, 2) := by decide +kernel
theorem dX0_sizeIn_84 : decode cX0_sizeIn 84 = .ok (.ireturn, 1) := by decide +kernel
theorem dX0_twinOf_0 : decode cX0_twinOf 0 = .ok (.iconst 0, 1) := by decide +kernel
theorem dX0_twinOf_1 : decode cX0_twinOf 1 = .ok (.istore_n 3, 1) := by decide +kernel
theorem dX0_twinOf_2 : decode cX0_twinOf 2 = .ok (.iload_n 3, 1) := by decide +kernel
theorem dX0_twinOf_3 : decode cX0_twinOf 3 = .ok (.iload_n 1, 1) := by decide +kernel
theorem dX0_twinOf_4 : decode cX0_twinOf 4 = .ok (.if_icmp .ge 66, 3) := by decide +kernel
theorem dX0_twinOf_7 : decode cX0_twinOf 7 = .ok (.iload_n 3, 1) := by decide +kernel
theorem dX0_twinOf_8 : decode cX0_twinOf 8 = .ok (.aload_n 0, 1) := by decide +kernel
theorem dX0_twinOf_9 : decode cX0_twinOf 9 = .ok (.getfield 25, 3) := by decide +kernel
theorem dX0_twinOf_12 : decode cX0_twinOf 12 = .ok (.arraylength, 1) := by decide +kernel
theorem dX0_twinOf_13 : decode cX0_twinOf 13 = .ok (.if_icmp .ge 57, 3) := by decide +kernel
theorem dX0_twinOf_16 : decode cX0_twinOf 16 = .ok (.aload_n 0, 1) := by decide +kernel
theorem dX0_twinOf_17 : decode cX0_twinOf 17 = .ok (.getfield 25, 3) := by decide +kernel
theorem dX0_twinOf_20 : decode cX0_twinOf 20 = .ok (.iload_n 3, 1) := by decide +kernel
theorem dX0_twinOf_21 : decode cX0_twinOf 21 = .ok (.iaload, 1) := by decide +kernel
theorem dX0_twinOf_22 : decode cX0_twinOf 22 = .ok (.istore 4, 2) := by decide +kernel
theorem dX0_twinOf_24 : decode cX0_twinOf 24 = .ok (.iload 4, 2) := by decide +kernel
theorem dX0_twinOf_26 : decode cX0_twinOf 26 = .ok (.iconst 5, 1) := by decide +kernel
theorem dX0_twinOf_27 : decode cX0_twinOf 27 = .ok (.if_icmp .eq 18, 3) := by decide +kernel
theorem dX0_twinOf_30 : decode cX0_twinOf 30 = .ok (.iload 4, 2) := by decide +kernel
theorem dX0_twinOf_32 : decode cX0_twinOf 32 = .ok (.iconst 1, 1) := by decide +kernel
theorem dX0_twinOf_33 : decode cX0_twinOf 33 = .ok (.if_icmp .eq 12, 3) := by decide +kernel
theorem dX0_twinOf_36 : decode cX0_twinOf 36 = .ok (.iload_n 3, 1) := by decide +kernel
theorem dX0_twinOf_37 : decode cX0_twinOf 37 = .ok (.iload_n 2, 1) := by decide +kernel
theorem dX0_twinOf_38 : decode cX0_twinOf 38 = .ok (.if_icmp .eq 7, 3) := by decide +kernel
theorem dX0_twinOf_41 : decode cX0_twinOf 41 = .ok (.iconst 1, 1) := by decide +kernel
theorem dX0_twinOf_42 : decode cX0_twinOf 42 = .ok (.goto 4, 3) := by decide +kernel
theorem dX0_twinOf_45 : decode cX0_twinOf 45 = .ok (.iconst 0, 1) := by decide +kernel
theorem dX0_twinOf_46 : decode cX0_twinOf 46 = .ok (.istore 5, 2) := by decide +kernel
theorem dX0_twinOf_48 : decode cX0_twinOf 48 = .ok (.iload 5, 2) := by decide +kernel
theorem dX0_twinOf_50 : decode cX0_twinOf 50 = .ok (.ifCond .eq 14, 3) := by decide +kernel
theorem dX0_twinOf_53 : decode cX0_twinOf 53 = .ok (.aload_n 0, 1) := by decide +kernel
theorem dX0_twinOf_54 : decode cX0_twinOf 54 = .ok (.iload_n 3, 1) := by decide +kernel
theorem dX0_twinOf_55 : decode cX0_twinOf 55 = .ok (.iload_n 1, 1) := by decide +kernel
theorem dX0_twinOf_56 : decode cX0_twinOf 56 = .ok (.invokevirtual 89, 3) := by decide +kernel
theorem dX0_twinOf_59 : decode cX0_twinOf 59 = .ok (.ifCond .eq 5, 3) := by decide +kernel
theorem dX0_twinOf_62 : decode cX0_twinOf 62 = .ok (.iload_n 3, 1) := by decide +kernel
theorem dX0_twinOf_63 : decode cX0_twinOf 63 = .ok (.ireturn, 1) := by decide +kernel
theorem dX0_twinOf_64 : decode cX0_twinOf 64 = .ok (.iinc 3 1, 3) := by decide +kernel
theorem dX0_twinOf_67 : decode cX0_twinOf 67 = .ok (.goto (-65), 3) := by decide +kernel
theorem dX0_twinOf_70 : decode cX0_twinOf 70 = .ok (.bipush (-6), 2) := by decide +kernel
theorem dX0_twinOf_72 : decode cX0_twinOf 72 = .ok (.ireturn, 1) := by decide +kernel
theorem dX0_hasSameMarks_0 : decode cX0_hasSameMarks 0 = .ok (.iconst 0, 1) := by decide +kernel
theorem dX0_hasSameMarks_1 : decode cX0_hasSameMarks 1 = .ok (.istore_n 3, 1) := by decide +kernel
theorem dX0_hasSameMarks_2 : decode cX0_hasSameMarks 2 = .ok (.iload_n 3, 1) := by decide +kernel
theorem dX0_hasSameMarks_3 : decode cX0_hasSameMarks 3 = .ok (.bipush 16, 2) := by decide +kernel
theorem dX0_hasSameMarks_5 : decode cX0_hasSameMarks 5 = .ok (.if_icmp .ge 26, 3) := by decide +kernel
theorem dX0_hasSameMarks_8 : decode cX0_hasSameMarks 8 = .ok (.aload_n 0, 1) := by decide +kernel
theorem dX0_hasSameMarks_9 : decode cX0_hasSameMarks 9 = .ok (.iload_n 3, 1) := by decide +kernel
theorem dX0_hasSameMarks_10 : decode cX0_hasSameMarks 10 = .ok (.iload_n 1, 1) := by decide +kernel
theorem dX0_hasSameMarks_11 : decode cX0_hasSameMarks 11 = .ok (.invokevirtual 35, 3) := by decide +kernel
theorem dX0_hasSameMarks_14 : decode cX0_hasSameMarks 14 = .ok (.aload_n 0, 1) := by decide +kernel
theorem dX0_hasSameMarks_15 : decode cX0_hasSameMarks 15 = .ok (.iload_n 3, 1) := by decide +kernel
theorem dX0_hasSameMarks_16 : decode cX0_hasSameMarks 16 = .ok (.iload_n 2, 1) := by decide +kernel
theorem dX0_hasSameMarks_17 : decode cX0_hasSameMarks 17 = .ok (.invokevirtual 35, 3) := by decide +kernel
theorem dX0_hasSameMarks_20 : decode cX0_hasSameMarks 20 = .ok (.if_icmp .eq 5, 3) := by decide +kernel
theorem dX0_hasSameMarks_23 : decode cX0_hasSameMarks 23 = .ok (.iconst 0, 1) := by decide +kernel
theorem dX0_hasSameMarks_24 : decode cX0_hasSameMarks 24 = .ok (.ireturn, 1) := by decide +kernel
theorem dX0_hasSameMarks_25 : decode cX0_hasSameMarks 25 = .ok (.iinc 3 1, 3) := by decide +kernel
theorem dX0_hasSameMarks_28 : decode cX0_hasSameMarks 28 = .ok (.goto (-26), 3) := by decide +kernel
theorem dX0_hasSameMarks_31 : decode cX0_hasSameMarks 31 = .ok (.iconst 1, 1) := by decide +kernel
theorem dX0_hasSameMarks_32 : decode cX0_hasSameMarks 32 = .ok (.ireturn, 1) := by decide +kernel
theorem dX0_fold_0 : decode cX0_fold 0 = .ok (.iload_n 1, 1) := by decide +kernel
theorem dX0_fold_1 : decode cX0_fold 1 = .ok (.invokestatic 69, 3) := by decide +kernel
theorem dX0_fold_4 : decode cX0_fold 4 = .ok (.ifCond .ne 4, 3) := by decide +kernel
theorem dX0_fold_7 : decode cX0_fold 7 = .ok (.return_, 1) := by decide +kernel
theorem dX0_fold_8 : decode cX0_fold 8 = .ok (.aload_n 0, 1) := by decide +kernel
theorem dX0_fold_9 : decode cX0_fold 9 = .ok (.iload_n 1, 1) := by decide +kernel
theorem dX0_fold_10 : decode cX0_fold 10 = .ok (.iload_n 2, 1) := by decide +kernel
theorem dX0_fold_11 : decode cX0_fold 11 = .ok (.invokevirtual 92, 3) := by decide +kernel
theorem dX0_fold_14 : decode cX0_fold 14 = .ok (.istore_n 3, 1) := by decide +kernel
theorem dX0_fold_15 : decode cX0_fold 15 = .ok (.iconst 4, 1) := by decide +kernel
theorem dX0_fold_16 : decode cX0_fold 16 = .ok (.istore 4, 2) := by decide +kernel
theorem dX0_fold_18 : decode cX0_fold 18 = .ok (.bipush 16, 2) := by decide +kernel
theorem dX0_fold_20 : decode cX0_fold 20 = .ok (.istore 5, 2) := by decide +kernel
theorem dX0_fold_22 : decode cX0_fold 22 = .ok (.iconst 3, 1) := by decide +kernel
theorem dX0_fold_23 : decode cX0_fold 23 = .ok (.istore 6, 2) := by decide +kernel
theorem dX0_fold_25 : decode cX0_fold 25 = .ok (.iload 6, 2) := by decide +kernel
theorem dX0_fold_27 : decode cX0_fold 27 = .ok (.ifCond .lt 41, 3) := by decide +kernel
theorem dX0_fold_30 : decode cX0_fold 30 = .ok (.aload_n 0, 1) := by decide +kernel
theorem dX0_fold_31 : decode cX0_fold 31 = .ok (.iload_n 1, 1) := by decide +kernel
theorem dX0_fold_32 : decode cX0_fold 32 = .ok (.iload 6, 2) := by decide +kernel
theorem dX0_fold_34 : decode cX0_fold 34 = .ok (.iload_n 3, 1) := by decide +kernel
theorem dX0_fold_35 : decode cX0_fold 35 = .ok (.invokevirtual 79, 3) := by decide +kernel
theorem dX0_fold_38 : decode cX0_fold 38 = .ok (.istore 7, 2) := by decide +kernel
theorem dX0_fold_40 : decode cX0_fold 40 = .ok (.iload 7, 2) := by decide +kernel
theorem dX0_fold_42 : decode cX0_fold 42 = .ok (.bipush (-6), 2) := by decide +kernel
theorem dX0_fold_44 : decode cX0_fold 44 = .ok (.if_icmp .eq 18, 3) := by decide +kernel
theorem dX0_fold_47 : decode cX0_fold 47 = .ok (.iload 7, 2) := by decide +kernel
theorem dX0_fold_49 : decode cX0_fold 49 = .ok (.iload 5, 2) := by decide +kernel
theorem dX0_fold_51 : decode cX0_fold 51 = .ok (.if_icmp .gt 11, 3) := by decide +kernel
theorem dX0_fold_54 : decode cX0_fold 54 = .ok (.iload 7, 2) := by decide +kernel
theorem dX0_fold_56 : decode cX0_fold 56 = .ok (.istore 5, 2) := by decide +kernel
theorem dX0_fold_58 : decode cX0_fold 58 = .ok (.iload 6, 2) := by decide +kernel
theorem dX0_fold_60 : decode cX0_fold 60 = .ok (.istore 4, 2) := by decide +kernel
theorem dX0_fold_62 : decode cX0_fold 62 = .ok (.iinc 6 (-1), 3) := by decide +kernel
theorem dX0_fold_65 : decode cX0_fold 65 = .ok (.goto (-40), 3) := by decide +kernel
theorem dX0_fold_68 : decode cX0_fold 68 = .ok (.aload_n 0, 1) := by decide +kernel
theorem dX0_fold_69 : decode cX0_fold 69 = .ok (.getfield 25, 3) := by decide +kernel
theorem dX0_fold_72 : decode cX0_fold 72 = .ok (.iload_n 1, 1) := by decide +kernel
theorem dX0_fold_73 : decode cX0_fold 73 = .ok (.iload 4, 2) := by decide +kernel
theorem dX0_fold_75 : decode cX0_fold 75 = .ok (.iastore, 1) := by decide +kernel
theorem dX0_fold_76 : decode cX0_fold 76 = .ok (.aload_n 0, 1) := by decide +kernel
theorem dX0_fold_77 : decode cX0_fold 77 = .ok (.getfield 28, 3) := by decide +kernel
theorem dX0_fold_80 : decode cX0_fold 80 = .ok (.iload_n 1, 1) := by decide +kernel
theorem dX0_fold_81 : decode cX0_fold 81 = .ok (.iload 4, 2) := by decide +kernel
theorem dX0_fold_83 : decode cX0_fold 83 = .ok (.iconst 1, 1) := by decide +kernel
theorem dX0_fold_84 : decode cX0_fold 84 = .ok (.if_icmp .ne 7, 3) := by decide +kernel
theorem dX0_fold_87 : decode cX0_fold 87 = .ok (.iload_n 3, 1) := by decide +kernel
theorem dX0_fold_88 : decode cX0_fold 88 = .ok (.goto 5, 3) := by decide +kernel
theorem dX0_fold_91 : decode cX0_fold 91 = .ok (.bipush (-6), 2) := by decide +kernel
theorem dX0_fold_93 : decode cX0_fold 93 = .ok (.iastore, 1) := by decide +kernel
theorem dX0_fold_94 : decode cX0_fold 94 = .ok (.aload_n 0, 1) := by decide +kernel
theorem dX0_fold_95 : decode cX0_fold 95 = .ok (.dup, 1) := by decide +kernel
theorem dX0_fold_96 : decode cX0_fold 96 = .ok (.getfield 95, 3) := by decide +kernel
theorem dX0_fold_99 : decode cX0_fold 99 = .ok (.iload 5, 2) := by decide +kernel
theorem dX0_fold_101 : decode cX0_fold 101 = .ok (.iadd, 1) := by decide +kernel
theorem dX0_fold_102 : decode cX0_fold 102 = .ok (.putfield 95, 3) := by decide +kernel
theorem dX0_fold_105 : decode cX0_fold 105 = .ok (.aload_n 0, 1) := by decide +kernel
theorem dX0_fold_106 : decode cX0_fold 106 = .ok (.dup, 1) := by decide +kernel
theorem dX0_fold_107 : decode cX0_fold 107 = .ok (.getfield 98, 3) := by decide +kernel
theorem dX0_fold_110 : decode cX0_fold 110 = .ok (.iconst 1, 1) := by decide +kernel
theorem dX0_fold_111 : decode cX0_fold 111 = .ok (.iadd, 1) := by decide +kernel
theorem dX0_fold_112 : decode cX0_fold 112 = .ok (.putfield 98, 3) := by decide +kernel
theorem dX0_fold_115 : decode cX0_fold 115 = .ok (.return_, 1) := by decide +kernel
theorem dX0_placeInRow_0 : decode cX0_placeInRow 0 = .ok (.iconst 0, 1) := by decide +kernel
theorem dX0_placeInRow_1 : decode cX0_placeInRow 1 = .ok (.istore_n 2, 1) := by decide +kernel
theorem dX0_placeInRow_2 : decode cX0_placeInRow 2 = .ok (.iload_n 2, 1) := by decide +kernel
theorem dX0_placeInRow_3 : decode cX0_placeInRow 3 = .ok (.aload_n 0, 1) := by decide +kernel
theorem dX0_placeInRow_4 : decode cX0_placeInRow 4 = .ok (.getfield 101, 3) := by decide +kernel
theorem dX0_placeInRow_7 : decode cX0_placeInRow 7 = .ok (.if_icmp .ge 30, 3) := by decide +kernel
theorem dX0_placeInRow_10 : decode cX0_placeInRow 10 = .ok (.iload_n 2, 1) := by decide +kernel
theorem dX0_placeInRow_11 : decode cX0_placeInRow 11 = .ok (.aload_n 0, 1) := by decide +kernel
theorem dX0_placeInRow_12 : decode cX0_placeInRow 12 = .ok (.getfield 22, 3) := by decide +kernel
theorem dX0_placeInRow_15 : decode cX0_placeInRow 15 = .ok (.arraylength, 1) := by decide +kernel
theorem dX0_placeInRow_16 : decode cX0_placeInRow 16 = .ok (.if_icmp .ge 21, 3) := by decide +kernel
theorem dX0_placeInRow_19 : decode cX0_placeInRow 19 = .ok (.aload_n 0, 1) := by decide +kernel
theorem dX0_placeInRow_20 : decode cX0_placeInRow 20 = .ok (.getfield 22, 3) := by decide +kernel
theorem dX0_placeInRow_23 : decode cX0_placeInRow 23 = .ok (.iload_n 2, 1) := by decide +kernel
theorem dX0_placeInRow_24 : decode cX0_placeInRow 24 = .ok (.iaload, 1) := by decide +kernel
theorem dX0_placeInRow_25 : decode cX0_placeInRow 25 = .ok (.iload_n 1, 1) := by decide +kernel
theorem dX0_placeInRow_26 : decode cX0_placeInRow 26 = .ok (.if_icmp .ne 5, 3) := by decide +kernel
theorem dX0_placeInRow_29 : decode cX0_placeInRow 29 = .ok (.iload_n 2, 1) := by decide +kernel
theorem dX0_placeInRow_30 : decode cX0_placeInRow 30 = .ok (.ireturn, 1) := by decide +kernel
theorem dX0_placeInRow_31 : decode cX0_placeInRow 31 = .ok (.iinc 2 1, 3) := by decide +kernel
theorem dX0_placeInRow_34 : decode cX0_placeInRow 34 = .ok (.goto (-32), 3) := by decide +kernel
theorem dX0_placeInRow_37 : decode cX0_placeInRow 37 = .ok (.bipush (-6), 2) := by decide +kernel
theorem dX0_placeInRow_39 : decode cX0_placeInRow 39 = .ok (.ireturn, 1) := by decide +kernel
theorem dX0_leaveRow_0 : decode cX0_leaveRow 0 = .ok (.iload_n 1, 1) := by decide +kernel
theorem dX0_leaveRow_1 : decode cX0_leaveRow 1 = .ok (.iconst 0, 1) := by decide +kernel
theorem dX0_leaveRow_2 : decode cX0_leaveRow 2 = .ok (.invokestatic 60, 3) := by decide +kernel
theorem dX0_leaveRow_5 : decode cX0_leaveRow 5 = .ok (.iconst 1, 1) := by decide +kernel
theorem dX0_leaveRow_6 : decode cX0_leaveRow 6 = .ok (.iadd, 1) := by decide +kernel
theorem dX0_leaveRow_7 : decode cX0_leaveRow 7 = .ok (.istore_n 2, 1) := by decide +kernel
theorem dX0_leaveRow_8 : decode cX0_leaveRow 8 = .ok (.iload_n 2, 1) := by decide +kernel
theorem dX0_leaveRow_9 : decode cX0_leaveRow 9 = .ok (.aload_n 0, 1) := by decide +kernel
theorem dX0_leaveRow_10 : decode cX0_leaveRow 10 = .ok (.getfield 101, 3) := by decide +kernel
theorem dX0_leaveRow_13 : decode cX0_leaveRow 13 = .ok (.if_icmp .ge 32, 3) := by decide +kernel
theorem dX0_leaveRow_16 : decode cX0_leaveRow 16 = .ok (.iload_n 2, 1) := by decide +kernel
theorem dX0_leaveRow_17 : decode cX0_leaveRow 17 = .ok (.aload_n 0, 1) := by decide +kernel
theorem dX0_leaveRow_18 : decode cX0_leaveRow 18 = .ok (.getfield 22, 3) := by decide +kernel
theorem dX0_leaveRow_21 : decode cX0_leaveRow 21 = .ok (.arraylength, 1) := by decide +kernel
theorem dX0_leaveRow_22 : decode cX0_leaveRow 22 = .ok (.if_icmp .ge 23, 3) := by decide +kernel
theorem dX0_leaveRow_25 : decode cX0_leaveRow 25 = .ok (.aload_n 0, 1) := by decide +kernel
theorem dX0_leaveRow_26 : decode cX0_leaveRow 26 = .ok (.getfield 22, 3) := by decide +kernel
theorem dX0_leaveRow_29 : decode cX0_leaveRow 29 = .ok (.iload_n 2, 1) := by decide +kernel
theorem dX0_leaveRow_30 : decode cX0_leaveRow 30 = .ok (.iconst 1, 1) := by decide +kernel
theorem dX0_leaveRow_31 : decode cX0_leaveRow 31 = .ok (.isub, 1) := by decide +kernel
theorem dX0_leaveRow_32 : decode cX0_leaveRow 32 = .ok (.aload_n 0, 1) := by decide +kernel
theorem dX0_leaveRow_33 : decode cX0_leaveRow 33 = .ok (.getfield 22, 3) := by decide +kernel
theorem dX0_leaveRow_36 : decode cX0_leaveRow 36 = .ok (.iload_n 2, 1) := by decide +kernel
theorem dX0_leaveRow_37 : decode cX0_leaveRow 37 = .ok (.iaload, 1) := by decide +kernel
theorem dX0_leaveRow_38 : decode cX0_leaveRow 38 = .ok (.iastore, 1) := by decide +kernel
theorem dX0_leaveRow_39 : decode cX0_leaveRow 39 = .ok (.iinc 2 1, 3) := by decide +kernel
theorem dX0_leaveRow_42 : decode cX0_leaveRow 42 = .ok (.goto (-34), 3) := by decide +kernel
theorem dX0_leaveRow_45 : decode cX0_leaveRow 45 = .ok (.aload_n 0, 1) := by decide +kernel
theorem dX0_leaveRow_46 : decode cX0_leaveRow 46 = .ok (.dup, 1) := by decide +kernel
theorem dX0_leaveRow_47 : decode cX0_leaveRow 47 = .ok (.getfield 101, 3) := by decide +kernel
theorem dX0_leaveRow_50 : decode cX0_leaveRow 50 = .ok (.iconst 1, 1) := by decide +kernel
theorem dX0_leaveRow_51 : decode cX0_leaveRow 51 = .ok (.isub, 1) := by decide +kernel
theorem dX0_leaveRow_52 : decode cX0_leaveRow 52 = .ok (.putfield 101, 3) := by decide +kernel
theorem dX0_leaveRow_55 : decode cX0_leaveRow 55 = .ok (.return_, 1) := by decide +kernel
theorem dX0_bringToTheEnd_0 : decode cX0_bringToTheEnd 0 = .ok (.aload_n 0, 1) := by decide +kernel
theorem dX0_bringToTheEnd_1 : decode cX0_bringToTheEnd 1 = .ok (.iload_n 1, 1) := by decide +kernel
theorem dX0_bringToTheEnd_2 : decode cX0_bringToTheEnd 2 = .ok (.invokevirtual 104, 3) := by decide +kernel
theorem dX0_bringToTheEnd_5 : decode cX0_bringToTheEnd 5 = .ok (.istore_n 2, 1) := by decide +kernel
theorem dX0_bringToTheEnd_6 : decode cX0_bringToTheEnd 6 = .ok (.iload_n 2, 1) := by decide +kernel
theorem dX0_bringToTheEnd_7 : decode cX0_bringToTheEnd 7 = .ok (.bipush (-6), 2) := by decide +kernel
theorem dX0_bringToTheEnd_9 : decode cX0_bringToTheEnd 9 = .ok (.if_icmp .eq 11, 3) := by decide +kernel
theorem dX0_bringToTheEnd_12 : decode cX0_bringToTheEnd 12 = .ok (.aload_n 0, 1) := by decide +kernel
theorem dX0_bringToTheEnd_13 : decode cX0_bringToTheEnd 13 = .ok (.iload_n 2, 1) := by decide +kernel
theorem dX0_bringToTheEnd_14 : decode cX0_bringToTheEnd 14 = .ok (.invokevirtual 107, 3) := by decide +kernel
theorem dX0_bringToTheEnd_17 : decode cX0_bringToTheEnd 17 = .ok (.goto 49, 3) := by decide +kernel
theorem dX0_bringToTheEnd_20 : decode cX0_bringToTheEnd 20 = .ok (.iload_n 1, 1) := by decide +kernel
theorem dX0_bringToTheEnd_21 : decode cX0_bringToTheEnd 21 = .ok (.invokestatic 69, 3) := by decide +kernel
theorem dX0_bringToTheEnd_24 : decode cX0_bringToTheEnd 24 = .ok (.ifCond .eq 42, 3) := by decide +kernel
theorem dX0_bringToTheEnd_27 : decode cX0_bringToTheEnd 27 = .ok (.aload_n 0, 1) := by decide +kernel
theorem dX0_bringToTheEnd_28 : decode cX0_bringToTheEnd 28 = .ok (.dup, 1) := by decide +kernel
theorem dX0_bringToTheEnd_29 : decode cX0_bringToTheEnd 29 = .ok (.getfield 95, 3) := by decide +kernel
theorem dX0_bringToTheEnd_32 : decode cX0_bringToTheEnd 32 = .ok (.aload_n 0, 1) := by decide +kernel
theorem dX0_bringToTheEnd_33 : decode cX0_bringToTheEnd 33 = .ok (.iload_n 1, 1) := by decide +kernel
theorem dX0_bringToTheEnd_34 : decode cX0_bringToTheEnd 34 = .ok (.invokevirtual 83, 3) := by decide +kernel
theorem dX0_bringToTheEnd_37 : decode cX0_bringToTheEnd 37 = .ok (.iadd, 1) := by decide +kernel
theorem dX0_bringToTheEnd_38 : decode cX0_bringToTheEnd 38 = .ok (.putfield 95, 3) := by decide +kernel
theorem dX0_bringToTheEnd_41 : decode cX0_bringToTheEnd 41 = .ok (.aload_n 0, 1) := by decide +kernel
theorem dX0_bringToTheEnd_42 : decode cX0_bringToTheEnd 42 = .ok (.dup, 1) := by decide +kernel
theorem dX0_bringToTheEnd_43 : decode cX0_bringToTheEnd 43 = .ok (.getfield 111, 3) := by decide +kernel
theorem dX0_bringToTheEnd_46 : decode cX0_bringToTheEnd 46 = .ok (.iconst 1, 1) := by decide +kernel
theorem dX0_bringToTheEnd_47 : decode cX0_bringToTheEnd 47 = .ok (.iadd, 1) := by decide +kernel
theorem dX0_bringToTheEnd_48 : decode cX0_bringToTheEnd 48 = .ok (.putfield 111, 3) := by decide +kernel
theorem dX0_bringToTheEnd_51 : decode cX0_bringToTheEnd 51 = .ok (.aload_n 0, 1) := by decide +kernel
theorem dX0_bringToTheEnd_52 : decode cX0_bringToTheEnd 52 = .ok (.getfield 25, 3) := by decide +kernel
theorem dX0_bringToTheEnd_55 : decode cX0_bringToTheEnd 55 = .ok (.iload_n 1, 1) := by decide +kernel
theorem dX0_bringToTheEnd_56 : decode cX0_bringToTheEnd 56 = .ok (.iconst 5, 1) := by decide +kernel
theorem dX0_bringToTheEnd_57 : decode cX0_bringToTheEnd 57 = .ok (.iastore, 1) := by decide +kernel
theorem dX0_bringToTheEnd_58 : decode cX0_bringToTheEnd 58 = .ok (.aload_n 0, 1) := by decide +kernel
theorem dX0_bringToTheEnd_59 : decode cX0_bringToTheEnd 59 = .ok (.getfield 28, 3) := by decide +kernel
theorem dX0_bringToTheEnd_62 : decode cX0_bringToTheEnd 62 = .ok (.iload_n 1, 1) := by decide +kernel
theorem dX0_bringToTheEnd_63 : decode cX0_bringToTheEnd 63 = .ok (.bipush (-6), 2) := by decide +kernel
theorem dX0_bringToTheEnd_65 : decode cX0_bringToTheEnd 65 = .ok (.iastore, 1) := by decide +kernel
theorem dX0_bringToTheEnd_66 : decode cX0_bringToTheEnd 66 = .ok (.aload_n 0, 1) := by decide +kernel
theorem dX0_bringToTheEnd_67 : decode cX0_bringToTheEnd 67 = .ok (.getfield 101, 3) := by decide +kernel
theorem dX0_bringToTheEnd_70 : decode cX0_bringToTheEnd 70 = .ok (.ifCond .lt 35, 3) := by decide +kernel
theorem dX0_bringToTheEnd_73 : decode cX0_bringToTheEnd 73 = .ok (.aload_n 0, 1) := by decide +kernel
theorem dX0_bringToTheEnd_74 : decode cX0_bringToTheEnd 74 = .ok (.getfield 101, 3) := by decide +kernel
theorem dX0_bringToTheEnd_77 : decode cX0_bringToTheEnd 77 = .ok (.aload_n 0, 1) := by decide +kernel
theorem dX0_bringToTheEnd_78 : decode cX0_bringToTheEnd 78 = .ok (.getfield 22, 3) := by decide +kernel
theorem dX0_bringToTheEnd_81 : decode cX0_bringToTheEnd 81 = .ok (.arraylength, 1) := by decide +kernel
theorem dX0_bringToTheEnd_82 : decode cX0_bringToTheEnd 82 = .ok (.if_icmp .ge 23, 3) := by decide +kernel
theorem dX0_bringToTheEnd_85 : decode cX0_bringToTheEnd 85 = .ok (.aload_n 0, 1) := by decide +kernel
theorem dX0_bringToTheEnd_86 : decode cX0_bringToTheEnd 86 = .ok (.getfield 22, 3) := by decide +kernel
theorem dX0_bringToTheEnd_89 : decode cX0_bringToTheEnd 89 = .ok (.aload_n 0, 1) := by decide +kernel
theorem dX0_bringToTheEnd_90 : decode cX0_bringToTheEnd 90 = .ok (.getfield 101, 3) := by decide +kernel
theorem dX0_bringToTheEnd_93 : decode cX0_bringToTheEnd 93 = .ok (.iload_n 1, 1) := by decide +kernel
theorem dX0_bringToTheEnd_94 : decode cX0_bringToTheEnd 94 = .ok (.iastore, 1) := by decide +kernel
theorem dX0_bringToTheEnd_95 : decode cX0_bringToTheEnd 95 = .ok (.aload_n 0, 1) := by decide +kernel
theorem dX0_bringToTheEnd_96 : decode cX0_bringToTheEnd 96 = .ok (.dup, 1) := by decide +kernel
theorem dX0_bringToTheEnd_97 : decode cX0_bringToTheEnd 97 = .ok (.getfield 101, 3) := by decide +kernel
theorem dX0_bringToTheEnd_100 : decode cX0_bringToTheEnd 100 = .ok (.iconst 1, 1) := by decide +kernel
theorem dX0_bringToTheEnd_101 : decode cX0_bringToTheEnd 101 = .ok (.iadd, 1) := by decide +kernel
theorem dX0_bringToTheEnd_102 : decode cX0_bringToTheEnd 102 = .ok (.putfield 101, 3) := by decide +kernel
theorem dX0_bringToTheEnd_105 : decode cX0_bringToTheEnd 105 = .ok (.return_, 1) := by decide +kernel
theorem dX0_foldSurplus_0 : decode cX0_foldSurplus 0 = .ok (.aload_n 0, 1) := by decide +kernel
theorem dX0_foldSurplus_1 : decode cX0_foldSurplus 1 = .ok (.getfield 101, 3) := by decide +kernel
theorem dX0_foldSurplus_4 : decode cX0_foldSurplus 4 = .ok (.aload_n 0, 1) := by decide +kernel
theorem dX0_foldSurplus_5 : decode cX0_foldSurplus 5 = .ok (.getfield 15, 3) := by decide +kernel
theorem dX0_foldSurplus_8 : decode cX0_foldSurplus 8 = .ok (.isub, 1) := by decide +kernel
theorem dX0_foldSurplus_9 : decode cX0_foldSurplus 9 = .ok (.istore_n 1, 1) := by decide +kernel
theorem dX0_foldSurplus_10 : decode cX0_foldSurplus 10 = .ok (.iconst 0, 1) := by decide +kernel
theorem dX0_foldSurplus_11 : decode cX0_foldSurplus 11 = .ok (.istore_n 2, 1) := by decide +kernel
theorem dX0_foldSurplus_12 : decode cX0_foldSurplus 12 = .ok (.iload_n 2, 1) := by decide +kernel
theorem dX0_foldSurplus_13 : decode cX0_foldSurplus 13 = .ok (.iload_n 1, 1) := by decide +kernel
theorem dX0_foldSurplus_14 : decode cX0_foldSurplus 14 = .ok (.if_icmp .ge 34, 3) := by decide +kernel
theorem dX0_foldSurplus_17 : decode cX0_foldSurplus 17 = .ok (.aload_n 0, 1) := by decide +kernel
theorem dX0_foldSurplus_18 : decode cX0_foldSurplus 18 = .ok (.getfield 22, 3) := by decide +kernel
theorem dX0_foldSurplus_21 : decode cX0_foldSurplus 21 = .ok (.arraylength, 1) := by decide +kernel
theorem dX0_foldSurplus_22 : decode cX0_foldSurplus 22 = .ok (.ifCond .le 26, 3) := by decide +kernel
theorem dX0_foldSurplus_25 : decode cX0_foldSurplus 25 = .ok (.aload_n 0, 1) := by decide +kernel
theorem dX0_foldSurplus_26 : decode cX0_foldSurplus 26 = .ok (.aload_n 0, 1) := by decide +kernel
theorem dX0_foldSurplus_27 : decode cX0_foldSurplus 27 = .ok (.getfield 22, 3) := by decide +kernel
theorem dX0_foldSurplus_30 : decode cX0_foldSurplus 30 = .ok (.iconst 0, 1) := by decide +kernel
theorem dX0_foldSurplus_31 : decode cX0_foldSurplus 31 = .ok (.iaload, 1) := by decide +kernel
theorem dX0_foldSurplus_32 : decode cX0_foldSurplus 32 = .ok (.bipush (-6), 2) := by decide +kernel
theorem dX0_foldSurplus_34 : decode cX0_foldSurplus 34 = .ok (.invokevirtual 114, 3) := by decide +kernel
theorem dX0_foldSurplus_37 : decode cX0_foldSurplus 37 = .ok (.aload_n 0, 1) := by decide +kernel
theorem dX0_foldSurplus_38 : decode cX0_foldSurplus 38 = .ok (.iconst 0, 1) := by decide +kernel
theorem dX0_foldSurplus_39 : decode cX0_foldSurplus 39 = .ok (.invokevirtual 107, 3) := by decide +kernel
theorem dX0_foldSurplus_42 : decode cX0_foldSurplus 42 = .ok (.iinc 2 1, 3) := by decide +kernel
theorem dX0_foldSurplus_45 : decode cX0_foldSurplus 45 = .ok (.goto (-33), 3) := by decide +kernel
theorem dX0_foldSurplus_48 : decode cX0_foldSurplus 48 = .ok (.return_, 1) := by decide +kernel
theorem dX0_lookAt_0 : decode cX0_lookAt 0 = .ok (.aload_n 0, 1) := by decide +kernel
theorem dX0_lookAt_1 : decode cX0_lookAt 1 = .ok (.iload_n 1, 1) := by decide +kernel
theorem dX0_lookAt_2 : decode cX0_lookAt 2 = .ok (.invokevirtual 118, 3) := by decide +kernel
theorem dX0_lookAt_5 : decode cX0_lookAt 5 = .ok (.ifCond .eq 20, 3) := by decide +kernel
theorem dX0_lookAt_8 : decode cX0_lookAt 8 = .ok (.aload_n 0, 1) := by decide +kernel
theorem dX0_lookAt_9 : decode cX0_lookAt 9 = .ok (.iload_n 1, 1) := by decide +kernel
theorem dX0_lookAt_10 : decode cX0_lookAt 10 = .ok (.invokevirtual 73, 3) := by decide +kernel
theorem dX0_lookAt_13 : decode cX0_lookAt 13 = .ok (.ifCond .eq 12, 3) := by decide +kernel
theorem dX0_lookAt_16 : decode cX0_lookAt 16 = .ok (.aload_n 0, 1) := by decide +kernel
theorem dX0_lookAt_17 : decode cX0_lookAt 17 = .ok (.iload_n 1, 1) := by decide +kernel
theorem dX0_lookAt_18 : decode cX0_lookAt 18 = .ok (.invokevirtual 121, 3) := by decide +kernel
theorem dX0_lookAt_21 : decode cX0_lookAt 21 = .ok (.aload_n 0, 1) := by decide +kernel
theorem dX0_lookAt_22 : decode cX0_lookAt 22 = .ok (.invokevirtual 124, 3) := by decide +kernel
theorem dX0_lookAt_25 : decode cX0_lookAt 25 = .ok (.return_, 1) := by decide +kernel
theorem dX0_lookAtMonths_0 : decode cX0_lookAtMonths 0 = .ok (.iload_n 2, 1) := by decide +kernel
theorem dX0_lookAtMonths_1 : decode cX0_lookAtMonths 1 = .ok (.invokestatic 31, 3) := by decide +kernel
theorem dX0_lookAtMonths_4 : decode cX0_lookAtMonths 4 = .ok (.istore_n 3, 1) := by decide +kernel
theorem dX0_lookAtMonths_5 : decode cX0_lookAtMonths 5 = .ok (.iload_n 1, 1) := by decide +kernel
theorem dX0_lookAtMonths_6 : decode cX0_lookAtMonths 6 = .ok (.invokestatic 31, 3) := by decide +kernel
theorem dX0_lookAtMonths_9 : decode cX0_lookAtMonths 9 = .ok (.istore 4, 2) := by decide +kernel
theorem dX0_lookAtMonths_11 : decode cX0_lookAtMonths 11 = .ok (.iload 4, 2) := by decide +kernel
theorem dX0_lookAtMonths_13 : decode cX0_lookAtMonths 13 = .ok (.iload_n 3, 1) := by decide +kernel
theorem dX0_lookAtMonths_14 : decode cX0_lookAtMonths 14 = .ok (.if_icmp .gt 15, 3) := by decide +kernel
theorem dX0_lookAtMonths_17 : decode cX0_lookAtMonths 17 = .ok (.aload_n 0, 1) := by decide +kernel
theorem dX0_lookAtMonths_18 : decode cX0_lookAtMonths 18 = .ok (.iload 4, 2) := by decide +kernel
theorem dX0_lookAtMonths_20 : decode cX0_lookAtMonths 20 = .ok (.invokevirtual 127, 3) := by decide +kernel
theorem dX0_lookAtMonths_23 : decode cX0_lookAtMonths 23 = .ok (.iinc 4 1, 3) := by decide +kernel
theorem dX0_lookAtMonths_26 : decode cX0_lookAtMonths 26 = .ok (.goto (-15), 3) := by decide +kernel
theorem dX0_lookAtMonths_29 : decode cX0_lookAtMonths 29 = .ok (.return_, 1) := by decide +kernel
theorem dX0_lookAtMarkedMonths_0 : decode cX0_lookAtMarkedMonths 0 = .ok (.iload_n 3, 1) := by decide +kernel
theorem dX0_lookAtMarkedMonths_1 : decode cX0_lookAtMarkedMonths 1 = .ok (.invokestatic 31, 3) := by decide +kernel
theorem dX0_lookAtMarkedMonths_4 : decode cX0_lookAtMarkedMonths 4 = .ok (.istore 4, 2) := by decide +kernel
theorem dX0_lookAtMarkedMonths_6 : decode cX0_lookAtMarkedMonths 6 = .ok (.iload_n 2, 1) := by decide +kernel
theorem dX0_lookAtMarkedMonths_7 : decode cX0_lookAtMarkedMonths 7 = .ok (.invokestatic 31, 3) := by decide +kernel
theorem dX0_lookAtMarkedMonths_10 : decode cX0_lookAtMarkedMonths 10 = .ok (.istore 5, 2) := by decide +kernel
theorem dX0_lookAtMarkedMonths_12 : decode cX0_lookAtMarkedMonths 12 = .ok (.iload 5, 2) := by decide +kernel
theorem dX0_lookAtMarkedMonths_14 : decode cX0_lookAtMarkedMonths 14 = .ok (.iload 4, 2) := by decide +kernel
theorem dX0_lookAtMarkedMonths_16 : decode cX0_lookAtMarkedMonths 16 = .ok (.if_icmp .gt 25, 3) := by decide +kernel
theorem dX0_lookAtMarkedMonths_19 : decode cX0_lookAtMarkedMonths 19 = .ok (.aload_n 0, 1) := by decide +kernel
theorem dX0_lookAtMarkedMonths_20 : decode cX0_lookAtMarkedMonths 20 = .ok (.iload_n 1, 1) := by decide +kernel
theorem dX0_lookAtMarkedMonths_21 : decode cX0_lookAtMarkedMonths 21 = .ok (.iload 5, 2) := by decide +kernel
theorem dX0_lookAtMarkedMonths_23 : decode cX0_lookAtMarkedMonths 23 = .ok (.invokevirtual 35, 3) := by decide +kernel
theorem dX0_lookAtMarkedMonths_26 : decode cX0_lookAtMarkedMonths 26 = .ok (.ifCond .eq 9, 3) := by decide +kernel
theorem dX0_lookAtMarkedMonths_29 : decode cX0_lookAtMarkedMonths 29 = .ok (.aload_n 0, 1) := by decide +kernel
theorem dX0_lookAtMarkedMonths_30 : decode cX0_lookAtMarkedMonths 30 = .ok (.iload 5, 2) := by decide +kernel
theorem dX0_lookAtMarkedMonths_32 : decode cX0_lookAtMarkedMonths 32 = .ok (.invokevirtual 127, 3) := by decide +kernel
theorem dX0_lookAtMarkedMonths_35 : decode cX0_lookAtMarkedMonths 35 = .ok (.iinc 5 1, 3) := by decide +kernel
theorem dX0_lookAtMarkedMonths_38 : decode cX0_lookAtMarkedMonths 38 = .ok (.goto (-26), 3) := by decide +kernel
theorem dX0_lookAtMarkedMonths_41 : decode cX0_lookAtMarkedMonths 41 = .ok (.return_, 1) := by decide +kernel
theorem dX0_advance_0 : decode cX0_advance 0 = .ok (.aload_n 0, 1) := by decide +kernel
theorem dX0_advance_1 : decode cX0_advance 1 = .ok (.invokevirtual 65, 3) := by decide +kernel
theorem dX0_advance_4 : decode cX0_advance 4 = .ok (.istore_n 2, 1) := by decide +kernel
theorem dX0_advance_5 : decode cX0_advance 5 = .ok (.aload_n 0, 1) := by decide +kernel
theorem dX0_advance_6 : decode cX0_advance 6 = .ok (.dup, 1) := by decide +kernel
theorem dX0_advance_7 : decode cX0_advance 7 = .ok (.getfield 57, 3) := by decide +kernel
theorem dX0_advance_10 : decode cX0_advance 10 = .ok (.iload_n 1, 1) := by decide +kernel
theorem dX0_advance_11 : decode cX0_advance 11 = .ok (.iadd, 1) := by decide +kernel
theorem dX0_advance_12 : decode cX0_advance 12 = .ok (.putfield 57, 3) := by decide +kernel
theorem dX0_advance_15 : decode cX0_advance 15 = .ok (.aload_n 0, 1) := by decide +kernel
theorem dX0_advance_16 : decode cX0_advance 16 = .ok (.invokevirtual 65, 3) := by decide +kernel
theorem dX0_advance_19 : decode cX0_advance 19 = .ok (.istore_n 3, 1) := by decide +kernel
theorem dX0_advance_20 : decode cX0_advance 20 = .ok (.iload_n 2, 1) := by decide +kernel
theorem dX0_advance_21 : decode cX0_advance 21 = .ok (.istore 4, 2) := by decide +kernel
theorem dX0_advance_23 : decode cX0_advance 23 = .ok (.iload 4, 2) := by decide +kernel
theorem dX0_advance_25 : decode cX0_advance 25 = .ok (.iload_n 3, 1) := by decide +kernel
theorem dX0_advance_26 : decode cX0_advance 26 = .ok (.if_icmp .ge 17, 3) := by decide +kernel
theorem dX0_advance_29 : decode cX0_advance 29 = .ok (.aload_n 0, 1) := by decide +kernel
theorem dX0_advance_30 : decode cX0_advance 30 = .ok (.iload 4, 2) := by decide +kernel
theorem dX0_advance_32 : decode cX0_advance 32 = .ok (.bipush (-6), 2) := by decide +kernel
theorem dX0_advance_34 : decode cX0_advance 34 = .ok (.invokevirtual 114, 3) := by decide +kernel
theorem dX0_advance_37 : decode cX0_advance 37 = .ok (.iinc 4 1, 3) := by decide +kernel
theorem dX0_advance_40 : decode cX0_advance 40 = .ok (.goto (-17), 3) := by decide +kernel
theorem dX0_advance_43 : decode cX0_advance 43 = .ok (.aload_n 0, 1) := by decide +kernel
theorem dX0_advance_44 : decode cX0_advance 44 = .ok (.getfield 57, 3) := by decide +kernel
theorem dX0_advance_47 : decode cX0_advance 47 = .ok (.ireturn, 1) := by decide +kernel
theorem dX0_writeDays_0 : decode cX0_writeDays 0 = .ok (.iconst 0, 1) := by decide +kernel
theorem dX0_writeDays_1 : decode cX0_writeDays 1 = .ok (.istore 5, 2) := by decide +kernel
theorem dX0_writeDays_3 : decode cX0_writeDays 3 = .ok (.iload_n 3, 1) := by decide +kernel
theorem dX0_writeDays_4 : decode cX0_writeDays 4 = .ok (.invokestatic 31, 3) := by decide +kernel
theorem dX0_writeDays_7 : decode cX0_writeDays 7 = .ok (.istore 6, 2) := by decide +kernel
theorem dX0_writeDays_9 : decode cX0_writeDays 9 = .ok (.iload_n 2, 1) := by decide +kernel
theorem dX0_writeDays_10 : decode cX0_writeDays 10 = .ok (.invokestatic 31, 3) := by decide +kernel
theorem dX0_writeDays_13 : decode cX0_writeDays 13 = .ok (.istore 7, 2) := by decide +kernel
theorem dX0_writeDays_15 : decode cX0_writeDays 15 = .ok (.iload 7, 2) := by decide +kernel
theorem dX0_writeDays_17 : decode cX0_writeDays 17 = .ok (.iload 6, 2) := by decide +kernel
theorem dX0_writeDays_19 : decode cX0_writeDays 19 = .ok (.if_icmp .gt 94, 3) := by decide +kernel
theorem dX0_writeDays_22 : decode cX0_writeDays 22 = .ok (.aload_n 0, 1) := by decide +kernel
theorem dX0_writeDays_23 : decode cX0_writeDays 23 = .ok (.iload_n 1, 1) := by decide +kernel
theorem dX0_writeDays_24 : decode cX0_writeDays 24 = .ok (.iload 7, 2) := by decide +kernel
theorem dX0_writeDays_26 : decode cX0_writeDays 26 = .ok (.invokevirtual 35, 3) := by decide +kernel
theorem dX0_writeDays_29 : decode cX0_writeDays 29 = .ok (.istore 8, 2) := by decide +kernel
theorem dX0_writeDays_31 : decode cX0_writeDays 31 = .ok (.iload 7, 2) := by decide +kernel
theorem dX0_writeDays_33 : decode cX0_writeDays 33 = .ok (.iload_n 2, 1) := by decide +kernel
theorem dX0_writeDays_34 : decode cX0_writeDays 34 = .ok (.iload_n 3, 1) := by decide +kernel
theorem dX0_writeDays_35 : decode cX0_writeDays 35 = .ok (.invokestatic 130, 3) := by decide +kernel
theorem dX0_writeDays_38 : decode cX0_writeDays 38 = .ok (.iload 4, 2) := by decide +kernel
theorem dX0_writeDays_40 : decode cX0_writeDays 40 = .ok (.ifCond .eq 10, 3) := by decide +kernel
theorem dX0_writeDays_43 : decode cX0_writeDays 43 = .ok (.iload 8, 2) := by decide +kernel
theorem dX0_writeDays_45 : decode cX0_writeDays 45 = .ok (.iconst (-1), 1) := by decide +kernel
theorem dX0_writeDays_46 : decode cX0_writeDays 46 = .ok (.ixor, 1) := by decide +kernel
theorem dX0_writeDays_47 : decode cX0_writeDays 47 = .ok (.goto 5, 3) := by decide +kernel
theorem dX0_writeDays_50 : decode cX0_writeDays 50 = .ok (.iload 8, 2) := by decide +kernel
theorem dX0_writeDays_52 : decode cX0_writeDays 52 = .ok (.iand, 1) := by decide +kernel
theorem dX0_writeDays_53 : decode cX0_writeDays 53 = .ok (.istore 9, 2) := by decide +kernel
theorem dX0_writeDays_55 : decode cX0_writeDays 55 = .ok (.iload 9, 2) := by decide +kernel
theorem dX0_writeDays_57 : decode cX0_writeDays 57 = .ok (.ifCond .eq 50, 3) := by decide +kernel
theorem dX0_writeDays_60 : decode cX0_writeDays 60 = .ok (.aload_n 0, 1) := by decide +kernel
theorem dX0_writeDays_61 : decode cX0_writeDays 61 = .ok (.iload 7, 2) := by decide +kernel
theorem dX0_writeDays_63 : decode cX0_writeDays 63 = .ok (.invokevirtual 118, 3) := by decide +kernel
theorem dX0_writeDays_66 : decode cX0_writeDays 66 = .ok (.ifCond .eq 15, 3) := by decide +kernel
theorem dX0_writeDays_69 : decode cX0_writeDays 69 = .ok (.aload_n 0, 1) := by decide +kernel
theorem dX0_writeDays_70 : decode cX0_writeDays 70 = .ok (.iload 7, 2) := by decide +kernel
theorem dX0_writeDays_72 : decode cX0_writeDays 72 = .ok (.invokevirtual 133, 3) := by decide +kernel
theorem dX0_writeDays_75 : decode cX0_writeDays 75 = .ok (.aload_n 0, 1) := by decide +kernel
theorem dX0_writeDays_76 : decode cX0_writeDays 76 = .ok (.iload 7, 2) := by decide +kernel
theorem dX0_writeDays_78 : decode cX0_writeDays 78 = .ok (.invokevirtual 121, 3) := by decide +kernel
theorem dX0_writeDays_81 : decode cX0_writeDays 81 = .ok (.aload_n 0, 1) := by decide +kernel
theorem dX0_writeDays_82 : decode cX0_writeDays 82 = .ok (.iload_n 1, 1) := by decide +kernel
theorem dX0_writeDays_83 : decode cX0_writeDays 83 = .ok (.iload 7, 2) := by decide +kernel
theorem dX0_writeDays_85 : decode cX0_writeDays 85 = .ok (.iload 8, 2) := by decide +kernel
theorem dX0_writeDays_87 : decode cX0_writeDays 87 = .ok (.iload 9, 2) := by decide +kernel
theorem dX0_writeDays_89 : decode cX0_writeDays 89 = .ok (.ixor, 1) := by decide +kernel
theorem dX0_writeDays_90 : decode cX0_writeDays 90 = .ok (.invokevirtual 136, 3) := by decide +kernel
theorem dX0_writeDays_93 : decode cX0_writeDays 93 = .ok (.aload_n 0, 1) := by decide +kernel
theorem dX0_writeDays_94 : decode cX0_writeDays 94 = .ok (.invokevirtual 124, 3) := by decide +kernel
theorem dX0_writeDays_97 : decode cX0_writeDays 97 = .ok (.iload 5, 2) := by decide +kernel
theorem dX0_writeDays_99 : decode cX0_writeDays 99 = .ok (.iload 9, 2) := by decide +kernel
theorem dX0_writeDays_101 : decode cX0_writeDays 101 = .ok (.invokestatic 46, 3) := by decide +kernel
theorem dX0_writeDays_104 : decode cX0_writeDays 104 = .ok (.iadd, 1) := by decide +kernel
theorem dX0_writeDays_105 : decode cX0_writeDays 105 = .ok (.istore 5, 2) := by decide +kernel
theorem dX0_writeDays_107 : decode cX0_writeDays 107 = .ok (.iinc 7 1, 3) := by decide +kernel
theorem dX0_writeDays_110 : decode cX0_writeDays 110 = .ok (.goto (-95), 3) := by decide +kernel
theorem dX0_writeDays_113 : decode cX0_writeDays 113 = .ok (.iload 5, 2) := by decide +kernel
theorem dX0_writeDays_115 : decode cX0_writeDays 115 = .ok (.ireturn, 1) := by decide +kernel
theorem dX0_foldNamersOf_0 : decode cX0_foldNamersOf 0 = .ok (.iconst 0, 1) := by decide +kernel
theorem dX0_foldNamersOf_1 : decode cX0_foldNamersOf 1 = .ok (.istore_n 2, 1) := by decide +kernel
theorem dX0_foldNamersOf_2 : decode cX0_foldNamersOf 2 = .ok (.iload_n 2, 1) := by decide +kernel
theorem dX0_foldNamersOf_3 : decode cX0_foldNamersOf 3 = .ok (.bipush 120, 2) := by decide +kernel
theorem dX0_foldNamersOf_5 : decode cX0_foldNamersOf 5 = .ok (.if_icmp .ge 24, 3) := by decide +kernel
theorem dX0_foldNamersOf_8 : decode cX0_foldNamersOf 8 = .ok (.aload_n 0, 1) := by decide +kernel
theorem dX0_foldNamersOf_9 : decode cX0_foldNamersOf 9 = .ok (.iload_n 2, 1) := by decide +kernel
theorem dX0_foldNamersOf_10 : decode cX0_foldNamersOf 10 = .ok (.invokevirtual 76, 3) := by decide +kernel
theorem dX0_foldNamersOf_13 : decode cX0_foldNamersOf 13 = .ok (.iload_n 1, 1) := by decide +kernel
theorem dX0_foldNamersOf_14 : decode cX0_foldNamersOf 14 = .ok (.if_icmp .ne 9, 3) := by decide +kernel
theorem dX0_foldNamersOf_17 : decode cX0_foldNamersOf 17 = .ok (.aload_n 0, 1) := by decide +kernel
theorem dX0_foldNamersOf_18 : decode cX0_foldNamersOf 18 = .ok (.iload_n 2, 1) := by decide +kernel
theorem dX0_foldNamersOf_19 : decode cX0_foldNamersOf 19 = .ok (.iload_n 1, 1) := by decide +kernel
theorem dX0_foldNamersOf_20 : decode cX0_foldNamersOf 20 = .ok (.invokevirtual 114, 3) := by decide +kernel
theorem dX0_foldNamersOf_23 : decode cX0_foldNamersOf 23 = .ok (.iinc 2 1, 3) := by decide +kernel
theorem dX0_foldNamersOf_26 : decode cX0_foldNamersOf 26 = .ok (.goto (-24), 3) := by decide +kernel
theorem dX0_foldNamersOf_29 : decode cX0_foldNamersOf 29 = .ok (.return_, 1) := by decide +kernel
theorem dX1_init_0 : decode cX1_init 0 = .ok (.aload_n 0, 1) := by decide +kernel
theorem dX1_init_1 : decode cX1_init 1 = .ok (.invokespecial 3, 3) := by decide +kernel
theorem dX1_init_4 : decode cX1_init 4 = .ok (.aload_n 0, 1) := by decide +kernel
theorem dX1_init_5 : decode cX1_init 5 = .ok (.bipush 80, 2) := by decide +kernel
theorem dX1_init_7 : decode cX1_init 7 = .ok (.newarray .char, 2) := by decide +kernel
theorem dX1_init_9 : decode cX1_init 9 = .ok (.putfield 9, 3) := by decide +kernel
theorem dX1_init_12 : decode cX1_init 12 = .ok (.aload_n 0, 1) := by decide +kernel
theorem dX1_init_13 : decode cX1_init 13 = .ok (.bipush 40, 2) := by decide +kernel
theorem dX1_init_15 : decode cX1_init 15 = .ok (.anewarray 15, 3) := by decide +kernel
theorem dX1_init_18 : decode cX1_init 18 = .ok (.putfield 17, 3) := by decide +kernel
theorem dX1_init_21 : decode cX1_init 21 = .ok (.iconst 0, 1) := by decide +kernel
theorem dX1_init_22 : decode cX1_init 22 = .ok (.istore_n 1, 1) := by decide +kernel
theorem dX1_init_23 : decode cX1_init 23 = .ok (.iload_n 1, 1) := by decide +kernel
theorem dX1_init_24 : decode cX1_init 24 = .ok (.aload_n 0, 1) := by decide +kernel
theorem dX1_init_25 : decode cX1_init 25 = .ok (.getfield 17, 3) := by decide +kernel
theorem dX1_init_28 : decode cX1_init 28 = .ok (.arraylength, 1) := by decide +kernel
theorem dX1_init_29 : decode cX1_init 29 = .ok (.if_icmp .ge 22, 3) := by decide +kernel
theorem dX1_init_32 : decode cX1_init 32 = .ok (.aload_n 0, 1) := by decide +kernel
theorem dX1_init_33 : decode cX1_init 33 = .ok (.getfield 17, 3) := by decide +kernel
theorem dX1_init_36 : decode cX1_init 36 = .ok (.iload_n 1, 1) := by decide +kernel
theorem dX1_init_37 : decode cX1_init 37 = .ok (.new 15, 3) := by decide +kernel
theorem dX1_init_40 : decode cX1_init 40 = .ok (.dup, 1) := by decide +kernel
theorem dX1_init_41 : decode cX1_init 41 = .ok (.invokespecial 21, 3) := by decide +kernel
theorem dX1_init_44 : decode cX1_init 44 = .ok (.aastore, 1) := by decide +kernel
theorem dX1_init_45 : decode cX1_init 45 = .ok (.iinc 1 1, 3) := by decide +kernel
theorem dX1_init_48 : decode cX1_init 48 = .ok (.goto (-25), 3) := by decide +kernel
theorem dX1_init_51 : decode cX1_init 51 = .ok (.return_, 1) := by decide +kernel
theorem dX1_append_0 : decode cX1_append 0 = .ok (.iload_n 3, 1) := by decide +kernel
theorem dX1_append_1 : decode cX1_append 1 = .ok (.iconst 1, 1) := by decide +kernel
theorem dX1_append_2 : decode cX1_append 2 = .ok (.isub, 1) := by decide +kernel
theorem dX1_append_3 : decode cX1_append 3 = .ok (.istore 4, 2) := by decide +kernel
theorem dX1_append_5 : decode cX1_append 5 = .ok (.iload 4, 2) := by decide +kernel
theorem dX1_append_7 : decode cX1_append 7 = .ok (.ifCond .lt 60, 3) := by decide +kernel
theorem dX1_append_10 : decode cX1_append 10 = .ok (.aload_n 0, 1) := by decide +kernel
theorem dX1_append_11 : decode cX1_append 11 = .ok (.getfield 22, 3) := by decide +kernel
theorem dX1_append_14 : decode cX1_append 14 = .ok (.ifCond .lt 47, 3) := by decide +kernel
theorem dX1_append_17 : decode cX1_append 17 = .ok (.aload_n 0, 1) := by decide +kernel
theorem dX1_append_18 : decode cX1_append 18 = .ok (.getfield 22, 3) := by decide +kernel
theorem dX1_append_21 : decode cX1_append 21 = .ok (.aload_n 0, 1) := by decide +kernel
theorem dX1_append_22 : decode cX1_append 22 = .ok (.getfield 9, 3) := by decide +kernel
theorem dX1_append_25 : decode cX1_append 25 = .ok (.arraylength, 1) := by decide +kernel
theorem dX1_append_26 : decode cX1_append 26 = .ok (.if_icmp .ge 35, 3) := by decide +kernel
theorem dX1_append_29 : decode cX1_append 29 = .ok (.aload_n 0, 1) := by decide +kernel
theorem dX1_append_30 : decode cX1_append 30 = .ok (.getfield 9, 3) := by decide +kernel
theorem dX1_append_33 : decode cX1_append 33 = .ok (.aload_n 0, 1) := by decide +kernel
theorem dX1_append_34 : decode cX1_append 34 = .ok (.getfield 22, 3) := by decide +kernel
theorem dX1_append_37 : decode cX1_append 37 = .ok (.lload_n 1, 1) := by decide +kernel
theorem dX1_append_38 : decode cX1_append 38 = .ok (.bipush 8, 2) := by decide +kernel
theorem dX1_append_40 : decode cX1_append 40 = .ok (.iload 4, 2) := by decide +kernel
theorem dX1_append_42 : decode cX1_append 42 = .ok (.imul, 1) := by decide +kernel
theorem dX1_append_43 : decode cX1_append 43 = .ok (.lushr, 1) := by decide +kernel
theorem dX1_append_44 : decode cX1_append 44 = .ok (.ldc2_w 26, 3) := by decide +kernel
theorem dX1_append_47 : decode cX1_append 47 = .ok (.land, 1) := by decide +kernel
theorem dX1_append_48 : decode cX1_append 48 = .ok (.l2i, 1) := by decide +kernel
theorem dX1_append_49 : decode cX1_append 49 = .ok (.i2c, 1) := by decide +kernel
theorem dX1_append_50 : decode cX1_append 50 = .ok (.castore, 1) := by decide +kernel
theorem dX1_append_51 : decode cX1_append 51 = .ok (.aload_n 0, 1) := by decide +kernel
theorem dX1_append_52 : decode cX1_append 52 = .ok (.dup, 1) := by decide +kernel
theorem dX1_append_53 : decode cX1_append 53 = .ok (.getfield 22, 3) := by decide +kernel
theorem dX1_append_56 : decode cX1_append 56 = .ok (.iconst 1, 1) := by decide +kernel
theorem dX1_append_57 : decode cX1_append 57 = .ok (.iadd, 1) := by decide +kernel
theorem dX1_append_58 : decode cX1_append 58 = .ok (.putfield 22, 3) := by decide +kernel
theorem dX1_append_61 : decode cX1_append 61 = .ok (.iinc 4 (-1), 3) := by decide +kernel
theorem dX1_append_64 : decode cX1_append 64 = .ok (.goto (-59), 3) := by decide +kernel
theorem dX1_append_67 : decode cX1_append 67 = .ok (.return_, 1) := by decide +kernel
theorem dX1_stepAt_0 : decode cX1_stepAt 0 = .ok (.iload_n 1, 1) := by decide +kernel
theorem dX1_stepAt_1 : decode cX1_stepAt 1 = .ok (.ifCond .lt 21, 3) := by decide +kernel
theorem dX1_stepAt_4 : decode cX1_stepAt 4 = .ok (.iload_n 1, 1) := by decide +kernel
theorem dX1_stepAt_5 : decode cX1_stepAt 5 = .ok (.aload_n 0, 1) := by decide +kernel
theorem dX1_stepAt_6 : decode cX1_stepAt 6 = .ok (.getfield 17, 3) := by decide +kernel
theorem dX1_stepAt_9 : decode cX1_stepAt 9 = .ok (.arraylength, 1) := by decide +kernel
theorem dX1_stepAt_10 : decode cX1_stepAt 10 = .ok (.if_icmp .ge 12, 3) := by decide +kernel
theorem dX1_stepAt_13 : decode cX1_stepAt 13 = .ok (.aload_n 0, 1) := by decide +kernel
theorem dX1_stepAt_14 : decode cX1_stepAt 14 = .ok (.getfield 17, 3) := by decide +kernel
theorem dX1_stepAt_17 : decode cX1_stepAt 17 = .ok (.iload_n 1, 1) := by decide +kernel
theorem dX1_stepAt_18 : decode cX1_stepAt 18 = .ok (.aaload, 1) := by decide +kernel
theorem dX1_stepAt_19 : decode cX1_stepAt 19 = .ok (.goto 4, 3) := by decide +kernel
theorem dX1_stepAt_22 : decode cX1_stepAt 22 = .ok (.aconst_null, 1) := by decide +kernel
theorem dX1_stepAt_23 : decode cX1_stepAt 23 = .ok (.areturn, 1) := by decide +kernel
theorem dX1_readAll_0 : decode cX1_readAll 0 = .ok (.aload_n 0, 1) := by decide +kernel
theorem dX1_readAll_1 : decode cX1_readAll 1 = .ok (.iconst 0, 1) := by decide +kernel
theorem dX1_readAll_2 : decode cX1_readAll 2 = .ok (.putfield 28, 3) := by decide +kernel
theorem dX1_readAll_5 : decode cX1_readAll 5 = .ok (.aload_n 0, 1) := by decide +kernel
theorem dX1_readAll_6 : decode cX1_readAll 6 = .ok (.iconst 0, 1) := by decide +kernel
theorem dX1_readAll_7 : decode cX1_readAll 7 = .ok (.putfield 31, 3) := by decide +kernel
theorem dX1_readAll_10 : decode cX1_readAll 10 = .ok (.aload_n 0, 1) := by decide +kernel
theorem dX1_readAll_11 : decode cX1_readAll 11 = .ok (.iconst 0, 1) := by decide +kernel
theorem dX1_readAll_12 : decode cX1_readAll 12 = .ok (.putfield 34, 3) := by decide +kernel
theorem dX1_readAll_15 : decode cX1_readAll 15 = .ok (.iconst 0, 1) := by decide +kernel
theorem dX1_readAll_16 : decode cX1_readAll 16 = .ok (.istore_n 1, 1) := by decide +kernel
theorem dX1_readAll_17 : decode cX1_readAll 17 = .ok (.iload_n 1, 1) := by decide +kernel
theorem dX1_readAll_18 : decode cX1_readAll 18 = .ok (.bipush 80, 2) := by decide +kernel
theorem dX1_readAll_20 : decode cX1_readAll 20 = .ok (.if_icmp .ge 60, 3) := by decide +kernel
theorem dX1_readAll_23 : decode cX1_readAll 23 = .ok (.aload_n 0, 1) := by decide +kernel
theorem dX1_readAll_24 : decode cX1_readAll 24 = .ok (.iload_n 1, 1) := by decide +kernel
theorem dX1_readAll_25 : decode cX1_readAll 25 = .ok (.invokevirtual 37, 3) := by decide +kernel
theorem dX1_readAll_28 : decode cX1_readAll 28 = .ok (.ifCond .ne 8, 3) := by decide +kernel
theorem dX1_readAll_31 : decode cX1_readAll 31 = .ok (.aload_n 0, 1) := by decide +kernel
theorem dX1_readAll_32 : decode cX1_readAll 32 = .ok (.getfield 28, 3) := by decide +kernel
theorem dX1_readAll_35 : decode cX1_readAll 35 = .ok (.ireturn, 1) := by decide +kernel
theorem dX1_readAll_36 : decode cX1_readAll 36 = .ok (.aload_n 0, 1) := by decide +kernel
theorem dX1_readAll_37 : decode cX1_readAll 37 = .ok (.dup, 1) := by decide +kernel
theorem dX1_readAll_38 : decode cX1_readAll 38 = .ok (.getfield 34, 3) := by decide +kernel
theorem dX1_readAll_41 : decode cX1_readAll 41 = .ok (.iconst 1, 1) := by decide +kernel
theorem dX1_readAll_42 : decode cX1_readAll 42 = .ok (.iadd, 1) := by decide +kernel
theorem dX1_readAll_43 : decode cX1_readAll 43 = .ok (.putfield 34, 3) := by decide +kernel
theorem dX1_readAll_46 : decode cX1_readAll 46 = .ok (.aload_n 0, 1) := by decide +kernel
theorem dX1_readAll_47 : decode cX1_readAll 47 = .ok (.getfield 28, 3) := by decide +kernel
theorem dX1_readAll_50 : decode cX1_readAll 50 = .ok (.aload_n 0, 1) := by decide +kernel
theorem dX1_readAll_51 : decode cX1_readAll 51 = .ok (.getfield 22, 3) := by decide +kernel
theorem dX1_readAll_54 : decode cX1_readAll 54 = .ok (.if_icmp .ne 6, 3) := by decide +kernel
theorem dX1_readAll_57 : decode cX1_readAll 57 = .ok (.bipush (-6), 2) := by decide +kernel
theorem dX1_readAll_59 : decode cX1_readAll 59 = .ok (.ireturn, 1) := by decide +kernel
theorem dX1_readAll_60 : decode cX1_readAll 60 = .ok (.aload_n 0, 1) := by decide +kernel
theorem dX1_readAll_61 : decode cX1_readAll 61 = .ok (.bipush 59, 2) := by decide +kernel
theorem dX1_readAll_63 : decode cX1_readAll 63 = .ok (.invokevirtual 41, 3) := by decide +kernel
theorem dX1_readAll_66 : decode cX1_readAll 66 = .ok (.ifCond .ne 8, 3) := by decide +kernel
theorem dX1_readAll_69 : decode cX1_readAll 69 = .ok (.aload_n 0, 1) := by decide +kernel
theorem dX1_readAll_70 : decode cX1_readAll 70 = .ok (.getfield 28, 3) := by decide +kernel
theorem dX1_readAll_73 : decode cX1_readAll 73 = .ok (.ireturn, 1) := by decide +kernel
theorem dX1_readAll_74 : decode cX1_readAll 74 = .ok (.iinc 1 1, 3) := by decide +kernel
theorem dX1_readAll_77 : decode cX1_readAll 77 = .ok (.goto (-60), 3) := by decide +kernel
theorem dX1_readAll_80 : decode cX1_readAll 80 = .ok (.aload_n 0, 1) := by decide +kernel
theorem dX1_readAll_81 : decode cX1_readAll 81 = .ok (.getfield 28, 3) := by decide +kernel
theorem dX1_readAll_84 : decode cX1_readAll 84 = .ok (.ireturn, 1) := by decide +kernel
theorem dX1_readOrder_0 : decode cX1_readOrder 0 = .ok (.aload_n 0, 1) := by decide +kernel
theorem dX1_readOrder_1 : decode cX1_readOrder 1 = .ok (.bipush 112, 2) := by decide +kernel
theorem dX1_readOrder_3 : decode cX1_readOrder 3 = .ok (.invokevirtual 41, 3) := by decide +kernel
theorem dX1_readOrder_6 : decode cX1_readOrder 6 = .ok (.ifCond .eq 32, 3) := by decide +kernel
theorem dX1_readOrder_9 : decode cX1_readOrder 9 = .ok (.aload_n 0, 1) := by decide +kernel
theorem dX1_readOrder_10 : decode cX1_readOrder 10 = .ok (.invokevirtual 45, 3) := by decide +kernel
theorem dX1_readOrder_13 : decode cX1_readOrder 13 = .ok (.istore_n 2, 1) := by decide +kernel
theorem dX1_readOrder_14 : decode cX1_readOrder 14 = .ok (.iload_n 2, 1) := by decide +kernel
theorem dX1_readOrder_15 : decode cX1_readOrder 15 = .ok (.iconst (-1), 1) := by decide +kernel
theorem dX1_readOrder_16 : decode cX1_readOrder 16 = .ok (.if_icmp .eq 20, 3) := by decide +kernel
theorem dX1_readOrder_19 : decode cX1_readOrder 19 = .ok (.aload_n 0, 1) := by decide +kernel
theorem dX1_readOrder_20 : decode cX1_readOrder 20 = .ok (.bipush 112, 2) := by decide +kernel
theorem dX1_readOrder_22 : decode cX1_readOrder 22 = .ok (.iconst 0, 1) := by decide +kernel
theorem dX1_readOrder_23 : decode cX1_readOrder 23 = .ok (.iload_n 2, 1) := by decide +kernel
theorem dX1_readOrder_24 : decode cX1_readOrder 24 = .ok (.iload_n 2, 1) := by decide +kernel
theorem dX1_readOrder_25 : decode cX1_readOrder 25 = .ok (.iload_n 1, 1) := by decide +kernel
theorem dX1_readOrder_26 : decode cX1_readOrder 26 = .ok (.invokevirtual 49, 3) := by decide +kernel
theorem dX1_readOrder_29 : decode cX1_readOrder 29 = .ok (.ifCond .eq 7, 3) := by decide +kernel
theorem dX1_readOrder_32 : decode cX1_readOrder 32 = .ok (.iconst 1, 1) := by decide +kernel
theorem dX1_readOrder_33 : decode cX1_readOrder 33 = .ok (.goto 4, 3) := by decide +kernel
theorem dX1_readOrder_36 : decode cX1_readOrder 36 = .ok (.iconst 0, 1) := by decide +kernel
theorem dX1_readOrder_37 : decode cX1_readOrder 37 = .ok (.ireturn, 1) := by decide +kernel
theorem dX1_readOrder_38 : decode cX1_readOrder 38 = .ok (.aload_n 0, 1) := by decide +kernel
theorem dX1_readOrder_39 : decode cX1_readOrder 39 = .ok (.invokevirtual 53, 3) := by decide +kernel
theorem dX1_readOrder_42 : decode cX1_readOrder 42 = .ok (.istore_n 2, 1) := by decide +kernel
theorem dX1_readOrder_43 : decode cX1_readOrder 43 = .ok (.aload_n 0, 1) := by decide +kernel
theorem dX1_readOrder_44 : decode cX1_readOrder 44 = .ok (.bipush 109, 2) := by decide +kernel
theorem dX1_readOrder_46 : decode cX1_readOrder 46 = .ok (.invokevirtual 41, 3) := by decide +kernel
theorem dX1_readOrder_49 : decode cX1_readOrder 49 = .ok (.ifCond .ne 14, 3) := by decide +kernel
theorem dX1_readOrder_52 : decode cX1_readOrder 52 = .ok (.aload_n 0, 1) := by decide +kernel
theorem dX1_readOrder_53 : decode cX1_readOrder 53 = .ok (.bipush 99, 2) := by decide +kernel
theorem dX1_readOrder_55 : decode cX1_readOrder 55 = .ok (.invokevirtual 41, 3) := by decide +kernel
theorem dX1_readOrder_58 : decode cX1_readOrder 58 = .ok (.ifCond .ne 5, 3) := by decide +kernel
theorem dX1_readOrder_61 : decode cX1_readOrder 61 = .ok (.iconst 0, 1) := by decide +kernel
theorem dX1_readOrder_62 : decode cX1_readOrder 62 = .ok (.ireturn, 1) := by decide +kernel
theorem dX1_readOrder_63 : decode cX1_readOrder 63 = .ok (.aload_n 0, 1) := by decide +kernel
theorem dX1_readOrder_64 : decode cX1_readOrder 64 = .ok (.invokevirtual 53, 3) := by decide +kernel
theorem dX1_readOrder_67 : decode cX1_readOrder 67 = .ok (.bipush 97, 2) := by decide +kernel
theorem dX1_readOrder_69 : decode cX1_readOrder 69 = .ok (.isub, 1) := by decide +kernel
theorem dX1_readOrder_70 : decode cX1_readOrder 70 = .ok (.istore_n 3, 1) := by decide +kernel
theorem dX1_readOrder_71 : decode cX1_readOrder 71 = .ok (.iload_n 3, 1) := by decide +kernel
theorem dX1_readOrder_72 : decode cX1_readOrder 72 = .ok (.invokestatic 57, 3) := by decide +kernel
theorem dX1_readOrder_75 : decode cX1_readOrder 75 = .ok (.ifCond .ne 5, 3) := by decide +kernel
theorem dX1_readOrder_78 : decode cX1_readOrder 78 = .ok (.iconst 0, 1) := by decide +kernel
theorem dX1_readOrder_79 : decode cX1_readOrder 79 = .ok (.ireturn, 1) := by decide +kernel
theorem dX1_readOrder_80 : decode cX1_readOrder 80 = .ok (.aload_n 0, 1) := by decide +kernel
theorem dX1_readOrder_81 : decode cX1_readOrder 81 = .ok (.dup, 1) := by decide +kernel
theorem dX1_readOrder_82 : decode cX1_readOrder 82 = .ok (.getfield 28, 3) := by decide +kernel
theorem dX1_readOrder_85 : decode cX1_readOrder 85 = .ok (.iconst 1, 1) := by decide +kernel
theorem dX1_readOrder_86 : decode cX1_readOrder 86 = .ok (.iadd, 1) := by decide +kernel
theorem dX1_readOrder_87 : decode cX1_readOrder 87 = .ok (.putfield 28, 3) := by decide +kernel
theorem dX1_readOrder_90 : decode cX1_readOrder 90 = .ok (.aload_n 0, 1) := by decide +kernel
theorem dX1_readOrder_91 : decode cX1_readOrder 91 = .ok (.bipush 58, 2) := by decide +kernel
theorem dX1_readOrder_93 : decode cX1_readOrder 93 = .ok (.invokevirtual 41, 3) := by decide +kernel
theorem dX1_readOrder_96 : decode cX1_readOrder 96 = .ok (.ifCond .eq 17, 3) := by decide +kernel
theorem dX1_readOrder_99 : decode cX1_readOrder 99 = .ok (.aload_n 0, 1) := by decide +kernel
theorem dX1_readOrder_100 : decode cX1_readOrder 100 = .ok (.iload_n 2, 1) := by decide +kernel
theorem dX1_readOrder_101 : decode cX1_readOrder 101 = .ok (.iload_n 3, 1) := by decide +kernel
theorem dX1_readOrder_102 : decode cX1_readOrder 102 = .ok (.iload_n 1, 1) := by decide +kernel
theorem dX1_readOrder_103 : decode cX1_readOrder 103 = .ok (.invokevirtual 60, 3) := by decide +kernel
theorem dX1_readOrder_106 : decode cX1_readOrder 106 = .ok (.ifCond .eq 7, 3) := by decide +kernel
theorem dX1_readOrder_109 : decode cX1_readOrder 109 = .ok (.iconst 1, 1) := by decide +kernel
theorem dX1_readOrder_110 : decode cX1_readOrder 110 = .ok (.goto 4, 3) := by decide +kernel
theorem dX1_readOrder_113 : decode cX1_readOrder 113 = .ok (.iconst 0, 1) := by decide +kernel
theorem dX1_readOrder_114 : decode cX1_readOrder 114 = .ok (.ireturn, 1) := by decide +kernel
theorem dX1_readRanges_0 : decode cX1_readRanges 0 = .ok (.iconst 0, 1) := by decide +kernel
theorem dX1_readRanges_1 : decode cX1_readRanges 1 = .ok (.istore 4, 2) := by decide +kernel
theorem dX1_readRanges_3 : decode cX1_readRanges 3 = .ok (.iload 4, 2) := by decide +kernel
theorem dX1_readRanges_5 : decode cX1_readRanges 5 = .ok (.bipush 80, 2) := by decide +kernel
theorem dX1_readRanges_7 : decode cX1_readRanges 7 = .ok (.if_icmp .ge 73, 3) := by decide +kernel
theorem dX1_readRanges_10 : decode cX1_readRanges 10 = .ok (.aload_n 0, 1) := by decide +kernel
theorem dX1_readRanges_11 : decode cX1_readRanges 11 = .ok (.invokevirtual 45, 3) := by decide +kernel
theorem dX1_readRanges_14 : decode cX1_readRanges 14 = .ok (.istore 5, 2) := by decide +kernel
theorem dX1_readRanges_16 : decode cX1_readRanges 16 = .ok (.iload 5, 2) := by decide +kernel
theorem dX1_readRanges_18 : decode cX1_readRanges 18 = .ok (.istore 6, 2) := by decide +kernel
theorem dX1_readRanges_20 : decode cX1_readRanges 20 = .ok (.iload 5, 2) := by decide +kernel
theorem dX1_readRanges_22 : decode cX1_readRanges 22 = .ok (.iconst (-1), 1) := by decide +kernel
theorem dX1_readRanges_23 : decode cX1_readRanges 23 = .ok (.if_icmp .eq 18, 3) := by decide +kernel
theorem dX1_readRanges_26 : decode cX1_readRanges 26 = .ok (.aload_n 0, 1) := by decide +kernel
theorem dX1_readRanges_27 : decode cX1_readRanges 27 = .ok (.bipush 45, 2) := by decide +kernel
theorem dX1_readRanges_29 : decode cX1_readRanges 29 = .ok (.invokevirtual 41, 3) := by decide +kernel
theorem dX1_readRanges_32 : decode cX1_readRanges 32 = .ok (.ifCond .eq 9, 3) := by decide +kernel
theorem dX1_readRanges_35 : decode cX1_readRanges 35 = .ok (.aload_n 0, 1) := by decide +kernel
theorem dX1_readRanges_36 : decode cX1_readRanges 36 = .ok (.invokevirtual 45, 3) := by decide +kernel
theorem dX1_readRanges_39 : decode cX1_readRanges 39 = .ok (.istore 6, 2) := by decide +kernel
theorem dX1_readRanges_41 : decode cX1_readRanges 41 = .ok (.iload 6, 2) := by decide +kernel
theorem dX1_readRanges_43 : decode cX1_readRanges 43 = .ok (.iconst (-1), 1) := by decide +kernel
theorem dX1_readRanges_44 : decode cX1_readRanges 44 = .ok (.if_icmp .eq 17, 3) := by decide +kernel
theorem dX1_readRanges_47 : decode cX1_readRanges 47 = .ok (.aload_n 0, 1) := by decide +kernel
theorem dX1_readRanges_48 : decode cX1_readRanges 48 = .ok (.iload_n 1, 1) := by decide +kernel
theorem dX1_readRanges_49 : decode cX1_readRanges 49 = .ok (.iload_n 2, 1) := by decide +kernel
theorem dX1_readRanges_50 : decode cX1_readRanges 50 = .ok (.iload 5, 2) := by decide +kernel
theorem dX1_readRanges_52 : decode cX1_readRanges 52 = .ok (.iload 6, 2) := by decide +kernel
theorem dX1_readRanges_54 : decode cX1_readRanges 54 = .ok (.iload_n 3, 1) := by decide +kernel
theorem dX1_readRanges_55 : decode cX1_readRanges 55 = .ok (.invokevirtual 49, 3) := by decide +kernel
theorem dX1_readRanges_58 : decode cX1_readRanges 58 = .ok (.ifCond .ne 5, 3) := by decide +kernel
theorem dX1_readRanges_61 : decode cX1_readRanges 61 = .ok (.iconst 0, 1) := by decide +kernel
theorem dX1_readRanges_62 : decode cX1_readRanges 62 = .ok (.ireturn, 1) := by decide +kernel
theorem dX1_readRanges_63 : decode cX1_readRanges 63 = .ok (.aload_n 0, 1) := by decide +kernel
theorem dX1_readRanges_64 : decode cX1_readRanges 64 = .ok (.bipush 44, 2) := by decide +kernel
theorem dX1_readRanges_66 : decode cX1_readRanges 66 = .ok (.invokevirtual 41, 3) := by decide +kernel
theorem dX1_readRanges_69 : decode cX1_readRanges 69 = .ok (.ifCond .ne 5, 3) := by decide +kernel
theorem dX1_readRanges_72 : decode cX1_readRanges 72 = .ok (.iconst 1, 1) := by decide +kernel
theorem dX1_readRanges_73 : decode cX1_readRanges 73 = .ok (.ireturn, 1) := by decide +kernel
theorem dX1_readRanges_74 : decode cX1_readRanges 74 = .ok (.iinc 4 1, 3) := by decide +kernel
theorem dX1_readRanges_77 : decode cX1_readRanges 77 = .ok (.goto (-74), 3) := by decide +kernel
theorem dX1_readRanges_80 : decode cX1_readRanges 80 = .ok (.iconst 0, 1) := by decide +kernel
theorem dX1_readRanges_81 : decode cX1_readRanges 81 = .ok (.ireturn, 1) := by decide +kernel
theorem dX1_readNumber_0 : decode cX1_readNumber 0 = .ok (.aload_n 0, 1) := by decide +kernel
theorem dX1_readNumber_1 : decode cX1_readNumber 1 = .ok (.invokevirtual 64, 3) := by decide +kernel
theorem dX1_readNumber_4 : decode cX1_readNumber 4 = .ok (.istore_n 1, 1) := by decide +kernel
theorem dX1_readNumber_5 : decode cX1_readNumber 5 = .ok (.iload_n 1, 1) := by decide +kernel
theorem dX1_readNumber_6 : decode cX1_readNumber 6 = .ok (.iconst (-1), 1) := by decide +kernel
theorem dX1_readNumber_7 : decode cX1_readNumber 7 = .ok (.if_icmp .ne 5, 3) := by decide +kernel
theorem dX1_readNumber_10 : decode cX1_readNumber 10 = .ok (.iconst (-1), 1) := by decide +kernel
theorem dX1_readNumber_11 : decode cX1_readNumber 11 = .ok (.ireturn, 1) := by decide +kernel
theorem dX1_readNumber_12 : decode cX1_readNumber 12 = .ok (.aload_n 0, 1) := by decide +kernel
theorem dX1_readNumber_13 : decode cX1_readNumber 13 = .ok (.dup, 1) := by decide +kernel
theorem dX1_readNumber_14 : decode cX1_readNumber 14 = .ok (.getfield 28, 3) := by decide +kernel
theorem dX1_readNumber_17 : decode cX1_readNumber 17 = .ok (.iconst 1, 1) := by decide +kernel
theorem dX1_readNumber_18 : decode cX1_readNumber 18 = .ok (.iadd, 1) := by decide +kernel
theorem dX1_readNumber_19 : decode cX1_readNumber 19 = .ok (.putfield 28, 3) := by decide +kernel
theorem dX1_readNumber_22 : decode cX1_readNumber 22 = .ok (.iconst 0, 1) := by decide +kernel
theorem dX1_readNumber_23 : decode cX1_readNumber 23 = .ok (.istore_n 2, 1) := by decide +kernel
theorem dX1_readNumber_24 : decode cX1_readNumber 24 = .ok (.iload_n 2, 1) := by decide +kernel
theorem dX1_readNumber_25 : decode cX1_readNumber 25 = .ok (.bipush 80, 2) := by decide +kernel
theorem dX1_readNumber_27 : decode cX1_readNumber 27 = .ok (.if_icmp .ge 54, 3) := by decide +kernel
theorem dX1_readNumber_30 : decode cX1_readNumber 30 = .ok (.aload_n 0, 1) := by decide +kernel
theorem dX1_readNumber_31 : decode cX1_readNumber 31 = .ok (.invokevirtual 64, 3) := by decide +kernel
theorem dX1_readNumber_34 : decode cX1_readNumber 34 = .ok (.istore_n 3, 1) := by decide +kernel
theorem dX1_readNumber_35 : decode cX1_readNumber 35 = .ok (.iload_n 3, 1) := by decide +kernel
theorem dX1_readNumber_36 : decode cX1_readNumber 36 = .ok (.iconst (-1), 1) := by decide +kernel
theorem dX1_readNumber_37 : decode cX1_readNumber 37 = .ok (.if_icmp .eq 19, 3) := by decide +kernel
theorem dX1_readNumber_40 : decode cX1_readNumber 40 = .ok (.iload_n 1, 1) := by decide +kernel
theorem dX1_readNumber_41 : decode cX1_readNumber 41 = .ok (.ifCond .eq 15, 3) := by decide +kernel
theorem dX1_readNumber_44 : decode cX1_readNumber 44 = .ok (.iload_n 1, 1) := by decide +kernel
theorem dX1_readNumber_45 : decode cX1_readNumber 45 = .ok (.bipush 10, 2) := by decide +kernel
theorem dX1_readNumber_47 : decode cX1_readNumber 47 = .ok (.imul, 1) := by decide +kernel
theorem dX1_readNumber_48 : decode cX1_readNumber 48 = .ok (.iload_n 3, 1) := by decide +kernel
theorem dX1_readNumber_49 : decode cX1_readNumber 49 = .ok (.iadd, 1) := by decide +kernel
theorem dX1_readNumber_50 : decode cX1_readNumber 50 = .ok (.sipush 3649, 3) := by decide +kernel
theorem dX1_readNumber_53 : decode cX1_readNumber 53 = .ok (.if_icmp .le 5, 3) := by decide +kernel
theorem dX1_readNumber_56 : decode cX1_readNumber 56 = .ok (.iload_n 1, 1) := by decide +kernel
theorem dX1_readNumber_57 : decode cX1_readNumber 57 = .ok (.ireturn, 1) := by decide +kernel
theorem dX1_readNumber_58 : decode cX1_readNumber 58 = .ok (.iload_n 1, 1) := by decide +kernel
theorem dX1_readNumber_59 : decode cX1_readNumber 59 = .ok (.bipush 10, 2) := by decide +kernel
theorem dX1_readNumber_61 : decode cX1_readNumber 61 = .ok (.imul, 1) := by decide +kernel
theorem dX1_readNumber_62 : decode cX1_readNumber 62 = .ok (.iload_n 3, 1) := by decide +kernel
theorem dX1_readNumber_63 : decode cX1_readNumber 63 = .ok (.iadd, 1) := by decide +kernel
theorem dX1_readNumber_64 : decode cX1_readNumber 64 = .ok (.istore_n 1, 1) := by decide +kernel
theorem dX1_readNumber_65 : decode cX1_readNumber 65 = .ok (.aload_n 0, 1) := by decide +kernel
theorem dX1_readNumber_66 : decode cX1_readNumber 66 = .ok (.dup, 1) := by decide +kernel
theorem dX1_readNumber_67 : decode cX1_readNumber 67 = .ok (.getfield 28, 3) := by decide +kernel
theorem dX1_readNumber_70 : decode cX1_readNumber 70 = .ok (.iconst 1, 1) := by decide +kernel
theorem dX1_readNumber_71 : decode cX1_readNumber 71 = .ok (.iadd, 1) := by decide +kernel
theorem dX1_readNumber_72 : decode cX1_readNumber 72 = .ok (.putfield 28, 3) := by decide +kernel
theorem dX1_readNumber_75 : decode cX1_readNumber 75 = .ok (.iinc 2 1, 3) := by decide +kernel
theorem dX1_readNumber_78 : decode cX1_readNumber 78 = .ok (.goto (-54), 3) := by decide +kernel
theorem dX1_readNumber_81 : decode cX1_readNumber 81 = .ok (.iload_n 1, 1) := by decide +kernel
theorem dX1_readNumber_82 : decode cX1_readNumber 82 = .ok (.ireturn, 1) := by decide +kernel
theorem dX1_digitHere_0 : decode cX1_digitHere 0 = .ok (.aload_n 0, 1) := by decide +kernel
theorem dX1_digitHere_1 : decode cX1_digitHere 1 = .ok (.invokevirtual 53, 3) := by decide +kernel
theorem dX1_digitHere_4 : decode cX1_digitHere 4 = .ok (.istore_n 1, 1) := by decide +kernel
theorem dX1_digitHere_5 : decode cX1_digitHere 5 = .ok (.iload_n 1, 1) := by decide +kernel
theorem dX1_digitHere_6 : decode cX1_digitHere 6 = .ok (.bipush 48, 2) := by decide +kernel
theorem dX1_digitHere_8 : decode cX1_digitHere 8 = .ok (.if_icmp .lt 16, 3) := by decide +kernel
theorem dX1_digitHere_11 : decode cX1_digitHere 11 = .ok (.iload_n 1, 1) := by decide +kernel
theorem dX1_digitHere_12 : decode cX1_digitHere 12 = .ok (.bipush 57, 2) := by decide +kernel
theorem dX1_digitHere_14 : decode cX1_digitHere 14 = .ok (.if_icmp .gt 10, 3) := by decide +kernel
theorem dX1_digitHere_17 : decode cX1_digitHere 17 = .ok (.iload_n 1, 1) := by decide +kernel
theorem dX1_digitHere_18 : decode cX1_digitHere 18 = .ok (.bipush 48, 2) := by decide +kernel
theorem dX1_digitHere_20 : decode cX1_digitHere 20 = .ok (.isub, 1) := by decide +kernel
theorem dX1_digitHere_21 : decode cX1_digitHere 21 = .ok (.goto 4, 3) := by decide +kernel
theorem dX1_digitHere_24 : decode cX1_digitHere 24 = .ok (.iconst (-1), 1) := by decide +kernel
theorem dX1_digitHere_25 : decode cX1_digitHere 25 = .ok (.ireturn, 1) := by decide +kernel
theorem dX1_signHere_0 : decode cX1_signHere 0 = .ok (.aload_n 0, 1) := by decide +kernel
theorem dX1_signHere_1 : decode cX1_signHere 1 = .ok (.getfield 28, 3) := by decide +kernel
theorem dX1_signHere_4 : decode cX1_signHere 4 = .ok (.ifCond .lt 30, 3) := by decide +kernel
theorem dX1_signHere_7 : decode cX1_signHere 7 = .ok (.aload_n 0, 1) := by decide +kernel
theorem dX1_signHere_8 : decode cX1_signHere 8 = .ok (.getfield 28, 3) := by decide +kernel
theorem dX1_signHere_11 : decode cX1_signHere 11 = .ok (.aload_n 0, 1) := by decide +kernel
theorem dX1_signHere_12 : decode cX1_signHere 12 = .ok (.getfield 22, 3) := by decide +kernel
theorem dX1_signHere_15 : decode cX1_signHere 15 = .ok (.if_icmp .ge 19, 3) := by decide +kernel
theorem dX1_signHere_18 : decode cX1_signHere 18 = .ok (.aload_n 0, 1) := by decide +kernel
theorem dX1_signHere_19 : decode cX1_signHere 19 = .ok (.getfield 28, 3) := by decide +kernel
theorem dX1_signHere_22 : decode cX1_signHere 22 = .ok (.aload_n 0, 1) := by decide +kernel
theorem dX1_signHere_23 : decode cX1_signHere 23 = .ok (.getfield 9, 3) := by decide +kernel
theorem dX1_signHere_26 : decode cX1_signHere 26 = .ok (.arraylength, 1) := by decide +kernel
theorem dX1_signHere_27 : decode cX1_signHere 27 = .ok (.if_icmp .ge 7, 3) := by decide +kernel
theorem dX1_signHere_30 : decode cX1_signHere 30 = .ok (.iconst 1, 1) := by decide +kernel
theorem dX1_signHere_31 : decode cX1_signHere 31 = .ok (.goto 4, 3) := by decide +kernel
theorem dX1_signHere_34 : decode cX1_signHere 34 = .ok (.iconst 0, 1) := by decide +kernel
theorem dX1_signHere_35 : decode cX1_signHere 35 = .ok (.istore_n 1, 1) := by decide +kernel
theorem dX1_signHere_36 : decode cX1_signHere 36 = .ok (.iload_n 1, 1) := by decide +kernel
theorem dX1_signHere_37 : decode cX1_signHere 37 = .ok (.ifCond .eq 15, 3) := by decide +kernel
theorem dX1_signHere_40 : decode cX1_signHere 40 = .ok (.aload_n 0, 1) := by decide +kernel
theorem dX1_signHere_41 : decode cX1_signHere 41 = .ok (.getfield 9, 3) := by decide +kernel
theorem dX1_signHere_44 : decode cX1_signHere 44 = .ok (.aload_n 0, 1) := by decide +kernel
theorem dX1_signHere_45 : decode cX1_signHere 45 = .ok (.getfield 28, 3) := by decide +kernel
theorem dX1_signHere_48 : decode cX1_signHere 48 = .ok (.caload, 1) := by decide +kernel
theorem dX1_signHere_49 : decode cX1_signHere 49 = .ok (.goto 4, 3) := by decide +kernel
theorem dX1_signHere_52 : decode cX1_signHere 52 = .ok (.iconst 0, 1) := by decide +kernel
theorem dX1_signHere_53 : decode cX1_signHere 53 = .ok (.ireturn, 1) := by decide +kernel
theorem dX1_take_0 : decode cX1_take 0 = .ok (.aload_n 0, 1) := by decide +kernel
theorem dX1_take_1 : decode cX1_take 1 = .ok (.invokevirtual 53, 3) := by decide +kernel
theorem dX1_take_4 : decode cX1_take 4 = .ok (.iload_n 1, 1) := by decide +kernel
theorem dX1_take_5 : decode cX1_take 5 = .ok (.if_icmp .eq 5, 3) := by decide +kernel
theorem dX1_take_8 : decode cX1_take 8 = .ok (.iconst 0, 1) := by decide +kernel
theorem dX1_take_9 : decode cX1_take 9 = .ok (.ireturn, 1) := by decide +kernel
theorem dX1_take_10 : decode cX1_take 10 = .ok (.aload_n 0, 1) := by decide +kernel
theorem dX1_take_11 : decode cX1_take 11 = .ok (.dup, 1) := by decide +kernel
theorem dX1_take_12 : decode cX1_take 12 = .ok (.getfield 28, 3) := by decide +kernel
theorem dX1_take_15 : decode cX1_take 15 = .ok (.iconst 1, 1) := by decide +kernel
theorem dX1_take_16 : decode cX1_take 16 = .ok (.iadd, 1) := by decide +kernel
theorem dX1_take_17 : decode cX1_take 17 = .ok (.putfield 28, 3) := by decide +kernel
theorem dX1_take_20 : decode cX1_take 20 = .ok (.iconst 1, 1) := by decide +kernel
theorem dX1_take_21 : decode cX1_take 21 = .ok (.ireturn, 1) := by decide +kernel
theorem dX1_addStep_0 : decode cX1_addStep 0 = .ok (.aload_n 0, 1) := by decide +kernel
theorem dX1_addStep_1 : decode cX1_addStep 1 = .ok (.aload_n 0, 1) := by decide +kernel
theorem dX1_addStep_2 : decode cX1_addStep 2 = .ok (.getfield 31, 3) := by decide +kernel
theorem dX1_addStep_5 : decode cX1_addStep 5 = .ok (.invokevirtual 67, 3) := by decide +kernel
theorem dX1_addStep_8 : decode cX1_addStep 8 = .ok (.astore 6, 2) := by decide +kernel
theorem dX1_addStep_10 : decode cX1_addStep 10 = .ok (.aload 6, 2) := by decide +kernel
theorem dX1_addStep_12 : decode cX1_addStep 12 = .ok (.ifnonnull 5, 3) := by decide +kernel
theorem dX1_addStep_15 : decode cX1_addStep 15 = .ok (.iconst 0, 1) := by decide +kernel
theorem dX1_addStep_16 : decode cX1_addStep 16 = .ok (.ireturn, 1) := by decide +kernel
theorem dX1_addStep_17 : decode cX1_addStep 17 = .ok (.aload 6, 2) := by decide +kernel
theorem dX1_addStep_19 : decode cX1_addStep 19 = .ok (.iload_n 1, 1) := by decide +kernel
theorem dX1_addStep_20 : decode cX1_addStep 20 = .ok (.putfield 71, 3) := by decide +kernel
theorem dX1_addStep_23 : decode cX1_addStep 23 = .ok (.aload 6, 2) := by decide +kernel
theorem dX1_addStep_25 : decode cX1_addStep 25 = .ok (.iload_n 2, 1) := by decide +kernel
theorem dX1_addStep_26 : decode cX1_addStep 26 = .ok (.putfield 75, 3) := by decide +kernel
theorem dX1_addStep_29 : decode cX1_addStep 29 = .ok (.aload 6, 2) := by decide +kernel
theorem dX1_addStep_31 : decode cX1_addStep 31 = .ok (.iload_n 3, 1) := by decide +kernel
theorem dX1_addStep_32 : decode cX1_addStep 32 = .ok (.putfield 78, 3) := by decide +kernel
theorem dX1_addStep_35 : decode cX1_addStep 35 = .ok (.aload 6, 2) := by decide +kernel
theorem dX1_addStep_37 : decode cX1_addStep 37 = .ok (.iload 4, 2) := by decide +kernel
theorem dX1_addStep_39 : decode cX1_addStep 39 = .ok (.putfield 81, 3) := by decide +kernel
theorem dX1_addStep_42 : decode cX1_addStep 42 = .ok (.aload 6, 2) := by decide +kernel
theorem dX1_addStep_44 : decode cX1_addStep 44 = .ok (.iload 5, 2) := by decide +kernel
theorem dX1_addStep_46 : decode cX1_addStep 46 = .ok (.putfield 84, 3) := by decide +kernel
theorem dX1_addStep_49 : decode cX1_addStep 49 = .ok (.aload_n 0, 1) := by decide +kernel
theorem dX1_addStep_50 : decode cX1_addStep 50 = .ok (.dup, 1) := by decide +kernel
theorem dX1_addStep_51 : decode cX1_addStep 51 = .ok (.getfield 31, 3) := by decide +kernel
theorem dX1_addStep_54 : decode cX1_addStep 54 = .ok (.iconst 1, 1) := by decide +kernel
theorem dX1_addStep_55 : decode cX1_addStep 55 = .ok (.iadd, 1) := by decide +kernel
theorem dX1_addStep_56 : decode cX1_addStep 56 = .ok (.putfield 31, 3) := by decide +kernel
theorem dX1_addStep_59 : decode cX1_addStep 59 = .ok (.iconst 1, 1) := by decide +kernel
theorem dX1_addStep_60 : decode cX1_addStep 60 = .ok (.ireturn, 1) := by decide +kernel
theorem dX2_init_0 : decode cX2_init 0 = .ok (.aload_n 0, 1) := by decide +kernel
theorem dX2_init_1 : decode cX2_init 1 = .ok (.invokespecial 1, 3) := by decide +kernel
theorem dX2_init_4 : decode cX2_init 4 = .ok (.return_, 1) := by decide +kernel
theorem dJ6_bitCount_0f7a4_0 : decode cJ6_bitCount_0f7a4 0 = .ok (.iload_n 0, 1) := by decide +kernel
theorem dJ6_bitCount_0f7a4_1 : decode cJ6_bitCount_0f7a4 1 = .ok (.iload_n 0, 1) := by decide +kernel
theorem dJ6_bitCount_0f7a4_2 : decode cJ6_bitCount_0f7a4 2 = .ok (.iconst 1, 1) := by decide +kernel
theorem dJ6_bitCount_0f7a4_3 : decode cJ6_bitCount_0f7a4 3 = .ok (.iushr, 1) := by decide +kernel
theorem dJ6_bitCount_0f7a4_4 : decode cJ6_bitCount_0f7a4 4 = .ok (.ldc_w 265, 3) := by decide +kernel
theorem dJ6_bitCount_0f7a4_7 : decode cJ6_bitCount_0f7a4 7 = .ok (.iand, 1) := by decide +kernel
theorem dJ6_bitCount_0f7a4_8 : decode cJ6_bitCount_0f7a4 8 = .ok (.isub, 1) := by decide +kernel
theorem dJ6_bitCount_0f7a4_9 : decode cJ6_bitCount_0f7a4 9 = .ok (.istore_n 0, 1) := by decide +kernel
theorem dJ6_bitCount_0f7a4_10 : decode cJ6_bitCount_0f7a4 10 = .ok (.iload_n 0, 1) := by decide +kernel
theorem dJ6_bitCount_0f7a4_11 : decode cJ6_bitCount_0f7a4 11 = .ok (.ldc_w 266, 3) := by decide +kernel
theorem dJ6_bitCount_0f7a4_14 : decode cJ6_bitCount_0f7a4 14 = .ok (.iand, 1) := by decide +kernel
theorem dJ6_bitCount_0f7a4_15 : decode cJ6_bitCount_0f7a4 15 = .ok (.iload_n 0, 1) := by decide +kernel
theorem dJ6_bitCount_0f7a4_16 : decode cJ6_bitCount_0f7a4 16 = .ok (.iconst 2, 1) := by decide +kernel
theorem dJ6_bitCount_0f7a4_17 : decode cJ6_bitCount_0f7a4 17 = .ok (.iushr, 1) := by decide +kernel
theorem dJ6_bitCount_0f7a4_18 : decode cJ6_bitCount_0f7a4 18 = .ok (.ldc_w 266, 3) := by decide +kernel
theorem dJ6_bitCount_0f7a4_21 : decode cJ6_bitCount_0f7a4 21 = .ok (.iand, 1) := by decide +kernel
theorem dJ6_bitCount_0f7a4_22 : decode cJ6_bitCount_0f7a4 22 = .ok (.iadd, 1) := by decide +kernel
theorem dJ6_bitCount_0f7a4_23 : decode cJ6_bitCount_0f7a4 23 = .ok (.istore_n 0, 1) := by decide +kernel
theorem dJ6_bitCount_0f7a4_24 : decode cJ6_bitCount_0f7a4 24 = .ok (.iload_n 0, 1) := by decide +kernel
theorem dJ6_bitCount_0f7a4_25 : decode cJ6_bitCount_0f7a4 25 = .ok (.iload_n 0, 1) := by decide +kernel
theorem dJ6_bitCount_0f7a4_26 : decode cJ6_bitCount_0f7a4 26 = .ok (.iconst 4, 1) := by decide +kernel
theorem dJ6_bitCount_0f7a4_27 : decode cJ6_bitCount_0f7a4 27 = .ok (.iushr, 1) := by decide +kernel
theorem dJ6_bitCount_0f7a4_28 : decode cJ6_bitCount_0f7a4 28 = .ok (.iadd, 1) := by decide +kernel
theorem dJ6_bitCount_0f7a4_29 : decode cJ6_bitCount_0f7a4 29 = .ok (.ldc_w 267, 3) := by decide +kernel
theorem dJ6_bitCount_0f7a4_32 : decode cJ6_bitCount_0f7a4 32 = .ok (.iand, 1) := by decide +kernel
theorem dJ6_bitCount_0f7a4_33 : decode cJ6_bitCount_0f7a4 33 = .ok (.istore_n 0, 1) := by decide +kernel
theorem dJ6_bitCount_0f7a4_34 : decode cJ6_bitCount_0f7a4 34 = .ok (.iload_n 0, 1) := by decide +kernel
theorem dJ6_bitCount_0f7a4_35 : decode cJ6_bitCount_0f7a4 35 = .ok (.iload_n 0, 1) := by decide +kernel
theorem dJ6_bitCount_0f7a4_36 : decode cJ6_bitCount_0f7a4 36 = .ok (.bipush 8, 2) := by decide +kernel
theorem dJ6_bitCount_0f7a4_38 : decode cJ6_bitCount_0f7a4 38 = .ok (.iushr, 1) := by decide +kernel
theorem dJ6_bitCount_0f7a4_39 : decode cJ6_bitCount_0f7a4 39 = .ok (.iadd, 1) := by decide +kernel
theorem dJ6_bitCount_0f7a4_40 : decode cJ6_bitCount_0f7a4 40 = .ok (.istore_n 0, 1) := by decide +kernel
theorem dJ6_bitCount_0f7a4_41 : decode cJ6_bitCount_0f7a4 41 = .ok (.iload_n 0, 1) := by decide +kernel
theorem dJ6_bitCount_0f7a4_42 : decode cJ6_bitCount_0f7a4 42 = .ok (.iload_n 0, 1) := by decide +kernel
theorem dJ6_bitCount_0f7a4_43 : decode cJ6_bitCount_0f7a4 43 = .ok (.bipush 16, 2) := by decide +kernel
theorem dJ6_bitCount_0f7a4_45 : decode cJ6_bitCount_0f7a4 45 = .ok (.iushr, 1) := by decide +kernel
theorem dJ6_bitCount_0f7a4_46 : decode cJ6_bitCount_0f7a4 46 = .ok (.iadd, 1) := by decide +kernel
theorem dJ6_bitCount_0f7a4_47 : decode cJ6_bitCount_0f7a4 47 = .ok (.istore_n 0, 1) := by decide +kernel
theorem dJ6_bitCount_0f7a4_48 : decode cJ6_bitCount_0f7a4 48 = .ok (.iload_n 0, 1) := by decide +kernel
theorem dJ6_bitCount_0f7a4_49 : decode cJ6_bitCount_0f7a4 49 = .ok (.bipush 63, 2) := by decide +kernel
theorem dJ6_bitCount_0f7a4_51 : decode cJ6_bitCount_0f7a4 51 = .ok (.iand, 1) := by decide +kernel
theorem dJ6_bitCount_0f7a4_52 : decode cJ6_bitCount_0f7a4 52 = .ok (.ireturn, 1) := by decide +kernel
end
section
theorem dX3_init_0 : decode cX3_init 0 = .ok (.aload_n 0, 1) := by decide +kernel
theorem dX3_init_1 : decode cX3_init 1 = .ok (.invokespecial 3, 3) := by decide +kernel
theorem dX3_init_4 : decode cX3_init 4 = .ok (.aload_n 0, 1) := by decide +kernel
theorem dX3_init_5 : decode cX3_init 5 = .ok (.new 9, 3) := by decide +kernel
theorem dX3_init_8 : decode cX3_init 8 = .ok (.dup, 1) := by decide +kernel
theorem dX3_init_9 : decode cX3_init 9 = .ok (.invokespecial 11, 3) := by decide +kernel
theorem dX3_init_12 : decode cX3_init 12 = .ok (.putfield 12, 3) := by decide +kernel
theorem dX3_init_15 : decode cX3_init 15 = .ok (.aload_n 0, 1) := by decide +kernel
theorem dX3_init_16 : decode cX3_init 16 = .ok (.new 9, 3) := by decide +kernel
theorem dX3_init_19 : decode cX3_init 19 = .ok (.dup, 1) := by decide +kernel
theorem dX3_init_20 : decode cX3_init 20 = .ok (.invokespecial 11, 3) := by decide +kernel
theorem dX3_init_23 : decode cX3_init 23 = .ok (.putfield 16, 3) := by decide +kernel
theorem dX3_init_26 : decode cX3_init 26 = .ok (.aload_n 0, 1) := by decide +kernel
theorem dX3_init_27 : decode cX3_init 27 = .ok (.bipush 6, 2) := by decide +kernel
theorem dX3_init_29 : decode cX3_init 29 = .ok (.anewarray 9, 3) := by decide +kernel
theorem dX3_init_32 : decode cX3_init 32 = .ok (.putfield 19, 3) := by decide +kernel
theorem dX3_init_35 : decode cX3_init 35 = .ok (.iconst 0, 1) := by decide +kernel
theorem dX3_init_36 : decode cX3_init 36 = .ok (.istore_n 1, 1) := by decide +kernel
theorem dX3_init_37 : decode cX3_init 37 = .ok (.iload_n 1, 1) := by decide +kernel
theorem dX3_init_38 : decode cX3_init 38 = .ok (.aload_n 0, 1) := by decide +kernel
theorem dX3_init_39 : decode cX3_init 39 = .ok (.getfield 19, 3) := by decide +kernel
theorem dX3_init_42 : decode cX3_init 42 = .ok (.arraylength, 1) := by decide +kernel
theorem dX3_init_43 : decode cX3_init 43 = .ok (.if_icmp .ge 22, 3) := by decide +kernel
theorem dX3_init_46 : decode cX3_init 46 = .ok (.aload_n 0, 1) := by decide +kernel
theorem dX3_init_47 : decode cX3_init 47 = .ok (.getfield 19, 3) := by decide +kernel
theorem dX3_init_50 : decode cX3_init 50 = .ok (.iload_n 1, 1) := by decide +kernel
theorem dX3_init_51 : decode cX3_init 51 = .ok (.new 9, 3) := by decide +kernel
theorem dX3_init_54 : decode cX3_init 54 = .ok (.dup, 1) := by decide +kernel
theorem dX3_init_55 : decode cX3_init 55 = .ok (.invokespecial 11, 3) := by decide +kernel
theorem dX3_init_58 : decode cX3_init 58 = .ok (.aastore, 1) := by decide +kernel
theorem dX3_init_59 : decode cX3_init 59 = .ok (.iinc 1 1, 3) := by decide +kernel
theorem dX3_init_62 : decode cX3_init 62 = .ok (.goto (-25), 3) := by decide +kernel
theorem dX3_init_65 : decode cX3_init 65 = .ok (.aload_n 0, 1) := by decide +kernel
theorem dX3_init_66 : decode cX3_init 66 = .ok (.iconst 2, 1) := by decide +kernel
theorem dX3_init_67 : decode cX3_init 67 = .ok (.anewarray 9, 3) := by decide +kernel
theorem dX3_init_70 : decode cX3_init 70 = .ok (.putfield 23, 3) := by decide +kernel
theorem dX3_init_73 : decode cX3_init 73 = .ok (.iconst 0, 1) := by decide +kernel
theorem dX3_init_74 : decode cX3_init 74 = .ok (.istore_n 1, 1) := by decide +kernel
theorem dX3_init_75 : decode cX3_init 75 = .ok (.iload_n 1, 1) := by decide +kernel
theorem dX3_init_76 : decode cX3_init 76 = .ok (.aload_n 0, 1) := by decide +kernel
theorem dX3_init_77 : decode cX3_init 77 = .ok (.getfield 23, 3) := by decide +kernel
theorem dX3_init_80 : decode cX3_init 80 = .ok (.arraylength, 1) := by decide +kernel
theorem dX3_init_81 : decode cX3_init 81 = .ok (.if_icmp .ge 22, 3) := by decide +kernel
theorem dX3_init_84 : decode cX3_init 84 = .ok (.aload_n 0, 1) := by decide +kernel
theorem dX3_init_85 : decode cX3_init 85 = .ok (.getfield 23, 3) := by decide +kernel
theorem dX3_init_88 : decode cX3_init 88 = .ok (.iload_n 1, 1) := by decide +kernel
theorem dX3_init_89 : decode cX3_init 89 = .ok (.new 9, 3) := by decide +kernel
theorem dX3_init_92 : decode cX3_init 92 = .ok (.dup, 1) := by decide +kernel
theorem dX3_init_93 : decode cX3_init 93 = .ok (.invokespecial 11, 3) := by decide +kernel
theorem dX3_init_96 : decode cX3_init 96 = .ok (.aastore, 1) := by decide +kernel
theorem dX3_init_97 : decode cX3_init 97 = .ok (.iinc 1 1, 3) := by decide +kernel
theorem dX3_init_100 : decode cX3_init 100 = .ok (.goto (-25), 3) := by decide +kernel
theorem dX3_init_103 : decode cX3_init 103 = .ok (.aload_n 0, 1) := by decide +kernel
theorem dX3_init_104 : decode cX3_init 104 = .ok (.new 26, 3) := by decide +kernel
theorem dX3_init_107 : decode cX3_init 107 = .ok (.dup, 1) := by decide +kernel
theorem dX3_init_108 : decode cX3_init 108 = .ok (.invokespecial 28, 3) := by decide +kernel
theorem dX3_init_111 : decode cX3_init 111 = .ok (.putfield 29, 3) := by decide +kernel
theorem dX3_init_114 : decode cX3_init 114 = .ok (.return_, 1) := by decide +kernel
theorem dX3_set_0 : decode cX3_set 0 = .ok (.iload_n 1, 1) := by decide +kernel
theorem dX3_set_1 : decode cX3_set 1 = .ok (.ifCond .ne 9, 3) := by decide +kernel
theorem dX3_set_4 : decode cX3_set 4 = .ok (.aload_n 0, 1) := by decide +kernel
theorem dX3_set_5 : decode cX3_set 5 = .ok (.iload_n 2, 1) := by decide +kernel
theorem dX3_set_6 : decode cX3_set 6 = .ok (.invokevirtual 33, 3) := by decide +kernel
theorem dX3_set_9 : decode cX3_set 9 = .ok (.ireturn, 1) := by decide +kernel
theorem dX3_set_10 : decode cX3_set 10 = .ok (.iload_n 1, 1) := by decide +kernel
theorem dX3_set_11 : decode cX3_set 11 = .ok (.iconst 1, 1) := by decide +kernel
theorem dX3_set_12 : decode cX3_set 12 = .ok (.if_icmp .ne 9, 3) := by decide +kernel
theorem dX3_set_15 : decode cX3_set 15 = .ok (.aload_n 0, 1) := by decide +kernel
theorem dX3_set_16 : decode cX3_set 16 = .ok (.iload_n 2, 1) := by decide +kernel
theorem dX3_set_17 : decode cX3_set 17 = .ok (.invokevirtual 37, 3) := by decide +kernel
theorem dX3_set_20 : decode cX3_set 20 = .ok (.ireturn, 1) := by decide +kernel
theorem dX3_set_21 : decode cX3_set 21 = .ok (.bipush (-2), 2) := by decide +kernel
theorem dX3_set_23 : decode cX3_set 23 = .ok (.ireturn, 1) := by decide +kernel
theorem dX3_changeKeep_0 : decode cX3_changeKeep 0 = .ok (.iload_n 1, 1) := by decide +kernel
theorem dX3_changeKeep_1 : decode cX3_changeKeep 1 = .ok (.iconst 1, 1) := by decide +kernel
theorem dX3_changeKeep_2 : decode cX3_changeKeep 2 = .ok (.if_icmp .lt 9, 3) := by decide +kernel
theorem dX3_changeKeep_5 : decode cX3_changeKeep 5 = .ok (.iload_n 1, 1) := by decide +kernel
theorem dX3_changeKeep_6 : decode cX3_changeKeep 6 = .ok (.bipush 12, 2) := by decide +kernel
theorem dX3_changeKeep_8 : decode cX3_changeKeep 8 = .ok (.if_icmp .le 6, 3) := by decide +kernel
theorem dX3_changeKeep_11 : decode cX3_changeKeep 11 = .ok (.bipush (-2), 2) := by decide +kernel
theorem dX3_changeKeep_13 : decode cX3_changeKeep 13 = .ok (.ireturn, 1) := by decide +kernel
theorem dX3_changeKeep_14 : decode cX3_changeKeep 14 = .ok (.aload_n 0, 1) := by decide +kernel
theorem dX3_changeKeep_15 : decode cX3_changeKeep 15 = .ok (.getfield 12, 3) := by decide +kernel
theorem dX3_changeKeep_18 : decode cX3_changeKeep 18 = .ok (.getfield 40, 3) := by decide +kernel
theorem dX3_changeKeep_21 : decode cX3_changeKeep 21 = .ok (.ifCond .eq 6, 3) := by decide +kernel
theorem dX3_changeKeep_24 : decode cX3_changeKeep 24 = .ok (.bipush (-5), 2) := by decide +kernel
theorem dX3_changeKeep_26 : decode cX3_changeKeep 26 = .ok (.ireturn, 1) := by decide +kernel
theorem dX3_changeKeep_27 : decode cX3_changeKeep 27 = .ok (.aload_n 0, 1) := by decide +kernel
theorem dX3_changeKeep_28 : decode cX3_changeKeep 28 = .ok (.invokevirtual 44, 3) := by decide +kernel
theorem dX3_changeKeep_31 : decode cX3_changeKeep 31 = .ok (.aload_n 0, 1) := by decide +kernel
theorem dX3_changeKeep_32 : decode cX3_changeKeep 32 = .ok (.getfield 12, 3) := by decide +kernel
theorem dX3_changeKeep_35 : decode cX3_changeKeep 35 = .ok (.getfield 47, 3) := by decide +kernel
theorem dX3_changeKeep_38 : decode cX3_changeKeep 38 = .ok (.istore_n 2, 1) := by decide +kernel
theorem dX3_changeKeep_39 : decode cX3_changeKeep 39 = .ok (.aload_n 0, 1) := by decide +kernel
theorem dX3_changeKeep_40 : decode cX3_changeKeep 40 = .ok (.getfield 12, 3) := by decide +kernel
theorem dX3_changeKeep_43 : decode cX3_changeKeep 43 = .ok (.iload_n 1, 1) := by decide +kernel
theorem dX3_changeKeep_44 : decode cX3_changeKeep 44 = .ok (.putfield 47, 3) := by decide +kernel
theorem dX3_changeKeep_47 : decode cX3_changeKeep 47 = .ok (.iload_n 2, 1) := by decide +kernel
theorem dX3_changeKeep_48 : decode cX3_changeKeep 48 = .ok (.ireturn, 1) := by decide +kernel
theorem dX3_changeOpen_0 : decode cX3_changeOpen 0 = .ok (.iload_n 1, 1) := by decide +kernel
theorem dX3_changeOpen_1 : decode cX3_changeOpen 1 = .ok (.ifCond .lt 9, 3) := by decide +kernel
theorem dX3_changeOpen_4 : decode cX3_changeOpen 4 = .ok (.iload_n 1, 1) := by decide +kernel
theorem dX3_changeOpen_5 : decode cX3_changeOpen 5 = .ok (.bipush 6, 2) := by decide +kernel
theorem dX3_changeOpen_7 : decode cX3_changeOpen 7 = .ok (.if_icmp .le 6, 3) := by decide +kernel
theorem dX3_changeOpen_10 : decode cX3_changeOpen 10 = .ok (.bipush (-2), 2) := by decide +kernel
theorem dX3_changeOpen_12 : decode cX3_changeOpen 12 = .ok (.ireturn, 1) := by decide +kernel
theorem dX3_changeOpen_13 : decode cX3_changeOpen 13 = .ok (.aload_n 0, 1) := by decide +kernel
theorem dX3_changeOpen_14 : decode cX3_changeOpen 14 = .ok (.invokevirtual 44, 3) := by decide +kernel
theorem dX3_changeOpen_17 : decode cX3_changeOpen 17 = .ok (.aload_n 0, 1) := by decide +kernel
theorem dX3_changeOpen_18 : decode cX3_changeOpen 18 = .ok (.getfield 12, 3) := by decide +kernel
theorem dX3_changeOpen_21 : decode cX3_changeOpen 21 = .ok (.getfield 50, 3) := by decide +kernel
theorem dX3_changeOpen_24 : decode cX3_changeOpen 24 = .ok (.istore_n 2, 1) := by decide +kernel
theorem dX3_changeOpen_25 : decode cX3_changeOpen 25 = .ok (.aload_n 0, 1) := by decide +kernel
theorem dX3_changeOpen_26 : decode cX3_changeOpen 26 = .ok (.getfield 12, 3) := by decide +kernel
theorem dX3_changeOpen_29 : decode cX3_changeOpen 29 = .ok (.iload_n 1, 1) := by decide +kernel
theorem dX3_changeOpen_30 : decode cX3_changeOpen 30 = .ok (.putfield 50, 3) := by decide +kernel
theorem dX3_changeOpen_33 : decode cX3_changeOpen 33 = .ok (.aload_n 0, 1) := by decide +kernel
theorem dX3_changeOpen_34 : decode cX3_changeOpen 34 = .ok (.getfield 12, 3) := by decide +kernel
theorem dX3_changeOpen_37 : decode cX3_changeOpen 37 = .ok (.invokevirtual 53, 3) := by decide +kernel
theorem dX3_changeOpen_40 : decode cX3_changeOpen 40 = .ok (.iload_n 2, 1) := by decide +kernel
theorem dX3_changeOpen_41 : decode cX3_changeOpen 41 = .ok (.ireturn, 1) := by decide +kernel
theorem dX3_pass_0 : decode cX3_pass 0 = .ok (.aload_n 0, 1) := by decide +kernel
theorem dX3_pass_1 : decode cX3_pass 1 = .ok (.iload_n 1, 1) := by decide +kernel
theorem dX3_pass_2 : decode cX3_pass 2 = .ok (.invokevirtual 56, 3) := by decide +kernel
theorem dX3_pass_5 : decode cX3_pass 5 = .ok (.istore_n 2, 1) := by decide +kernel
theorem dX3_pass_6 : decode cX3_pass 6 = .ok (.iload_n 2, 1) := by decide +kernel
theorem dX3_pass_7 : decode cX3_pass 7 = .ok (.ifCond .eq 5, 3) := by decide +kernel
theorem dX3_pass_10 : decode cX3_pass 10 = .ok (.iload_n 2, 1) := by decide +kernel
theorem dX3_pass_11 : decode cX3_pass 11 = .ok (.ireturn, 1) := by decide +kernel
theorem dX3_pass_12 : decode cX3_pass 12 = .ok (.aload_n 0, 1) := by decide +kernel
theorem dX3_pass_13 : decode cX3_pass 13 = .ok (.invokevirtual 44, 3) := by decide +kernel
theorem dX3_pass_16 : decode cX3_pass 16 = .ok (.aload_n 0, 1) := by decide +kernel
theorem dX3_pass_17 : decode cX3_pass 17 = .ok (.getfield 12, 3) := by decide +kernel
theorem dX3_pass_20 : decode cX3_pass 20 = .ok (.iload_n 1, 1) := by decide +kernel
theorem dX3_pass_21 : decode cX3_pass 21 = .ok (.invokevirtual 59, 3) := by decide +kernel
theorem dX3_pass_24 : decode cX3_pass 24 = .ok (.ireturn, 1) := by decide +kernel
theorem dX3_mark_0 : decode cX3_mark 0 = .ok (.aload_n 0, 1) := by decide +kernel
theorem dX3_mark_1 : decode cX3_mark 1 = .ok (.iload_n 1, 1) := by decide +kernel
theorem dX3_mark_2 : decode cX3_mark 2 = .ok (.iload_n 2, 1) := by decide +kernel
theorem dX3_mark_3 : decode cX3_mark 3 = .ok (.iload_n 3, 1) := by decide +kernel
theorem dX3_mark_4 : decode cX3_mark 4 = .ok (.iconst 1, 1) := by decide +kernel
theorem dX3_mark_5 : decode cX3_mark 5 = .ok (.invokevirtual 62, 3) := by decide +kernel
theorem dX3_mark_8 : decode cX3_mark 8 = .ok (.ireturn, 1) := by decide +kernel
theorem dX3_clear_0 : decode cX3_clear 0 = .ok (.aload_n 0, 1) := by decide +kernel
theorem dX3_clear_1 : decode cX3_clear 1 = .ok (.iload_n 1, 1) := by decide +kernel
theorem dX3_clear_2 : decode cX3_clear 2 = .ok (.iload_n 2, 1) := by decide +kernel
theorem dX3_clear_3 : decode cX3_clear 3 = .ok (.iload_n 3, 1) := by decide +kernel
theorem dX3_clear_4 : decode cX3_clear 4 = .ok (.iconst 0, 1) := by decide +kernel
theorem dX3_clear_5 : decode cX3_clear 5 = .ok (.invokevirtual 62, 3) := by decide +kernel
theorem dX3_clear_8 : decode cX3_clear 8 = .ok (.ireturn, 1) := by decide +kernel
theorem dX3_changeDays_0 : decode cX3_changeDays 0 = .ok (.aload_n 0, 1) := by decide +kernel
theorem dX3_changeDays_1 : decode cX3_changeDays 1 = .ok (.iload_n 1, 1) := by decide +kernel
theorem dX3_changeDays_2 : decode cX3_changeDays 2 = .ok (.iload_n 2, 1) := by decide +kernel
theorem dX3_changeDays_3 : decode cX3_changeDays 3 = .ok (.iload_n 3, 1) := by decide +kernel
theorem dX3_changeDays_4 : decode cX3_changeDays 4 = .ok (.invokevirtual 66, 3) := by decide +kernel
theorem dX3_changeDays_7 : decode cX3_changeDays 7 = .ok (.istore 5, 2) := by decide +kernel
theorem dX3_changeDays_9 : decode cX3_changeDays 9 = .ok (.iload 5, 2) := by decide +kernel
theorem dX3_changeDays_11 : decode cX3_changeDays 11 = .ok (.ifCond .eq 6, 3) := by decide +kernel
theorem dX3_changeDays_14 : decode cX3_changeDays 14 = .ok (.iload 5, 2) := by decide +kernel
theorem dX3_changeDays_16 : decode cX3_changeDays 16 = .ok (.ireturn, 1) := by decide +kernel
theorem dX3_changeDays_17 : decode cX3_changeDays 17 = .ok (.aload_n 0, 1) := by decide +kernel
theorem dX3_changeDays_18 : decode cX3_changeDays 18 = .ok (.invokevirtual 44, 3) := by decide +kernel
theorem dX3_changeDays_21 : decode cX3_changeDays 21 = .ok (.aload_n 0, 1) := by decide +kernel
theorem dX3_changeDays_22 : decode cX3_changeDays 22 = .ok (.getfield 12, 3) := by decide +kernel
theorem dX3_changeDays_25 : decode cX3_changeDays 25 = .ok (.iload_n 1, 1) := by decide +kernel
theorem dX3_changeDays_26 : decode cX3_changeDays 26 = .ok (.iload_n 2, 1) := by decide +kernel
theorem dX3_changeDays_27 : decode cX3_changeDays 27 = .ok (.iload_n 3, 1) := by decide +kernel
theorem dX3_changeDays_28 : decode cX3_changeDays 28 = .ok (.iload 4, 2) := by decide +kernel
theorem dX3_changeDays_30 : decode cX3_changeDays 30 = .ok (.invokevirtual 70, 3) := by decide +kernel
theorem dX3_changeDays_33 : decode cX3_changeDays 33 = .ok (.ireturn, 1) := by decide +kernel
theorem dX3_marks_0 : decode cX3_marks 0 = .ok (.iload_n 1, 1) := by decide +kernel
theorem dX3_marks_1 : decode cX3_marks 1 = .ok (.iload_n 2, 1) := by decide +kernel
theorem dX3_marks_2 : decode cX3_marks 2 = .ok (.iload_n 3, 1) := by decide +kernel
theorem dX3_marks_3 : decode cX3_marks 3 = .ok (.invokestatic 73, 3) := by decide +kernel
theorem dX3_marks_6 : decode cX3_marks 6 = .ok (.istore 4, 2) := by decide +kernel
theorem dX3_marks_8 : decode cX3_marks 8 = .ok (.iload 4, 2) := by decide +kernel
theorem dX3_marks_10 : decode cX3_marks 10 = .ok (.ifCond .eq 6, 3) := by decide +kernel
theorem dX3_marks_13 : decode cX3_marks 13 = .ok (.iload 4, 2) := by decide +kernel
theorem dX3_marks_15 : decode cX3_marks 15 = .ok (.ireturn, 1) := by decide +kernel
theorem dX3_marks_16 : decode cX3_marks 16 = .ok (.iconst 0, 1) := by decide +kernel
theorem dX3_marks_17 : decode cX3_marks 17 = .ok (.istore 5, 2) := by decide +kernel
theorem dX3_marks_19 : decode cX3_marks 19 = .ok (.iload_n 3, 1) := by decide +kernel
theorem dX3_marks_20 : decode cX3_marks 20 = .ok (.invokestatic 76, 3) := by decide +kernel
theorem dX3_marks_23 : decode cX3_marks 23 = .ok (.istore 6, 2) := by decide +kernel
theorem dX3_marks_25 : decode cX3_marks 25 = .ok (.iload_n 2, 1) := by decide +kernel
theorem dX3_marks_26 : decode cX3_marks 26 = .ok (.invokestatic 76, 3) := by decide +kernel
theorem dX3_marks_29 : decode cX3_marks 29 = .ok (.istore 7, 2) := by decide +kernel
theorem dX3_marks_31 : decode cX3_marks 31 = .ok (.iload 7, 2) := by decide +kernel
theorem dX3_marks_33 : decode cX3_marks 33 = .ok (.iload 6, 2) := by decide +kernel
theorem dX3_marks_35 : decode cX3_marks 35 = .ok (.if_icmp .gt 58, 3) := by decide +kernel
theorem dX3_marks_38 : decode cX3_marks 38 = .ok (.iload 7, 2) := by decide +kernel
theorem dX3_marks_40 : decode cX3_marks 40 = .ok (.iload_n 2, 1) := by decide +kernel
theorem dX3_marks_41 : decode cX3_marks 41 = .ok (.iload_n 3, 1) := by decide +kernel
theorem dX3_marks_42 : decode cX3_marks 42 = .ok (.invokestatic 79, 3) := by decide +kernel
theorem dX3_marks_45 : decode cX3_marks 45 = .ok (.istore 8, 2) := by decide +kernel
theorem dX3_marks_47 : decode cX3_marks 47 = .ok (.iload 8, 2) := by decide +kernel
theorem dX3_marks_49 : decode cX3_marks 49 = .ok (.iload 7, 2) := by decide +kernel
theorem dX3_marks_51 : decode cX3_marks 51 = .ok (.invokestatic 82, 3) := by decide +kernel
theorem dX3_marks_54 : decode cX3_marks 54 = .ok (.if_icmp .eq 12, 3) := by decide +kernel
theorem dX3_marks_57 : decode cX3_marks 57 = .ok (.aload_n 0, 1) := by decide +kernel
theorem dX3_marks_58 : decode cX3_marks 58 = .ok (.getfield 12, 3) := by decide +kernel
theorem dX3_marks_61 : decode cX3_marks 61 = .ok (.iload 7, 2) := by decide +kernel
theorem dX3_marks_63 : decode cX3_marks 63 = .ok (.invokevirtual 85, 3) := by decide +kernel
theorem dX3_marks_66 : decode cX3_marks 66 = .ok (.iload 5, 2) := by decide +kernel
theorem dX3_marks_68 : decode cX3_marks 68 = .ok (.aload_n 0, 1) := by decide +kernel
theorem dX3_marks_69 : decode cX3_marks 69 = .ok (.getfield 12, 3) := by decide +kernel
theorem dX3_marks_72 : decode cX3_marks 72 = .ok (.iload_n 1, 1) := by decide +kernel
theorem dX3_marks_73 : decode cX3_marks 73 = .ok (.iload 7, 2) := by decide +kernel
theorem dX3_marks_75 : decode cX3_marks 75 = .ok (.invokevirtual 89, 3) := by decide +kernel
theorem dX3_marks_78 : decode cX3_marks 78 = .ok (.iload 8, 2) := by decide +kernel
theorem dX3_marks_80 : decode cX3_marks 80 = .ok (.iand, 1) := by decide +kernel
theorem dX3_marks_81 : decode cX3_marks 81 = .ok (.invokestatic 93, 3) := by decide +kernel
theorem dX3_marks_84 : decode cX3_marks 84 = .ok (.iadd, 1) := by decide +kernel
theorem dX3_marks_85 : decode cX3_marks 85 = .ok (.istore 5, 2) := by decide +kernel
theorem dX3_marks_87 : decode cX3_marks 87 = .ok (.iinc 7 1, 3) := by decide +kernel
theorem dX3_marks_90 : decode cX3_marks 90 = .ok (.goto (-59), 3) := by decide +kernel
theorem dX3_marks_93 : decode cX3_marks 93 = .ok (.iload 5, 2) := by decide +kernel
theorem dX3_marks_95 : decode cX3_marks 95 = .ok (.ireturn, 1) := by decide +kernel
theorem dX3_isMarked_0 : decode cX3_isMarked 0 = .ok (.iload_n 1, 1) := by decide +kernel
theorem dX3_isMarked_1 : decode cX3_isMarked 1 = .ok (.invokestatic 98, 3) := by decide +kernel
theorem dX3_isMarked_4 : decode cX3_isMarked 4 = .ok (.ifCond .eq 10, 3) := by decide +kernel
theorem dX3_isMarked_7 : decode cX3_isMarked 7 = .ok (.iload_n 2, 1) := by decide +kernel
theorem dX3_isMarked_8 : decode cX3_isMarked 8 = .ok (.invokestatic 102, 3) := by decide +kernel
theorem dX3_isMarked_11 : decode cX3_isMarked 11 = .ok (.ifCond .ne 5, 3) := by decide +kernel
theorem dX3_isMarked_14 : decode cX3_isMarked 14 = .ok (.iconst (-1), 1) := by decide +kernel
theorem dX3_isMarked_15 : decode cX3_isMarked 15 = .ok (.ireturn, 1) := by decide +kernel
theorem dX3_isMarked_16 : decode cX3_isMarked 16 = .ok (.iload_n 2, 1) := by decide +kernel
theorem dX3_isMarked_17 : decode cX3_isMarked 17 = .ok (.invokestatic 76, 3) := by decide +kernel
theorem dX3_isMarked_20 : decode cX3_isMarked 20 = .ok (.istore_n 3, 1) := by decide +kernel
theorem dX3_isMarked_21 : decode cX3_isMarked 21 = .ok (.aload_n 0, 1) := by decide +kernel
theorem dX3_isMarked_22 : decode cX3_isMarked 22 = .ok (.getfield 12, 3) := by decide +kernel
theorem dX3_isMarked_25 : decode cX3_isMarked 25 = .ok (.iload_n 3, 1) := by decide +kernel
theorem dX3_isMarked_26 : decode cX3_isMarked 26 = .ok (.invokevirtual 85, 3) := by decide +kernel
theorem dX3_isMarked_29 : decode cX3_isMarked 29 = .ok (.aload_n 0, 1) := by decide +kernel
theorem dX3_isMarked_30 : decode cX3_isMarked 30 = .ok (.getfield 12, 3) := by decide +kernel
theorem dX3_isMarked_33 : decode cX3_isMarked 33 = .ok (.iload_n 1, 1) := by decide +kernel
theorem dX3_isMarked_34 : decode cX3_isMarked 34 = .ok (.iload_n 3, 1) := by decide +kernel
theorem dX3_isMarked_35 : decode cX3_isMarked 35 = .ok (.invokevirtual 89, 3) := by decide +kernel
theorem dX3_isMarked_38 : decode cX3_isMarked 38 = .ok (.iload_n 2, 1) := by decide +kernel
theorem dX3_isMarked_39 : decode cX3_isMarked 39 = .ok (.iload_n 3, 1) := by decide +kernel
theorem dX3_isMarked_40 : decode cX3_isMarked 40 = .ok (.invokestatic 105, 3) := by decide +kernel
theorem dX3_isMarked_43 : decode cX3_isMarked 43 = .ok (.isub, 1) := by decide +kernel
theorem dX3_isMarked_44 : decode cX3_isMarked 44 = .ok (.invokestatic 108, 3) := by decide +kernel
theorem dX3_isMarked_47 : decode cX3_isMarked 47 = .ok (.ifCond .eq 7, 3) := by decide +kernel
theorem dX3_isMarked_50 : decode cX3_isMarked 50 = .ok (.iconst 1, 1) := by decide +kernel
theorem dX3_isMarked_51 : decode cX3_isMarked 51 = .ok (.goto 4, 3) := by decide +kernel
theorem dX3_isMarked_54 : decode cX3_isMarked 54 = .ok (.iconst 0, 1) := by decide +kernel
theorem dX3_isMarked_55 : decode cX3_isMarked 55 = .ok (.ireturn, 1) := by decide +kernel
theorem dX3_both_0 : decode cX3_both 0 = .ok (.iload_n 2, 1) := by decide +kernel
theorem dX3_both_1 : decode cX3_both 1 = .ok (.invokestatic 98, 3) := by decide +kernel
theorem dX3_both_4 : decode cX3_both 4 = .ok (.ifCond .ne 5, 3) := by decide +kernel
theorem dX3_both_7 : decode cX3_both 7 = .ok (.iconst (-1), 1) := by decide +kernel
theorem dX3_both_8 : decode cX3_both 8 = .ok (.ireturn, 1) := by decide +kernel
theorem dX3_both_9 : decode cX3_both 9 = .ok (.iload_n 1, 1) := by decide +kernel
theorem dX3_both_10 : decode cX3_both 10 = .ok (.iload_n 3, 1) := by decide +kernel
theorem dX3_both_11 : decode cX3_both 11 = .ok (.iload 4, 2) := by decide +kernel
theorem dX3_both_13 : decode cX3_both 13 = .ok (.invokestatic 73, 3) := by decide +kernel
theorem dX3_both_16 : decode cX3_both 16 = .ok (.istore 5, 2) := by decide +kernel
theorem dX3_both_18 : decode cX3_both 18 = .ok (.iload 5, 2) := by decide +kernel
theorem dX3_both_20 : decode cX3_both 20 = .ok (.ifCond .eq 6, 3) := by decide +kernel
theorem dX3_both_23 : decode cX3_both 23 = .ok (.iload 5, 2) := by decide +kernel
theorem dX3_both_25 : decode cX3_both 25 = .ok (.ireturn, 1) := by decide +kernel
theorem dX3_both_26 : decode cX3_both 26 = .ok (.aload_n 0, 1) := by decide +kernel
theorem dX3_both_27 : decode cX3_both 27 = .ok (.getfield 12, 3) := by decide +kernel
theorem dX3_both_30 : decode cX3_both 30 = .ok (.iload_n 3, 1) := by decide +kernel
theorem dX3_both_31 : decode cX3_both 31 = .ok (.iload 4, 2) := by decide +kernel
theorem dX3_both_33 : decode cX3_both 33 = .ok (.invokevirtual 112, 3) := by decide +kernel
theorem dX3_both_36 : decode cX3_both 36 = .ok (.iconst 0, 1) := by decide +kernel
theorem dX3_both_37 : decode cX3_both 37 = .ok (.istore 6, 2) := by decide +kernel
theorem dX3_both_39 : decode cX3_both 39 = .ok (.iload 4, 2) := by decide +kernel
theorem dX3_both_41 : decode cX3_both 41 = .ok (.invokestatic 76, 3) := by decide +kernel
theorem dX3_both_44 : decode cX3_both 44 = .ok (.istore 7, 2) := by decide +kernel
theorem dX3_both_46 : decode cX3_both 46 = .ok (.iload_n 3, 1) := by decide +kernel
theorem dX3_both_47 : decode cX3_both 47 = .ok (.invokestatic 76, 3) := by decide +kernel
theorem dX3_both_50 : decode cX3_both 50 = .ok (.istore 8, 2) := by decide +kernel
theorem dX3_both_52 : decode cX3_both 52 = .ok (.iload 8, 2) := by decide +kernel
theorem dX3_both_54 : decode cX3_both 54 = .ok (.iload 7, 2) := by decide +kernel
theorem dX3_both_56 : decode cX3_both 56 = .ok (.if_icmp .gt 51, 3) := by decide +kernel
theorem dX3_both_59 : decode cX3_both 59 = .ok (.aload_n 0, 1) := by decide +kernel
theorem dX3_both_60 : decode cX3_both 60 = .ok (.getfield 12, 3) := by decide +kernel
theorem dX3_both_63 : decode cX3_both 63 = .ok (.iload_n 1, 1) := by decide +kernel
theorem dX3_both_64 : decode cX3_both 64 = .ok (.iload 8, 2) := by decide +kernel
theorem dX3_both_66 : decode cX3_both 66 = .ok (.invokevirtual 89, 3) := by decide +kernel
theorem dX3_both_69 : decode cX3_both 69 = .ok (.aload_n 0, 1) := by decide +kernel
theorem dX3_both_70 : decode cX3_both 70 = .ok (.getfield 12, 3) := by decide +kernel
theorem dX3_both_73 : decode cX3_both 73 = .ok (.iload_n 2, 1) := by decide +kernel
theorem dX3_both_74 : decode cX3_both 74 = .ok (.iload 8, 2) := by decide +kernel
theorem dX3_both_76 : decode cX3_both 76 = .ok (.invokevirtual 89, 3) := by decide +kernel
theorem dX3_both_79 : decode cX3_both 79 = .ok (.iand, 1) := by decide +kernel
theorem dX3_both_80 : decode cX3_both 80 = .ok (.istore 9, 2) := by decide +kernel
theorem dX3_both_82 : decode cX3_both 82 = .ok (.iload 6, 2) := by decide +kernel
theorem dX3_both_84 : decode cX3_both 84 = .ok (.iload 9, 2) := by decide +kernel
theorem dX3_both_86 : decode cX3_both 86 = .ok (.iload 8, 2) := by decide +kernel
theorem dX3_both_88 : decode cX3_both 88 = .ok (.iload_n 3, 1) := by decide +kernel
theorem dX3_both_89 : decode cX3_both 89 = .ok (.iload 4, 2) := by decide +kernel
theorem dX3_both_91 : decode cX3_both 91 = .ok (.invokestatic 79, 3) := by decide +kernel
theorem dX3_both_94 : decode cX3_both 94 = .ok (.iand, 1) := by decide +kernel
theorem dX3_both_95 : decode cX3_both 95 = .ok (.invokestatic 93, 3) := by decide +kernel
theorem dX3_both_98 : decode cX3_both 98 = .ok (.iadd, 1) := by decide +kernel
theorem dX3_both_99 : decode cX3_both 99 = .ok (.istore 6, 2) := by decide +kernel
theorem dX3_both_101 : decode cX3_both 101 = .ok (.iinc 8 1, 3) := by decide +kernel
theorem dX3_both_104 : decode cX3_both 104 = .ok (.goto (-52), 3) := by decide +kernel
theorem dX3_both_107 : decode cX3_both 107 = .ok (.iload 6, 2) := by decide +kernel
theorem dX3_both_109 : decode cX3_both 109 = .ok (.ireturn, 1) := by decide +kernel
theorem dX3_crowded_0 : decode cX3_crowded 0 = .ok (.iload_n 2, 1) := by decide +kernel
theorem dX3_crowded_1 : decode cX3_crowded 1 = .ok (.iload_n 3, 1) := by decide +kernel
theorem dX3_crowded_2 : decode cX3_crowded 2 = .ok (.invokestatic 116, 3) := by decide +kernel
theorem dX3_crowded_5 : decode cX3_crowded 5 = .ok (.istore 4, 2) := by decide +kernel
theorem dX3_crowded_7 : decode cX3_crowded 7 = .ok (.iload 4, 2) := by decide +kernel
theorem dX3_crowded_9 : decode cX3_crowded 9 = .ok (.ifCond .eq 6, 3) := by decide +kernel
theorem dX3_crowded_12 : decode cX3_crowded 12 = .ok (.iload 4, 2) := by decide +kernel
theorem dX3_crowded_14 : decode cX3_crowded 14 = .ok (.ireturn, 1) := by decide +kernel
theorem dX3_crowded_15 : decode cX3_crowded 15 = .ok (.iload_n 1, 1) := by decide +kernel
theorem dX3_crowded_16 : decode cX3_crowded 16 = .ok (.iconst 1, 1) := by decide +kernel
theorem dX3_crowded_17 : decode cX3_crowded 17 = .ok (.if_icmp .lt 9, 3) := by decide +kernel
theorem dX3_crowded_20 : decode cX3_crowded 20 = .ok (.iload_n 1, 1) := by decide +kernel
theorem dX3_crowded_21 : decode cX3_crowded 21 = .ok (.bipush 16, 2) := by decide +kernel
theorem dX3_crowded_23 : decode cX3_crowded 23 = .ok (.if_icmp .le 6, 3) := by decide +kernel
theorem dX3_crowded_26 : decode cX3_crowded 26 = .ok (.bipush (-2), 2) := by decide +kernel
theorem dX3_crowded_28 : decode cX3_crowded 28 = .ok (.ireturn, 1) := by decide +kernel
theorem dX3_crowded_29 : decode cX3_crowded 29 = .ok (.aload_n 0, 1) := by decide +kernel
theorem dX3_crowded_30 : decode cX3_crowded 30 = .ok (.getfield 12, 3) := by decide +kernel
theorem dX3_crowded_33 : decode cX3_crowded 33 = .ok (.iload_n 2, 1) := by decide +kernel
theorem dX3_crowded_34 : decode cX3_crowded 34 = .ok (.iload_n 3, 1) := by decide +kernel
theorem dX3_crowded_35 : decode cX3_crowded 35 = .ok (.invokevirtual 112, 3) := by decide +kernel
theorem dX3_crowded_38 : decode cX3_crowded 38 = .ok (.iconst 0, 1) := by decide +kernel
theorem dX3_crowded_39 : decode cX3_crowded 39 = .ok (.istore 5, 2) := by decide +kernel
theorem dX3_crowded_41 : decode cX3_crowded 41 = .ok (.iload_n 3, 1) := by decide +kernel
theorem dX3_crowded_42 : decode cX3_crowded 42 = .ok (.invokestatic 76, 3) := by decide +kernel
theorem dX3_crowded_45 : decode cX3_crowded 45 = .ok (.istore 6, 2) := by decide +kernel
theorem dX3_crowded_47 : decode cX3_crowded 47 = .ok (.iload_n 2, 1) := by decide +kernel
theorem dX3_crowded_48 : decode cX3_crowded 48 = .ok (.invokestatic 76, 3) := by decide +kernel
theorem dX3_crowded_51 : decode cX3_crowded 51 = .ok (.istore 7, 2) := by decide +kernel
theorem dX3_crowded_53 : decode cX3_crowded 53 = .ok (.iload 7, 2) := by decide +kernel
theorem dX3_crowded_55 : decode cX3_crowded 55 = .ok (.iload 6, 2) := by decide +kernel
theorem dX3_crowded_57 : decode cX3_crowded 57 = .ok (.if_icmp .gt 31, 3) := by decide +kernel
theorem dX3_crowded_60 : decode cX3_crowded 60 = .ok (.iload 5, 2) := by decide +kernel
theorem dX3_crowded_62 : decode cX3_crowded 62 = .ok (.aload_n 0, 1) := by decide +kernel
theorem dX3_crowded_63 : decode cX3_crowded 63 = .ok (.getfield 12, 3) := by decide +kernel
theorem dX3_crowded_66 : decode cX3_crowded 66 = .ok (.iload_n 1, 1) := by decide +kernel
theorem dX3_crowded_67 : decode cX3_crowded 67 = .ok (.iload 7, 2) := by decide +kernel
theorem dX3_crowded_69 : decode cX3_crowded 69 = .ok (.iload 7, 2) := by decide +kernel
theorem dX3_crowded_71 : decode cX3_crowded 71 = .ok (.iload_n 2, 1) := by decide +kernel
theorem dX3_crowded_72 : decode cX3_crowded 72 = .ok (.iload_n 3, 1) := by decide +kernel
theorem dX3_crowded_73 : decode cX3_crowded 73 = .ok (.invokestatic 79, 3) := by decide +kernel
theorem dX3_crowded_76 : decode cX3_crowded 76 = .ok (.invokevirtual 119, 3) := by decide +kernel
theorem dX3_crowded_79 : decode cX3_crowded 79 = .ok (.iadd, 1) := by decide +kernel
theorem dX3_crowded_80 : decode cX3_crowded 80 = .ok (.istore 5, 2) := by decide +kernel
theorem dX3_crowded_82 : decode cX3_crowded 82 = .ok (.iinc 7 1, 3) := by decide +kernel
theorem dX3_crowded_85 : decode cX3_crowded 85 = .ok (.goto (-32), 3) := by decide +kernel
theorem dX3_crowded_88 : decode cX3_crowded 88 = .ok (.iload 5, 2) := by decide +kernel
theorem dX3_crowded_90 : decode cX3_crowded 90 = .ok (.ireturn, 1) := by decide +kernel
theorem dX3_longest_0 : decode cX3_longest 0 = .ok (.iload_n 1, 1) := by decide +kernel
theorem dX3_longest_1 : decode cX3_longest 1 = .ok (.iload_n 2, 1) := by decide +kernel
theorem dX3_longest_2 : decode cX3_longest 2 = .ok (.iload_n 3, 1) := by decide +kernel
theorem dX3_longest_3 : decode cX3_longest 3 = .ok (.invokestatic 73, 3) := by decide +kernel
theorem dX3_longest_6 : decode cX3_longest 6 = .ok (.istore 5, 2) := by decide +kernel
theorem dX3_longest_8 : decode cX3_longest 8 = .ok (.iload 5, 2) := by decide +kernel
theorem dX3_longest_10 : decode cX3_longest 10 = .ok (.ifCond .eq 6, 3) := by decide +kernel
theorem dX3_longest_13 : decode cX3_longest 13 = .ok (.iload 5, 2) := by decide +kernel
theorem dX3_longest_15 : decode cX3_longest 15 = .ok (.ireturn, 1) := by decide +kernel
theorem dX3_longest_16 : decode cX3_longest 16 = .ok (.iload 4, 2) := by decide +kernel
theorem dX3_longest_18 : decode cX3_longest 18 = .ok (.ifCond .eq 12, 3) := by decide +kernel
theorem dX3_longest_21 : decode cX3_longest 21 = .ok (.iload 4, 2) := by decide +kernel
theorem dX3_longest_23 : decode cX3_longest 23 = .ok (.iconst 1, 1) := by decide +kernel
theorem dX3_longest_24 : decode cX3_longest 24 = .ok (.if_icmp .eq 6, 3) := by decide +kernel
theorem dX3_longest_27 : decode cX3_longest 27 = .ok (.bipush (-2), 2) := by decide +kernel
theorem dX3_longest_29 : decode cX3_longest 29 = .ok (.ireturn, 1) := by decide +kernel
theorem dX3_longest_30 : decode cX3_longest 30 = .ok (.aload_n 0, 1) := by decide +kernel
theorem dX3_longest_31 : decode cX3_longest 31 = .ok (.getfield 12, 3) := by decide +kernel
theorem dX3_longest_34 : decode cX3_longest 34 = .ok (.iload_n 1, 1) := by decide +kernel
theorem dX3_longest_35 : decode cX3_longest 35 = .ok (.iload_n 2, 1) := by decide +kernel
theorem dX3_longest_36 : decode cX3_longest 36 = .ok (.iload_n 3, 1) := by decide +kernel
theorem dX3_longest_37 : decode cX3_longest 37 = .ok (.invokevirtual 122, 3) := by decide +kernel
theorem dX3_longest_40 : decode cX3_longest 40 = .ok (.iconst 0, 1) := by decide +kernel
theorem dX3_longest_41 : decode cX3_longest 41 = .ok (.istore 6, 2) := by decide +kernel
theorem dX3_longest_43 : decode cX3_longest 43 = .ok (.iconst 0, 1) := by decide +kernel
theorem dX3_longest_44 : decode cX3_longest 44 = .ok (.istore 7, 2) := by decide +kernel
theorem dX3_longest_46 : decode cX3_longest 46 = .ok (.bipush (-6), 2) := by decide +kernel
theorem dX3_longest_48 : decode cX3_longest 48 = .ok (.istore 8, 2) := by decide +kernel
theorem dX3_longest_50 : decode cX3_longest 50 = .ok (.iload_n 2, 1) := by decide +kernel
theorem dX3_longest_51 : decode cX3_longest 51 = .ok (.istore 9, 2) := by decide +kernel
theorem dX3_longest_53 : decode cX3_longest 53 = .ok (.iload 9, 2) := by decide +kernel
theorem dX3_longest_55 : decode cX3_longest 55 = .ok (.iload_n 3, 1) := by decide +kernel
theorem dX3_longest_56 : decode cX3_longest 56 = .ok (.if_icmp .gt 52, 3) := by decide +kernel
theorem dX3_longest_59 : decode cX3_longest 59 = .ok (.aload_n 0, 1) := by decide +kernel
theorem dX3_longest_60 : decode cX3_longest 60 = .ok (.getfield 12, 3) := by decide +kernel
theorem dX3_longest_63 : decode cX3_longest 63 = .ok (.iload_n 1, 1) := by decide +kernel
theorem dX3_longest_64 : decode cX3_longest 64 = .ok (.iload 9, 2) := by decide +kernel
theorem dX3_longest_66 : decode cX3_longest 66 = .ok (.invokevirtual 126, 3) := by decide +kernel
theorem dX3_longest_69 : decode cX3_longest 69 = .ok (.ifCond .eq 10, 3) := by decide +kernel
theorem dX3_longest_72 : decode cX3_longest 72 = .ok (.iload 6, 2) := by decide +kernel
theorem dX3_longest_74 : decode cX3_longest 74 = .ok (.iconst 1, 1) := by decide +kernel
theorem dX3_longest_75 : decode cX3_longest 75 = .ok (.iadd, 1) := by decide +kernel
theorem dX3_longest_76 : decode cX3_longest 76 = .ok (.goto 4, 3) := by decide +kernel
theorem dX3_longest_79 : decode cX3_longest 79 = .ok (.iconst 0, 1) := by decide +kernel
theorem dX3_longest_80 : decode cX3_longest 80 = .ok (.istore 6, 2) := by decide +kernel
theorem dX3_longest_82 : decode cX3_longest 82 = .ok (.iload 6, 2) := by decide +kernel
theorem dX3_longest_84 : decode cX3_longest 84 = .ok (.iload 7, 2) := by decide +kernel
theorem dX3_longest_86 : decode cX3_longest 86 = .ok (.if_icmp .le 16, 3) := by decide +kernel
theorem dX3_longest_89 : decode cX3_longest 89 = .ok (.iload 6, 2) := by decide +kernel
theorem dX3_longest_91 : decode cX3_longest 91 = .ok (.istore 7, 2) := by decide +kernel
theorem dX3_longest_93 : decode cX3_longest 93 = .ok (.iload 9, 2) := by decide +kernel
theorem dX3_longest_95 : decode cX3_longest 95 = .ok (.iload 6, 2) := by decide +kernel
theorem dX3_longest_97 : decode cX3_longest 97 = .ok (.isub, 1) := by decide +kernel
theorem dX3_longest_98 : decode cX3_longest 98 = .ok (.iconst 1, 1) := by decide +kernel
theorem dX3_longest_99 : decode cX3_longest 99 = .ok (.iadd, 1) := by decide +kernel
theorem dX3_longest_100 : decode cX3_longest 100 = .ok (.istore 8, 2) := by decide +kernel
theorem dX3_longest_102 : decode cX3_longest 102 = .ok (.iinc 9 1, 3) := by decide +kernel
theorem dX3_longest_105 : decode cX3_longest 105 = .ok (.goto (-52), 3) := by decide +kernel
theorem dX3_longest_108 : decode cX3_longest 108 = .ok (.iload 4, 2) := by decide +kernel
theorem dX3_longest_110 : decode cX3_longest 110 = .ok (.ifCond .ne 8, 3) := by decide +kernel
theorem dX3_longest_113 : decode cX3_longest 113 = .ok (.iload 7, 2) := by decide +kernel
theorem dX3_longest_115 : decode cX3_longest 115 = .ok (.goto 5, 3) := by decide +kernel
theorem dX3_longest_118 : decode cX3_longest 118 = .ok (.iload 8, 2) := by decide +kernel
theorem dX3_longest_120 : decode cX3_longest 120 = .ok (.ireturn, 1) := by decide +kernel
theorem dX3_nextMark_0 : decode cX3_nextMark 0 = .ok (.iload_n 1, 1) := by decide +kernel
theorem dX3_nextMark_1 : decode cX3_nextMark 1 = .ok (.invokestatic 98, 3) := by decide +kernel
theorem dX3_nextMark_4 : decode cX3_nextMark 4 = .ok (.ifCond .eq 10, 3) := by decide +kernel
theorem dX3_nextMark_7 : decode cX3_nextMark 7 = .ok (.iload_n 2, 1) := by decide +kernel
theorem dX3_nextMark_8 : decode cX3_nextMark 8 = .ok (.invokestatic 102, 3) := by decide +kernel
theorem dX3_nextMark_11 : decode cX3_nextMark 11 = .ok (.ifCond .ne 5, 3) := by decide +kernel
theorem dX3_nextMark_14 : decode cX3_nextMark 14 = .ok (.iconst (-1), 1) := by decide +kernel
theorem dX3_nextMark_15 : decode cX3_nextMark 15 = .ok (.ireturn, 1) := by decide +kernel
theorem dX3_nextMark_16 : decode cX3_nextMark 16 = .ok (.iload_n 2, 1) := by decide +kernel
theorem dX3_nextMark_17 : decode cX3_nextMark 17 = .ok (.invokestatic 76, 3) := by decide +kernel
theorem dX3_nextMark_20 : decode cX3_nextMark 20 = .ok (.istore_n 3, 1) := by decide +kernel
theorem dX3_nextMark_21 : decode cX3_nextMark 21 = .ok (.iload_n 3, 1) := by decide +kernel
theorem dX3_nextMark_22 : decode cX3_nextMark 22 = .ok (.bipush 120, 2) := by decide +kernel
theorem dX3_nextMark_24 : decode cX3_nextMark 24 = .ok (.if_icmp .ge 79, 3) := by decide +kernel
theorem dX3_nextMark_27 : decode cX3_nextMark 27 = .ok (.aload_n 0, 1) := by decide +kernel
theorem dX3_nextMark_28 : decode cX3_nextMark 28 = .ok (.getfield 12, 3) := by decide +kernel
theorem dX3_nextMark_31 : decode cX3_nextMark 31 = .ok (.iload_n 1, 1) := by decide +kernel
theorem dX3_nextMark_32 : decode cX3_nextMark 32 = .ok (.iload_n 3, 1) := by decide +kernel
theorem dX3_nextMark_33 : decode cX3_nextMark 33 = .ok (.invokevirtual 89, 3) := by decide +kernel
theorem dX3_nextMark_36 : decode cX3_nextMark 36 = .ok (.ifCond .eq 61, 3) := by decide +kernel
theorem dX3_nextMark_39 : decode cX3_nextMark 39 = .ok (.aload_n 0, 1) := by decide +kernel
theorem dX3_nextMark_40 : decode cX3_nextMark 40 = .ok (.getfield 12, 3) := by decide +kernel
theorem dX3_nextMark_43 : decode cX3_nextMark 43 = .ok (.iload_n 3, 1) := by decide +kernel
theorem dX3_nextMark_44 : decode cX3_nextMark 44 = .ok (.invokevirtual 85, 3) := by decide +kernel
theorem dX3_nextMark_47 : decode cX3_nextMark 47 = .ok (.iload_n 3, 1) := by decide +kernel
theorem dX3_nextMark_48 : decode cX3_nextMark 48 = .ok (.invokestatic 105, 3) := by decide +kernel
theorem dX3_nextMark_51 : decode cX3_nextMark 51 = .ok (.iload_n 3, 1) := by decide +kernel
theorem dX3_nextMark_52 : decode cX3_nextMark 52 = .ok (.invokestatic 129, 3) := by decide +kernel
theorem dX3_nextMark_55 : decode cX3_nextMark 55 = .ok (.iadd, 1) := by decide +kernel
theorem dX3_nextMark_56 : decode cX3_nextMark 56 = .ok (.istore 4, 2) := by decide +kernel
theorem dX3_nextMark_58 : decode cX3_nextMark 58 = .ok (.iload_n 2, 1) := by decide +kernel
theorem dX3_nextMark_59 : decode cX3_nextMark 59 = .ok (.iload_n 3, 1) := by decide +kernel
theorem dX3_nextMark_60 : decode cX3_nextMark 60 = .ok (.invokestatic 105, 3) := by decide +kernel
theorem dX3_nextMark_63 : decode cX3_nextMark 63 = .ok (.invokestatic 132, 3) := by decide +kernel
theorem dX3_nextMark_66 : decode cX3_nextMark 66 = .ok (.istore 5, 2) := by decide +kernel
theorem dX3_nextMark_68 : decode cX3_nextMark 68 = .ok (.iload 5, 2) := by decide +kernel
theorem dX3_nextMark_70 : decode cX3_nextMark 70 = .ok (.iload 4, 2) := by decide +kernel
theorem dX3_nextMark_72 : decode cX3_nextMark 72 = .ok (.if_icmp .ge 25, 3) := by decide +kernel
theorem dX3_nextMark_75 : decode cX3_nextMark 75 = .ok (.aload_n 0, 1) := by decide +kernel
theorem dX3_nextMark_76 : decode cX3_nextMark 76 = .ok (.getfield 12, 3) := by decide +kernel
theorem dX3_nextMark_79 : decode cX3_nextMark 79 = .ok (.iload_n 1, 1) := by decide +kernel
theorem dX3_nextMark_80 : decode cX3_nextMark 80 = .ok (.iload 5, 2) := by decide +kernel
theorem dX3_nextMark_82 : decode cX3_nextMark 82 = .ok (.invokevirtual 126, 3) := by decide +kernel
theorem dX3_nextMark_85 : decode cX3_nextMark 85 = .ok (.ifCond .eq 6, 3) := by decide +kernel
theorem dX3_nextMark_88 : decode cX3_nextMark 88 = .ok (.iload 5, 2) := by decide +kernel
theorem dX3_nextMark_90 : decode cX3_nextMark 90 = .ok (.ireturn, 1) := by decide +kernel
theorem dX3_nextMark_91 : decode cX3_nextMark 91 = .ok (.iinc 5 1, 3) := by decide +kernel
theorem dX3_nextMark_94 : decode cX3_nextMark 94 = .ok (.goto (-26), 3) := by decide +kernel
theorem dX3_nextMark_97 : decode cX3_nextMark 97 = .ok (.iinc 3 1, 3) := by decide +kernel
theorem dX3_nextMark_100 : decode cX3_nextMark 100 = .ok (.goto (-79), 3) := by decide +kernel
theorem dX3_nextMark_103 : decode cX3_nextMark 103 = .ok (.bipush (-6), 2) := by decide +kernel
theorem dX3_nextMark_105 : decode cX3_nextMark 105 = .ok (.ireturn, 1) := by decide +kernel
theorem dX3_ofMonth_0 : decode cX3_ofMonth 0 = .ok (.iload_n 1, 1) := by decide +kernel
theorem dX3_ofMonth_1 : decode cX3_ofMonth 1 = .ok (.invokestatic 137, 3) := by decide +kernel
theorem dX3_ofMonth_4 : decode cX3_ofMonth 4 = .ok (.ifCond .ne 5, 3) := by decide +kernel
theorem dX3_ofMonth_7 : decode cX3_ofMonth 7 = .ok (.iconst (-1), 1) := by decide +kernel
theorem dX3_ofMonth_8 : decode cX3_ofMonth 8 = .ok (.ireturn, 1) := by decide +kernel
theorem dX3_ofMonth_9 : decode cX3_ofMonth 9 = .ok (.iload_n 2, 1) := by decide +kernel
theorem dX3_ofMonth_10 : decode cX3_ofMonth 10 = .ok (.tableswitch 170 0 9 #[54, 59, 64, 81, 100, 125, 134, 143, 152, 161], 54) := by decide +kernel
theorem dX3_ofMonth_64 : decode cX3_ofMonth 64 = .ok (.iload_n 1, 1) := by decide +kernel
theorem dX3_ofMonth_65 : decode cX3_ofMonth 65 = .ok (.invokestatic 105, 3) := by decide +kernel
theorem dX3_ofMonth_68 : decode cX3_ofMonth 68 = .ok (.ireturn, 1) := by decide +kernel
theorem dX3_ofMonth_69 : decode cX3_ofMonth 69 = .ok (.iload_n 1, 1) := by decide +kernel
theorem dX3_ofMonth_70 : decode cX3_ofMonth 70 = .ok (.invokestatic 129, 3) := by decide +kernel
theorem dX3_ofMonth_73 : decode cX3_ofMonth 73 = .ok (.ireturn, 1) := by decide +kernel
theorem dX3_ofMonth_74 : decode cX3_ofMonth 74 = .ok (.aload_n 0, 1) := by decide +kernel
theorem dX3_ofMonth_75 : decode cX3_ofMonth 75 = .ok (.getfield 12, 3) := by decide +kernel
theorem dX3_ofMonth_78 : decode cX3_ofMonth 78 = .ok (.iload_n 1, 1) := by decide +kernel
theorem dX3_ofMonth_79 : decode cX3_ofMonth 79 = .ok (.invokevirtual 140, 3) := by decide +kernel
theorem dX3_ofMonth_82 : decode cX3_ofMonth 82 = .ok (.ifCond .eq 7, 3) := by decide +kernel
theorem dX3_ofMonth_85 : decode cX3_ofMonth 85 = .ok (.iconst 1, 1) := by decide +kernel
theorem dX3_ofMonth_86 : decode cX3_ofMonth 86 = .ok (.goto 4, 3) := by decide +kernel
theorem dX3_ofMonth_89 : decode cX3_ofMonth 89 = .ok (.iconst 0, 1) := by decide +kernel
theorem dX3_ofMonth_90 : decode cX3_ofMonth 90 = .ok (.ireturn, 1) := by decide +kernel
theorem dX3_ofMonth_91 : decode cX3_ofMonth 91 = .ok (.aload_n 0, 1) := by decide +kernel
theorem dX3_ofMonth_92 : decode cX3_ofMonth 92 = .ok (.getfield 12, 3) := by decide +kernel
theorem dX3_ofMonth_95 : decode cX3_ofMonth 95 = .ok (.iload_n 1, 1) := by decide +kernel
theorem dX3_ofMonth_96 : decode cX3_ofMonth 96 = .ok (.invokevirtual 143, 3) := by decide +kernel
theorem dX3_ofMonth_99 : decode cX3_ofMonth 99 = .ok (.bipush (-6), 2) := by decide +kernel
theorem dX3_ofMonth_101 : decode cX3_ofMonth 101 = .ok (.if_icmp .ne 7, 3) := by decide +kernel
theorem dX3_ofMonth_104 : decode cX3_ofMonth 104 = .ok (.iconst 0, 1) := by decide +kernel
theorem dX3_ofMonth_105 : decode cX3_ofMonth 105 = .ok (.goto 4, 3) := by decide +kernel
theorem dX3_ofMonth_108 : decode cX3_ofMonth 108 = .ok (.iconst 1, 1) := by decide +kernel
theorem dX3_ofMonth_109 : decode cX3_ofMonth 109 = .ok (.ireturn, 1) := by decide +kernel
theorem dX3_ofMonth_110 : decode cX3_ofMonth 110 = .ok (.aload_n 0, 1) := by decide +kernel
theorem dX3_ofMonth_111 : decode cX3_ofMonth 111 = .ok (.getfield 12, 3) := by decide +kernel
theorem dX3_ofMonth_114 : decode cX3_ofMonth 114 = .ok (.iload_n 1, 1) := by decide +kernel
theorem dX3_ofMonth_115 : decode cX3_ofMonth 115 = .ok (.invokevirtual 146, 3) := by decide +kernel
theorem dX3_ofMonth_118 : decode cX3_ofMonth 118 = .ok (.iconst 5, 1) := by decide +kernel
theorem dX3_ofMonth_119 : decode cX3_ofMonth 119 = .ok (.if_icmp .ne 7, 3) := by decide +kernel
theorem dX3_ofMonth_122 : decode cX3_ofMonth 122 = .ok (.iconst 4, 1) := by decide +kernel
theorem dX3_ofMonth_123 : decode cX3_ofMonth 123 = .ok (.goto 11, 3) := by decide +kernel
theorem dX3_ofMonth_126 : decode cX3_ofMonth 126 = .ok (.aload_n 0, 1) := by decide +kernel
theorem dX3_ofMonth_127 : decode cX3_ofMonth 127 = .ok (.getfield 12, 3) := by decide +kernel
theorem dX3_ofMonth_130 : decode cX3_ofMonth 130 = .ok (.iload_n 1, 1) := by decide +kernel
theorem dX3_ofMonth_131 : decode cX3_ofMonth 131 = .ok (.invokevirtual 146, 3) := by decide +kernel
theorem dX3_ofMonth_134 : decode cX3_ofMonth 134 = .ok (.ireturn, 1) := by decide +kernel
theorem dX3_ofMonth_135 : decode cX3_ofMonth 135 = .ok (.aload_n 0, 1) := by decide +kernel
theorem dX3_ofMonth_136 : decode cX3_ofMonth 136 = .ok (.getfield 12, 3) := by decide +kernel
theorem dX3_ofMonth_139 : decode cX3_ofMonth 139 = .ok (.iload_n 1, 1) := by decide +kernel
theorem dX3_ofMonth_140 : decode cX3_ofMonth 140 = .ok (.invokevirtual 149, 3) := by decide +kernel
theorem dX3_ofMonth_143 : decode cX3_ofMonth 143 = .ok (.ireturn, 1) := by decide +kernel
theorem dX3_ofMonth_144 : decode cX3_ofMonth 144 = .ok (.aload_n 0, 1) := by decide +kernel
theorem dX3_ofMonth_145 : decode cX3_ofMonth 145 = .ok (.getfield 12, 3) := by decide +kernel
theorem dX3_ofMonth_148 : decode cX3_ofMonth 148 = .ok (.iload_n 1, 1) := by decide +kernel
theorem dX3_ofMonth_149 : decode cX3_ofMonth 149 = .ok (.invokevirtual 152, 3) := by decide +kernel
theorem dX3_ofMonth_152 : decode cX3_ofMonth 152 = .ok (.ireturn, 1) := by decide +kernel
theorem dX3_ofMonth_153 : decode cX3_ofMonth 153 = .ok (.aload_n 0, 1) := by decide +kernel
theorem dX3_ofMonth_154 : decode cX3_ofMonth 154 = .ok (.getfield 12, 3) := by decide +kernel
theorem dX3_ofMonth_157 : decode cX3_ofMonth 157 = .ok (.iload_n 1, 1) := by decide +kernel
theorem dX3_ofMonth_158 : decode cX3_ofMonth 158 = .ok (.invokevirtual 155, 3) := by decide +kernel
theorem dX3_ofMonth_161 : decode cX3_ofMonth 161 = .ok (.ireturn, 1) := by decide +kernel
theorem dX3_ofMonth_162 : decode cX3_ofMonth 162 = .ok (.aload_n 0, 1) := by decide +kernel
theorem dX3_ofMonth_163 : decode cX3_ofMonth 163 = .ok (.getfield 12, 3) := by decide +kernel
theorem dX3_ofMonth_166 : decode cX3_ofMonth 166 = .ok (.iload_n 1, 1) := by decide +kernel
theorem dX3_ofMonth_167 : decode cX3_ofMonth 167 = .ok (.invokevirtual 158, 3) := by decide +kernel
theorem dX3_ofMonth_170 : decode cX3_ofMonth 170 = .ok (.ireturn, 1) := by decide +kernel
theorem dX3_ofMonth_171 : decode cX3_ofMonth 171 = .ok (.aload_n 0, 1) := by decide +kernel
theorem dX3_ofMonth_172 : decode cX3_ofMonth 172 = .ok (.getfield 12, 3) := by decide +kernel
theorem dX3_ofMonth_175 : decode cX3_ofMonth 175 = .ok (.iload_n 1, 1) := by decide +kernel
theorem dX3_ofMonth_176 : decode cX3_ofMonth 176 = .ok (.invokevirtual 143, 3) := by decide +kernel
theorem dX3_ofMonth_179 : decode cX3_ofMonth 179 = .ok (.ireturn, 1) := by decide +kernel
theorem dX3_ofMonth_180 : decode cX3_ofMonth 180 = .ok (.bipush (-2), 2) := by decide +kernel
theorem dX3_ofMonth_182 : decode cX3_ofMonth 182 = .ok (.ireturn, 1) := by decide +kernel
theorem dX3_inMonth_0 : decode cX3_inMonth 0 = .ok (.iload_n 1, 1) := by decide +kernel
theorem dX3_inMonth_1 : decode cX3_inMonth 1 = .ok (.invokestatic 98, 3) := by decide +kernel
theorem dX3_inMonth_4 : decode cX3_inMonth 4 = .ok (.ifCond .eq 10, 3) := by decide +kernel
theorem dX3_inMonth_7 : decode cX3_inMonth 7 = .ok (.iload_n 2, 1) := by decide +kernel
theorem dX3_inMonth_8 : decode cX3_inMonth 8 = .ok (.invokestatic 137, 3) := by decide +kernel
theorem dX3_inMonth_11 : decode cX3_inMonth 11 = .ok (.ifCond .ne 5, 3) := by decide +kernel
theorem dX3_inMonth_14 : decode cX3_inMonth 14 = .ok (.iconst (-1), 1) := by decide +kernel
theorem dX3_inMonth_15 : decode cX3_inMonth 15 = .ok (.ireturn, 1) := by decide +kernel
theorem dX3_inMonth_16 : decode cX3_inMonth 16 = .ok (.aload_n 0, 1) := by decide +kernel
theorem dX3_inMonth_17 : decode cX3_inMonth 17 = .ok (.getfield 12, 3) := by decide +kernel
theorem dX3_inMonth_20 : decode cX3_inMonth 20 = .ok (.iload_n 1, 1) := by decide +kernel
theorem dX3_inMonth_21 : decode cX3_inMonth 21 = .ok (.iload_n 2, 1) := by decide +kernel
theorem dX3_inMonth_22 : decode cX3_inMonth 22 = .ok (.invokevirtual 89, 3) := by decide +kernel
theorem dX3_inMonth_25 : decode cX3_inMonth 25 = .ok (.invokestatic 93, 3) := by decide +kernel
theorem dX3_inMonth_28 : decode cX3_inMonth 28 = .ok (.ireturn, 1) := by decide +kernel
theorem dX3_dayOf_0 : decode cX3_dayOf 0 = .ok (.iload_n 1, 1) := by decide +kernel
theorem dX3_dayOf_1 : decode cX3_dayOf 1 = .ok (.ifCond .lt 20, 3) := by decide +kernel
theorem dX3_dayOf_4 : decode cX3_dayOf 4 = .ok (.iload_n 1, 1) := by decide +kernel
theorem dX3_dayOf_5 : decode cX3_dayOf 5 = .ok (.bipush 10, 2) := by decide +kernel
theorem dX3_dayOf_7 : decode cX3_dayOf 7 = .ok (.if_icmp .ge 14, 3) := by decide +kernel
theorem dX3_dayOf_10 : decode cX3_dayOf 10 = .ok (.iload_n 2, 1) := by decide +kernel
theorem dX3_dayOf_11 : decode cX3_dayOf 11 = .ok (.iconst 1, 1) := by decide +kernel
theorem dX3_dayOf_12 : decode cX3_dayOf 12 = .ok (.if_icmp .lt 9, 3) := by decide +kernel
theorem dX3_dayOf_15 : decode cX3_dayOf 15 = .ok (.iload_n 2, 1) := by decide +kernel
theorem dX3_dayOf_16 : decode cX3_dayOf 16 = .ok (.bipush 12, 2) := by decide +kernel
theorem dX3_dayOf_18 : decode cX3_dayOf 18 = .ok (.if_icmp .le 5, 3) := by decide +kernel
theorem dX3_dayOf_21 : decode cX3_dayOf 21 = .ok (.iconst (-1), 1) := by decide +kernel
theorem dX3_dayOf_22 : decode cX3_dayOf 22 = .ok (.ireturn, 1) := by decide +kernel
theorem dX3_dayOf_23 : decode cX3_dayOf 23 = .ok (.iload_n 1, 1) := by decide +kernel
theorem dX3_dayOf_24 : decode cX3_dayOf 24 = .ok (.bipush 12, 2) := by decide +kernel
theorem dX3_dayOf_26 : decode cX3_dayOf 26 = .ok (.imul, 1) := by decide +kernel
theorem dX3_dayOf_27 : decode cX3_dayOf 27 = .ok (.iload_n 2, 1) := by decide +kernel
theorem dX3_dayOf_28 : decode cX3_dayOf 28 = .ok (.iadd, 1) := by decide +kernel
theorem dX3_dayOf_29 : decode cX3_dayOf 29 = .ok (.iconst 1, 1) := by decide +kernel
theorem dX3_dayOf_30 : decode cX3_dayOf 30 = .ok (.isub, 1) := by decide +kernel
theorem dX3_dayOf_31 : decode cX3_dayOf 31 = .ok (.istore 4, 2) := by decide +kernel
theorem dX3_dayOf_33 : decode cX3_dayOf 33 = .ok (.iload_n 3, 1) := by decide +kernel
theorem dX3_dayOf_34 : decode cX3_dayOf 34 = .ok (.iconst 1, 1) := by decide +kernel
theorem dX3_dayOf_35 : decode cX3_dayOf 35 = .ok (.if_icmp .lt 12, 3) := by decide +kernel
theorem dX3_dayOf_38 : decode cX3_dayOf 38 = .ok (.iload_n 3, 1) := by decide +kernel
theorem dX3_dayOf_39 : decode cX3_dayOf 39 = .ok (.iload 4, 2) := by decide +kernel
theorem dX3_dayOf_41 : decode cX3_dayOf 41 = .ok (.invokestatic 129, 3) := by decide +kernel
theorem dX3_dayOf_44 : decode cX3_dayOf 44 = .ok (.if_icmp .le 5, 3) := by decide +kernel
theorem dX3_dayOf_47 : decode cX3_dayOf 47 = .ok (.iconst (-1), 1) := by decide +kernel
theorem dX3_dayOf_48 : decode cX3_dayOf 48 = .ok (.ireturn, 1) := by decide +kernel
theorem dX3_dayOf_49 : decode cX3_dayOf 49 = .ok (.iload 4, 2) := by decide +kernel
theorem dX3_dayOf_51 : decode cX3_dayOf 51 = .ok (.invokestatic 105, 3) := by decide +kernel
theorem dX3_dayOf_54 : decode cX3_dayOf 54 = .ok (.iload_n 3, 1) := by decide +kernel
theorem dX3_dayOf_55 : decode cX3_dayOf 55 = .ok (.iadd, 1) := by decide +kernel
theorem dX3_dayOf_56 : decode cX3_dayOf 56 = .ok (.iconst 1, 1) := by decide +kernel
theorem dX3_dayOf_57 : decode cX3_dayOf 57 = .ok (.isub, 1) := by decide +kernel
theorem dX3_dayOf_58 : decode cX3_dayOf 58 = .ok (.ireturn, 1) := by decide +kernel
theorem dX3_dateOf_0 : decode cX3_dateOf 0 = .ok (.iload_n 1, 1) := by decide +kernel
theorem dX3_dateOf_1 : decode cX3_dateOf 1 = .ok (.invokestatic 102, 3) := by decide +kernel
theorem dX3_dateOf_4 : decode cX3_dateOf 4 = .ok (.ifCond .ne 5, 3) := by decide +kernel
theorem dX3_dateOf_7 : decode cX3_dateOf 7 = .ok (.iconst (-1), 1) := by decide +kernel
theorem dX3_dateOf_8 : decode cX3_dateOf 8 = .ok (.ireturn, 1) := by decide +kernel
theorem dX3_dateOf_9 : decode cX3_dateOf 9 = .ok (.iload_n 1, 1) := by decide +kernel
theorem dX3_dateOf_10 : decode cX3_dateOf 10 = .ok (.invokestatic 76, 3) := by decide +kernel
theorem dX3_dateOf_13 : decode cX3_dateOf 13 = .ok (.istore_n 3, 1) := by decide +kernel
theorem dX3_dateOf_14 : decode cX3_dateOf 14 = .ok (.iload_n 2, 1) := by decide +kernel
theorem dX3_dateOf_15 : decode cX3_dateOf 15 = .ok (.tableswitch 53 0 3 #[29, 35, 42, 51], 29) := by decide +kernel
theorem dX3_dateOf_44 : decode cX3_dateOf 44 = .ok (.iload_n 1, 1) := by decide +kernel
theorem dX3_dateOf_45 : decode cX3_dateOf 45 = .ok (.sipush 365, 3) := by decide +kernel
theorem dX3_dateOf_48 : decode cX3_dateOf 48 = .ok (.idiv, 1) := by decide +kernel
theorem dX3_dateOf_49 : decode cX3_dateOf 49 = .ok (.ireturn, 1) := by decide +kernel
theorem dX3_dateOf_50 : decode cX3_dateOf 50 = .ok (.iload_n 3, 1) := by decide +kernel
theorem dX3_dateOf_51 : decode cX3_dateOf 51 = .ok (.bipush 12, 2) := by decide +kernel
theorem dX3_dateOf_53 : decode cX3_dateOf 53 = .ok (.irem, 1) := by decide +kernel
theorem dX3_dateOf_54 : decode cX3_dateOf 54 = .ok (.iconst 1, 1) := by decide +kernel
theorem dX3_dateOf_55 : decode cX3_dateOf 55 = .ok (.iadd, 1) := by decide +kernel
theorem dX3_dateOf_56 : decode cX3_dateOf 56 = .ok (.ireturn, 1) := by decide +kernel
theorem dX3_dateOf_57 : decode cX3_dateOf 57 = .ok (.iload_n 1, 1) := by decide +kernel
theorem dX3_dateOf_58 : decode cX3_dateOf 58 = .ok (.iload_n 3, 1) := by decide +kernel
theorem dX3_dateOf_59 : decode cX3_dateOf 59 = .ok (.invokestatic 105, 3) := by decide +kernel
theorem dX3_dateOf_62 : decode cX3_dateOf 62 = .ok (.isub, 1) := by decide +kernel
theorem dX3_dateOf_63 : decode cX3_dateOf 63 = .ok (.iconst 1, 1) := by decide +kernel
theorem dX3_dateOf_64 : decode cX3_dateOf 64 = .ok (.iadd, 1) := by decide +kernel
theorem dX3_dateOf_65 : decode cX3_dateOf 65 = .ok (.ireturn, 1) := by decide +kernel
theorem dX3_dateOf_66 : decode cX3_dateOf 66 = .ok (.iload_n 3, 1) := by decide +kernel
theorem dX3_dateOf_67 : decode cX3_dateOf 67 = .ok (.ireturn, 1) := by decide +kernel
theorem dX3_dateOf_68 : decode cX3_dateOf 68 = .ok (.bipush (-2), 2) := by decide +kernel
theorem dX3_dateOf_70 : decode cX3_dateOf 70 = .ok (.ireturn, 1) := by decide +kernel
theorem dX3_count_0 : decode cX3_count 0 = .ok (.iload_n 1, 1) := by decide +kernel
theorem dX3_count_1 : decode cX3_count 1 = .ok (.tableswitch 171 0 12 #[67, 75, 86, 94, 102, 110, 118, 126, 134, 142, 150, 158, 166], 67) := by decide +kernel
theorem dX3_count_68 : decode cX3_count 68 = .ok (.aload_n 0, 1) := by decide +kernel
theorem dX3_count_69 : decode cX3_count 69 = .ok (.getfield 12, 3) := by decide +kernel
theorem dX3_count_72 : decode cX3_count 72 = .ok (.getfield 40, 3) := by decide +kernel
theorem dX3_count_75 : decode cX3_count 75 = .ok (.ireturn, 1) := by decide +kernel
theorem dX3_count_76 : decode cX3_count 76 = .ok (.aload_n 0, 1) := by decide +kernel
theorem dX3_count_77 : decode cX3_count 77 = .ok (.getfield 12, 3) := by decide +kernel
theorem dX3_count_80 : decode cX3_count 80 = .ok (.getfield 40, 3) := by decide +kernel
theorem dX3_count_83 : decode cX3_count 83 = .ok (.invokestatic 76, 3) := by decide +kernel
theorem dX3_count_86 : decode cX3_count 86 = .ok (.ireturn, 1) := by decide +kernel
theorem dX3_count_87 : decode cX3_count 87 = .ok (.aload_n 0, 1) := by decide +kernel
theorem dX3_count_88 : decode cX3_count 88 = .ok (.getfield 12, 3) := by decide +kernel
theorem dX3_count_91 : decode cX3_count 91 = .ok (.invokevirtual 161, 3) := by decide +kernel
theorem dX3_count_94 : decode cX3_count 94 = .ok (.ireturn, 1) := by decide +kernel
theorem dX3_count_95 : decode cX3_count 95 = .ok (.aload_n 0, 1) := by decide +kernel
theorem dX3_count_96 : decode cX3_count 96 = .ok (.getfield 12, 3) := by decide +kernel
theorem dX3_count_99 : decode cX3_count 99 = .ok (.getfield 165, 3) := by decide +kernel
theorem dX3_count_102 : decode cX3_count 102 = .ok (.ireturn, 1) := by decide +kernel
theorem dX3_count_103 : decode cX3_count 103 = .ok (.aload_n 0, 1) := by decide +kernel
theorem dX3_count_104 : decode cX3_count 104 = .ok (.getfield 12, 3) := by decide +kernel
theorem dX3_count_107 : decode cX3_count 107 = .ok (.invokevirtual 168, 3) := by decide +kernel
theorem dX3_count_110 : decode cX3_count 110 = .ok (.ireturn, 1) := by decide +kernel
theorem dX3_count_111 : decode cX3_count 111 = .ok (.aload_n 0, 1) := by decide +kernel
theorem dX3_count_112 : decode cX3_count 112 = .ok (.getfield 12, 3) := by decide +kernel
theorem dX3_count_115 : decode cX3_count 115 = .ok (.getfield 171, 3) := by decide +kernel
theorem dX3_count_118 : decode cX3_count 118 = .ok (.ireturn, 1) := by decide +kernel
theorem dX3_count_119 : decode cX3_count 119 = .ok (.aload_n 0, 1) := by decide +kernel
theorem dX3_count_120 : decode cX3_count 120 = .ok (.getfield 12, 3) := by decide +kernel
theorem dX3_count_123 : decode cX3_count 123 = .ok (.getfield 174, 3) := by decide +kernel
theorem dX3_count_126 : decode cX3_count 126 = .ok (.ireturn, 1) := by decide +kernel
theorem dX3_count_127 : decode cX3_count 127 = .ok (.aload_n 0, 1) := by decide +kernel
theorem dX3_count_128 : decode cX3_count 128 = .ok (.getfield 12, 3) := by decide +kernel
theorem dX3_count_131 : decode cX3_count 131 = .ok (.getfield 177, 3) := by decide +kernel
theorem dX3_count_134 : decode cX3_count 134 = .ok (.ireturn, 1) := by decide +kernel
theorem dX3_count_135 : decode cX3_count 135 = .ok (.aload_n 0, 1) := by decide +kernel
theorem dX3_count_136 : decode cX3_count 136 = .ok (.getfield 12, 3) := by decide +kernel
theorem dX3_count_139 : decode cX3_count 139 = .ok (.invokevirtual 180, 3) := by decide +kernel
theorem dX3_count_142 : decode cX3_count 142 = .ok (.ireturn, 1) := by decide +kernel
theorem dX3_count_143 : decode cX3_count 143 = .ok (.aload_n 0, 1) := by decide +kernel
theorem dX3_count_144 : decode cX3_count 144 = .ok (.getfield 12, 3) := by decide +kernel
theorem dX3_count_147 : decode cX3_count 147 = .ok (.getfield 47, 3) := by decide +kernel
theorem dX3_count_150 : decode cX3_count 150 = .ok (.ireturn, 1) := by decide +kernel
theorem dX3_count_151 : decode cX3_count 151 = .ok (.aload_n 0, 1) := by decide +kernel
theorem dX3_count_152 : decode cX3_count 152 = .ok (.getfield 12, 3) := by decide +kernel
theorem dX3_count_155 : decode cX3_count 155 = .ok (.getfield 50, 3) := by decide +kernel
theorem dX3_count_158 : decode cX3_count 158 = .ok (.ireturn, 1) := by decide +kernel
theorem dX3_count_159 : decode cX3_count 159 = .ok (.aload_n 0, 1) := by decide +kernel
theorem dX3_count_160 : decode cX3_count 160 = .ok (.getfield 29, 3) := by decide +kernel
theorem dX3_count_163 : decode cX3_count 163 = .ok (.getfield 183, 3) := by decide +kernel
theorem dX3_count_166 : decode cX3_count 166 = .ok (.ireturn, 1) := by decide +kernel
theorem dX3_count_167 : decode cX3_count 167 = .ok (.aload_n 0, 1) := by decide +kernel
theorem dX3_count_168 : decode cX3_count 168 = .ok (.getfield 186, 3) := by decide +kernel
theorem dX3_count_171 : decode cX3_count 171 = .ok (.ireturn, 1) := by decide +kernel
theorem dX3_count_172 : decode cX3_count 172 = .ok (.bipush (-2), 2) := by decide +kernel
theorem dX3_count_174 : decode cX3_count 174 = .ok (.ireturn, 1) := by decide +kernel
theorem dX3_sizeAs_0 : decode cX3_sizeAs 0 = .ok (.iload_n 1, 1) := by decide +kernel
theorem dX3_sizeAs_1 : decode cX3_sizeAs 1 = .ok (.invokestatic 137, 3) := by decide +kernel
theorem dX3_sizeAs_4 : decode cX3_sizeAs 4 = .ok (.ifCond .ne 5, 3) := by decide +kernel
theorem dX3_sizeAs_7 : decode cX3_sizeAs 7 = .ok (.iconst (-1), 1) := by decide +kernel
theorem dX3_sizeAs_8 : decode cX3_sizeAs 8 = .ok (.ireturn, 1) := by decide +kernel
theorem dX3_sizeAs_9 : decode cX3_sizeAs 9 = .ok (.iload_n 2, 1) := by decide +kernel
theorem dX3_sizeAs_10 : decode cX3_sizeAs 10 = .ok (.ifCond .lt 8, 3) := by decide +kernel
theorem dX3_sizeAs_13 : decode cX3_sizeAs 13 = .ok (.iload_n 2, 1) := by decide +kernel
theorem dX3_sizeAs_14 : decode cX3_sizeAs 14 = .ok (.iconst 4, 1) := by decide +kernel
theorem dX3_sizeAs_15 : decode cX3_sizeAs 15 = .ok (.if_icmp .le 6, 3) := by decide +kernel
theorem dX3_sizeAs_18 : decode cX3_sizeAs 18 = .ok (.bipush (-2), 2) := by decide +kernel
theorem dX3_sizeAs_20 : decode cX3_sizeAs 20 = .ok (.ireturn, 1) := by decide +kernel
theorem dX3_sizeAs_21 : decode cX3_sizeAs 21 = .ok (.aload_n 0, 1) := by decide +kernel
theorem dX3_sizeAs_22 : decode cX3_sizeAs 22 = .ok (.getfield 12, 3) := by decide +kernel
theorem dX3_sizeAs_25 : decode cX3_sizeAs 25 = .ok (.iload_n 1, 1) := by decide +kernel
theorem dX3_sizeAs_26 : decode cX3_sizeAs 26 = .ok (.iload_n 2, 1) := by decide +kernel
theorem dX3_sizeAs_27 : decode cX3_sizeAs 27 = .ok (.aload_n 0, 1) := by decide +kernel
theorem dX3_sizeAs_28 : decode cX3_sizeAs 28 = .ok (.getfield 12, 3) := by decide +kernel
theorem dX3_sizeAs_31 : decode cX3_sizeAs 31 = .ok (.iload_n 1, 1) := by decide +kernel
theorem dX3_sizeAs_32 : decode cX3_sizeAs 32 = .ok (.bipush (-6), 2) := by decide +kernel
theorem dX3_sizeAs_34 : decode cX3_sizeAs 34 = .ok (.invokevirtual 189, 3) := by decide +kernel
theorem dX3_sizeAs_37 : decode cX3_sizeAs 37 = .ok (.invokevirtual 192, 3) := by decide +kernel
theorem dX3_sizeAs_40 : decode cX3_sizeAs 40 = .ok (.ireturn, 1) := by decide +kernel
theorem dX3_workOf_0 : decode cX3_workOf 0 = .ok (.iload_n 1, 1) := by decide +kernel
theorem dX3_workOf_1 : decode cX3_workOf 1 = .ok (.iload_n 2, 1) := by decide +kernel
theorem dX3_workOf_2 : decode cX3_workOf 2 = .ok (.invokestatic 116, 3) := by decide +kernel
theorem dX3_workOf_5 : decode cX3_workOf 5 = .ok (.istore_n 3, 1) := by decide +kernel
theorem dX3_workOf_6 : decode cX3_workOf 6 = .ok (.iload_n 3, 1) := by decide +kernel
theorem dX3_workOf_7 : decode cX3_workOf 7 = .ok (.ifCond .eq 5, 3) := by decide +kernel
theorem dX3_workOf_10 : decode cX3_workOf 10 = .ok (.iload_n 3, 1) := by decide +kernel
theorem dX3_workOf_11 : decode cX3_workOf 11 = .ok (.ireturn, 1) := by decide +kernel
theorem dX3_workOf_12 : decode cX3_workOf 12 = .ok (.aload_n 0, 1) := by decide +kernel
theorem dX3_workOf_13 : decode cX3_workOf 13 = .ok (.getfield 12, 3) := by decide +kernel
theorem dX3_workOf_16 : decode cX3_workOf 16 = .ok (.aload_n 0, 1) := by decide +kernel
theorem dX3_workOf_17 : decode cX3_workOf 17 = .ok (.getfield 16, 3) := by decide +kernel
theorem dX3_workOf_20 : decode cX3_workOf 20 = .ok (.invokestatic 195, 3) := by decide +kernel
theorem dX3_workOf_23 : decode cX3_workOf 23 = .ok (.aload_n 0, 1) := by decide +kernel
theorem dX3_workOf_24 : decode cX3_workOf 24 = .ok (.getfield 16, 3) := by decide +kernel
theorem dX3_workOf_27 : decode cX3_workOf 27 = .ok (.iload_n 1, 1) := by decide +kernel
theorem dX3_workOf_28 : decode cX3_workOf 28 = .ok (.iload_n 2, 1) := by decide +kernel
theorem dX3_workOf_29 : decode cX3_workOf 29 = .ok (.invokevirtual 112, 3) := by decide +kernel
theorem dX3_workOf_32 : decode cX3_workOf 32 = .ok (.aload_n 0, 1) := by decide +kernel
theorem dX3_workOf_33 : decode cX3_workOf 33 = .ok (.getfield 16, 3) := by decide +kernel
theorem dX3_workOf_36 : decode cX3_workOf 36 = .ok (.getfield 171, 3) := by decide +kernel
theorem dX3_workOf_39 : decode cX3_workOf 39 = .ok (.aload_n 0, 1) := by decide +kernel
theorem dX3_workOf_40 : decode cX3_workOf 40 = .ok (.getfield 12, 3) := by decide +kernel
theorem dX3_workOf_43 : decode cX3_workOf 43 = .ok (.getfield 171, 3) := by decide +kernel
theorem dX3_workOf_46 : decode cX3_workOf 46 = .ok (.isub, 1) := by decide +kernel
theorem dX3_workOf_47 : decode cX3_workOf 47 = .ok (.ireturn, 1) := by decide +kernel
theorem dX3_bestOpen_0 : decode cX3_bestOpen 0 = .ok (.iload_n 1, 1) := by decide +kernel
theorem dX3_bestOpen_1 : decode cX3_bestOpen 1 = .ok (.iload_n 2, 1) := by decide +kernel
theorem dX3_bestOpen_2 : decode cX3_bestOpen 2 = .ok (.invokestatic 116, 3) := by decide +kernel
theorem dX3_bestOpen_5 : decode cX3_bestOpen 5 = .ok (.istore_n 3, 1) := by decide +kernel
theorem dX3_bestOpen_6 : decode cX3_bestOpen 6 = .ok (.iload_n 3, 1) := by decide +kernel
theorem dX3_bestOpen_7 : decode cX3_bestOpen 7 = .ok (.ifCond .eq 5, 3) := by decide +kernel
theorem dX3_bestOpen_10 : decode cX3_bestOpen 10 = .ok (.iload_n 3, 1) := by decide +kernel
theorem dX3_bestOpen_11 : decode cX3_bestOpen 11 = .ok (.ireturn, 1) := by decide +kernel
theorem dX3_bestOpen_12 : decode cX3_bestOpen 12 = .ok (.iconst 0, 1) := by decide +kernel
theorem dX3_bestOpen_13 : decode cX3_bestOpen 13 = .ok (.istore 4, 2) := by decide +kernel
theorem dX3_bestOpen_15 : decode cX3_bestOpen 15 = .ok (.ldc 199, 2) := by decide +kernel
theorem dX3_bestOpen_17 : decode cX3_bestOpen 17 = .ok (.istore 5, 2) := by decide +kernel
theorem dX3_bestOpen_19 : decode cX3_bestOpen 19 = .ok (.iconst 0, 1) := by decide +kernel
theorem dX3_bestOpen_20 : decode cX3_bestOpen 20 = .ok (.istore 6, 2) := by decide +kernel
theorem dX3_bestOpen_22 : decode cX3_bestOpen 22 = .ok (.iload 6, 2) := by decide +kernel
theorem dX3_bestOpen_24 : decode cX3_bestOpen 24 = .ok (.bipush 6, 2) := by decide +kernel
theorem dX3_bestOpen_26 : decode cX3_bestOpen 26 = .ok (.if_icmp .gt 86, 3) := by decide +kernel
theorem dX3_bestOpen_29 : decode cX3_bestOpen 29 = .ok (.aload_n 0, 1) := by decide +kernel
theorem dX3_bestOpen_30 : decode cX3_bestOpen 30 = .ok (.getfield 12, 3) := by decide +kernel
theorem dX3_bestOpen_33 : decode cX3_bestOpen 33 = .ok (.aload_n 0, 1) := by decide +kernel
theorem dX3_bestOpen_34 : decode cX3_bestOpen 34 = .ok (.getfield 16, 3) := by decide +kernel
theorem dX3_bestOpen_37 : decode cX3_bestOpen 37 = .ok (.invokestatic 195, 3) := by decide +kernel
theorem dX3_bestOpen_40 : decode cX3_bestOpen 40 = .ok (.aload_n 0, 1) := by decide +kernel
theorem dX3_bestOpen_41 : decode cX3_bestOpen 41 = .ok (.getfield 16, 3) := by decide +kernel
theorem dX3_bestOpen_44 : decode cX3_bestOpen 44 = .ok (.iload 6, 2) := by decide +kernel
theorem dX3_bestOpen_46 : decode cX3_bestOpen 46 = .ok (.putfield 50, 3) := by decide +kernel
theorem dX3_bestOpen_49 : decode cX3_bestOpen 49 = .ok (.aload_n 0, 1) := by decide +kernel
theorem dX3_bestOpen_50 : decode cX3_bestOpen 50 = .ok (.getfield 16, 3) := by decide +kernel
theorem dX3_bestOpen_53 : decode cX3_bestOpen 53 = .ok (.invokevirtual 53, 3) := by decide +kernel
theorem dX3_bestOpen_56 : decode cX3_bestOpen 56 = .ok (.aload_n 0, 1) := by decide +kernel
theorem dX3_bestOpen_57 : decode cX3_bestOpen 57 = .ok (.getfield 16, 3) := by decide +kernel
theorem dX3_bestOpen_60 : decode cX3_bestOpen 60 = .ok (.iload_n 1, 1) := by decide +kernel
theorem dX3_bestOpen_61 : decode cX3_bestOpen 61 = .ok (.iload_n 2, 1) := by decide +kernel
theorem dX3_bestOpen_62 : decode cX3_bestOpen 62 = .ok (.invokevirtual 112, 3) := by decide +kernel
theorem dX3_bestOpen_65 : decode cX3_bestOpen 65 = .ok (.aload_n 0, 1) := by decide +kernel
theorem dX3_bestOpen_66 : decode cX3_bestOpen 66 = .ok (.getfield 16, 3) := by decide +kernel
theorem dX3_bestOpen_69 : decode cX3_bestOpen 69 = .ok (.iload_n 1, 1) := by decide +kernel
theorem dX3_bestOpen_70 : decode cX3_bestOpen 70 = .ok (.iload_n 2, 1) := by decide +kernel
theorem dX3_bestOpen_71 : decode cX3_bestOpen 71 = .ok (.invokevirtual 112, 3) := by decide +kernel
theorem dX3_bestOpen_74 : decode cX3_bestOpen 74 = .ok (.aload_n 0, 1) := by decide +kernel
theorem dX3_bestOpen_75 : decode cX3_bestOpen 75 = .ok (.getfield 16, 3) := by decide +kernel
theorem dX3_bestOpen_78 : decode cX3_bestOpen 78 = .ok (.getfield 171, 3) := by decide +kernel
theorem dX3_bestOpen_81 : decode cX3_bestOpen 81 = .ok (.aload_n 0, 1) := by decide +kernel
theorem dX3_bestOpen_82 : decode cX3_bestOpen 82 = .ok (.getfield 12, 3) := by decide +kernel
theorem dX3_bestOpen_85 : decode cX3_bestOpen 85 = .ok (.getfield 171, 3) := by decide +kernel
theorem dX3_bestOpen_88 : decode cX3_bestOpen 88 = .ok (.isub, 1) := by decide +kernel
theorem dX3_bestOpen_89 : decode cX3_bestOpen 89 = .ok (.istore 7, 2) := by decide +kernel
theorem dX3_bestOpen_91 : decode cX3_bestOpen 91 = .ok (.iload 7, 2) := by decide +kernel
theorem dX3_bestOpen_93 : decode cX3_bestOpen 93 = .ok (.iload 5, 2) := by decide +kernel
theorem dX3_bestOpen_95 : decode cX3_bestOpen 95 = .ok (.if_icmp .ge 11, 3) := by decide +kernel
theorem dX3_bestOpen_98 : decode cX3_bestOpen 98 = .ok (.iload 7, 2) := by decide +kernel
theorem dX3_bestOpen_100 : decode cX3_bestOpen 100 = .ok (.istore 5, 2) := by decide +kernel
theorem dX3_bestOpen_102 : decode cX3_bestOpen 102 = .ok (.iload 6, 2) := by decide +kernel
theorem dX3_bestOpen_104 : decode cX3_bestOpen 104 = .ok (.istore 4, 2) := by decide +kernel
theorem dX3_bestOpen_106 : decode cX3_bestOpen 106 = .ok (.iinc 6 1, 3) := by decide +kernel
theorem dX3_bestOpen_109 : decode cX3_bestOpen 109 = .ok (.goto (-87), 3) := by decide +kernel
theorem dX3_bestOpen_112 : decode cX3_bestOpen 112 = .ok (.iload 4, 2) := by decide +kernel
theorem dX3_bestOpen_114 : decode cX3_bestOpen 114 = .ok (.ireturn, 1) := by decide +kernel
theorem dX3_put_0 : decode cX3_put 0 = .ok (.lload_n 1, 1) := by decide +kernel
theorem dX3_put_1 : decode cX3_put 1 = .ok (.invokestatic 200, 3) := by decide +kernel
theorem dX3_put_4 : decode cX3_put 4 = .ok (.istore_n 3, 1) := by decide +kernel
theorem dX3_put_5 : decode cX3_put 5 = .ok (.iload_n 3, 1) := by decide +kernel
theorem dX3_put_6 : decode cX3_put 6 = .ok (.ifCond .ne 6, 3) := by decide +kernel
theorem dX3_put_9 : decode cX3_put 9 = .ok (.bipush (-2), 2) := by decide +kernel
theorem dX3_put_11 : decode cX3_put 11 = .ok (.ireturn, 1) := by decide +kernel
theorem dX3_put_12 : decode cX3_put 12 = .ok (.aload_n 0, 1) := by decide +kernel
theorem dX3_put_13 : decode cX3_put 13 = .ok (.getfield 29, 3) := by decide +kernel
theorem dX3_put_16 : decode cX3_put 16 = .ok (.getfield 183, 3) := by decide +kernel
theorem dX3_put_19 : decode cX3_put 19 = .ok (.iload_n 3, 1) := by decide +kernel
theorem dX3_put_20 : decode cX3_put 20 = .ok (.iadd, 1) := by decide +kernel
theorem dX3_put_21 : decode cX3_put 21 = .ok (.bipush 80, 2) := by decide +kernel
theorem dX3_put_23 : decode cX3_put 23 = .ok (.if_icmp .le 6, 3) := by decide +kernel
theorem dX3_put_26 : decode cX3_put 26 = .ok (.bipush (-4), 2) := by decide +kernel
theorem dX3_put_28 : decode cX3_put 28 = .ok (.ireturn, 1) := by decide +kernel
theorem dX3_put_29 : decode cX3_put 29 = .ok (.aload_n 0, 1) := by decide +kernel
theorem dX3_put_30 : decode cX3_put 30 = .ok (.getfield 29, 3) := by decide +kernel
theorem dX3_put_33 : decode cX3_put 33 = .ok (.lload_n 1, 1) := by decide +kernel
theorem dX3_put_34 : decode cX3_put 34 = .ok (.iload_n 3, 1) := by decide +kernel
theorem dX3_put_35 : decode cX3_put 35 = .ok (.invokevirtual 204, 3) := by decide +kernel
theorem dX3_put_38 : decode cX3_put 38 = .ok (.aload_n 0, 1) := by decide +kernel
theorem dX3_put_39 : decode cX3_put 39 = .ok (.getfield 29, 3) := by decide +kernel
theorem dX3_put_42 : decode cX3_put 42 = .ok (.getfield 183, 3) := by decide +kernel
theorem dX3_put_45 : decode cX3_put 45 = .ok (.ireturn, 1) := by decide +kernel
theorem dX3_wipe_0 : decode cX3_wipe 0 = .ok (.aload_n 0, 1) := by decide +kernel
theorem dX3_wipe_1 : decode cX3_wipe 1 = .ok (.getfield 29, 3) := by decide +kernel
theorem dX3_wipe_4 : decode cX3_wipe 4 = .ok (.getfield 183, 3) := by decide +kernel
theorem dX3_wipe_7 : decode cX3_wipe 7 = .ok (.istore_n 1, 1) := by decide +kernel
theorem dX3_wipe_8 : decode cX3_wipe 8 = .ok (.aload_n 0, 1) := by decide +kernel
theorem dX3_wipe_9 : decode cX3_wipe 9 = .ok (.getfield 29, 3) := by decide +kernel
theorem dX3_wipe_12 : decode cX3_wipe 12 = .ok (.iconst 0, 1) := by decide +kernel
theorem dX3_wipe_13 : decode cX3_wipe 13 = .ok (.putfield 183, 3) := by decide +kernel
theorem dX3_wipe_16 : decode cX3_wipe 16 = .ok (.iload_n 1, 1) := by decide +kernel
theorem dX3_wipe_17 : decode cX3_wipe 17 = .ok (.ireturn, 1) := by decide +kernel
theorem dX3_fault_0 : decode cX3_fault 0 = .ok (.aload_n 0, 1) := by decide +kernel
theorem dX3_fault_1 : decode cX3_fault 1 = .ok (.getfield 29, 3) := by decide +kernel
theorem dX3_fault_4 : decode cX3_fault 4 = .ok (.invokevirtual 208, 3) := by decide +kernel
theorem dX3_fault_7 : decode cX3_fault 7 = .ok (.ireturn, 1) := by decide +kernel
theorem dX3_carryOut_0 : decode cX3_carryOut 0 = .ok (.aload_n 0, 1) := by decide +kernel
theorem dX3_carryOut_1 : decode cX3_carryOut 1 = .ok (.getfield 29, 3) := by decide +kernel
theorem dX3_carryOut_4 : decode cX3_carryOut 4 = .ok (.invokevirtual 208, 3) := by decide +kernel
theorem dX3_carryOut_7 : decode cX3_carryOut 7 = .ok (.bipush (-6), 2) := by decide +kernel
theorem dX3_carryOut_9 : decode cX3_carryOut 9 = .ok (.if_icmp .eq 6, 3) := by decide +kernel
theorem dX3_carryOut_12 : decode cX3_carryOut 12 = .ok (.bipush (-3), 2) := by decide +kernel
theorem dX3_carryOut_14 : decode cX3_carryOut 14 = .ok (.ireturn, 1) := by decide +kernel
theorem dX3_carryOut_15 : decode cX3_carryOut 15 = .ok (.aload_n 0, 1) := by decide +kernel
theorem dX3_carryOut_16 : decode cX3_carryOut 16 = .ok (.invokevirtual 44, 3) := by decide +kernel
theorem dX3_carryOut_19 : decode cX3_carryOut 19 = .ok (.aload_n 0, 1) := by decide +kernel
theorem dX3_carryOut_20 : decode cX3_carryOut 20 = .ok (.getfield 29, 3) := by decide +kernel
theorem dX3_carryOut_23 : decode cX3_carryOut 23 = .ok (.getfield 211, 3) := by decide +kernel
theorem dX3_carryOut_26 : decode cX3_carryOut 26 = .ok (.istore_n 1, 1) := by decide +kernel
theorem dX3_carryOut_27 : decode cX3_carryOut 27 = .ok (.iconst 0, 1) := by decide +kernel
theorem dX3_carryOut_28 : decode cX3_carryOut 28 = .ok (.istore_n 2, 1) := by decide +kernel
theorem dX3_carryOut_29 : decode cX3_carryOut 29 = .ok (.iload_n 2, 1) := by decide +kernel
theorem dX3_carryOut_30 : decode cX3_carryOut 30 = .ok (.aload_n 0, 1) := by decide +kernel
theorem dX3_carryOut_31 : decode cX3_carryOut 31 = .ok (.getfield 29, 3) := by decide +kernel
theorem dX3_carryOut_34 : decode cX3_carryOut 34 = .ok (.getfield 214, 3) := by decide +kernel
theorem dX3_carryOut_37 : decode cX3_carryOut 37 = .ok (.if_icmp .ge 38, 3) := by decide +kernel
theorem dX3_carryOut_40 : decode cX3_carryOut 40 = .ok (.aload_n 0, 1) := by decide +kernel
theorem dX3_carryOut_41 : decode cX3_carryOut 41 = .ok (.getfield 29, 3) := by decide +kernel
theorem dX3_carryOut_44 : decode cX3_carryOut 44 = .ok (.iload_n 2, 1) := by decide +kernel
theorem dX3_carryOut_45 : decode cX3_carryOut 45 = .ok (.invokevirtual 217, 3) := by decide +kernel
theorem dX3_carryOut_48 : decode cX3_carryOut 48 = .ok (.astore_n 3, 1) := by decide +kernel
theorem dX3_carryOut_49 : decode cX3_carryOut 49 = .ok (.aload_n 3, 1) := by decide +kernel
theorem dX3_carryOut_50 : decode cX3_carryOut 50 = .ok (.ifnull 19, 3) := by decide +kernel
theorem dX3_carryOut_53 : decode cX3_carryOut 53 = .ok (.aload_n 0, 1) := by decide +kernel
theorem dX3_carryOut_54 : decode cX3_carryOut 54 = .ok (.aload_n 3, 1) := by decide +kernel
theorem dX3_carryOut_55 : decode cX3_carryOut 55 = .ok (.invokevirtual 221, 3) := by decide +kernel
theorem dX3_carryOut_58 : decode cX3_carryOut 58 = .ok (.ifCond .ge 11, 3) := by decide +kernel
theorem dX3_carryOut_61 : decode cX3_carryOut 61 = .ok (.aload_n 3, 1) := by decide +kernel
theorem dX3_carryOut_62 : decode cX3_carryOut 62 = .ok (.getfield 225, 3) := by decide +kernel
theorem dX3_carryOut_65 : decode cX3_carryOut 65 = .ok (.istore_n 1, 1) := by decide +kernel
theorem dX3_carryOut_66 : decode cX3_carryOut 66 = .ok (.goto 9, 3) := by decide +kernel
theorem dX3_carryOut_69 : decode cX3_carryOut 69 = .ok (.iinc 2 1, 3) := by decide +kernel
theorem dX3_carryOut_72 : decode cX3_carryOut 72 = .ok (.goto (-43), 3) := by decide +kernel
theorem dX3_carryOut_75 : decode cX3_carryOut 75 = .ok (.aload_n 0, 1) := by decide +kernel
theorem dX3_carryOut_76 : decode cX3_carryOut 76 = .ok (.getfield 29, 3) := by decide +kernel
theorem dX3_carryOut_79 : decode cX3_carryOut 79 = .ok (.iconst 0, 1) := by decide +kernel
theorem dX3_carryOut_80 : decode cX3_carryOut 80 = .ok (.putfield 183, 3) := by decide +kernel
theorem dX3_carryOut_83 : decode cX3_carryOut 83 = .ok (.iload_n 1, 1) := by decide +kernel
theorem dX3_carryOut_84 : decode cX3_carryOut 84 = .ok (.ireturn, 1) := by decide +kernel
theorem dX3_carryStep_0 : decode cX3_carryStep 0 = .ok (.aload_n 1, 1) := by decide +kernel
theorem dX3_carryStep_1 : decode cX3_carryStep 1 = .ok (.getfield 230, 3) := by decide +kernel
theorem dX3_carryStep_4 : decode cX3_carryStep 4 = .ok (.bipush 112, 2) := by decide +kernel
theorem dX3_carryStep_6 : decode cX3_carryStep 6 = .ok (.if_icmp .ne 32, 3) := by decide +kernel
theorem dX3_carryStep_9 : decode cX3_carryStep 9 = .ok (.aload_n 0, 1) := by decide +kernel
theorem dX3_carryStep_10 : decode cX3_carryStep 10 = .ok (.aload_n 1, 1) := by decide +kernel
theorem dX3_carryStep_11 : decode cX3_carryStep 11 = .ok (.getfield 234, 3) := by decide +kernel
theorem dX3_carryStep_14 : decode cX3_carryStep 14 = .ok (.invokevirtual 56, 3) := by decide +kernel
theorem dX3_carryStep_17 : decode cX3_carryStep 17 = .ok (.istore_n 2, 1) := by decide +kernel
theorem dX3_carryStep_18 : decode cX3_carryStep 18 = .ok (.iload_n 2, 1) := by decide +kernel
theorem dX3_carryStep_19 : decode cX3_carryStep 19 = .ok (.ifCond .ne 17, 3) := by decide +kernel
theorem dX3_carryStep_22 : decode cX3_carryStep 22 = .ok (.aload_n 0, 1) := by decide +kernel
theorem dX3_carryStep_23 : decode cX3_carryStep 23 = .ok (.getfield 12, 3) := by decide +kernel
theorem dX3_carryStep_26 : decode cX3_carryStep 26 = .ok (.aload_n 1, 1) := by decide +kernel
theorem dX3_carryStep_27 : decode cX3_carryStep 27 = .ok (.getfield 234, 3) := by decide +kernel
theorem dX3_carryStep_30 : decode cX3_carryStep 30 = .ok (.invokevirtual 59, 3) := by decide +kernel
theorem dX3_carryStep_33 : decode cX3_carryStep 33 = .ok (.goto 4, 3) := by decide +kernel
theorem dX3_carryStep_36 : decode cX3_carryStep 36 = .ok (.iload_n 2, 1) := by decide +kernel
theorem dX3_carryStep_37 : decode cX3_carryStep 37 = .ok (.ireturn, 1) := by decide +kernel
theorem dX3_carryStep_38 : decode cX3_carryStep 38 = .ok (.aload_n 0, 1) := by decide +kernel
theorem dX3_carryStep_39 : decode cX3_carryStep 39 = .ok (.aload_n 1, 1) := by decide +kernel
theorem dX3_carryStep_40 : decode cX3_carryStep 40 = .ok (.getfield 237, 3) := by decide +kernel
theorem dX3_carryStep_43 : decode cX3_carryStep 43 = .ok (.aload_n 1, 1) := by decide +kernel
theorem dX3_carryStep_44 : decode cX3_carryStep 44 = .ok (.getfield 234, 3) := by decide +kernel
theorem dX3_carryStep_47 : decode cX3_carryStep 47 = .ok (.aload_n 1, 1) := by decide +kernel
theorem dX3_carryStep_48 : decode cX3_carryStep 48 = .ok (.getfield 240, 3) := by decide +kernel
theorem dX3_carryStep_51 : decode cX3_carryStep 51 = .ok (.invokevirtual 66, 3) := by decide +kernel
theorem dX3_carryStep_54 : decode cX3_carryStep 54 = .ok (.istore_n 2, 1) := by decide +kernel
theorem dX3_carryStep_55 : decode cX3_carryStep 55 = .ok (.iload_n 2, 1) := by decide +kernel
theorem dX3_carryStep_56 : decode cX3_carryStep 56 = .ok (.ifCond .eq 5, 3) := by decide +kernel
theorem dX3_carryStep_59 : decode cX3_carryStep 59 = .ok (.iload_n 2, 1) := by decide +kernel
theorem dX3_carryStep_60 : decode cX3_carryStep 60 = .ok (.ireturn, 1) := by decide +kernel
theorem dX3_carryStep_61 : decode cX3_carryStep 61 = .ok (.aload_n 0, 1) := by decide +kernel
theorem dX3_carryStep_62 : decode cX3_carryStep 62 = .ok (.getfield 12, 3) := by decide +kernel
theorem dX3_carryStep_65 : decode cX3_carryStep 65 = .ok (.aload_n 1, 1) := by decide +kernel
theorem dX3_carryStep_66 : decode cX3_carryStep 66 = .ok (.getfield 237, 3) := by decide +kernel
theorem dX3_carryStep_69 : decode cX3_carryStep 69 = .ok (.aload_n 1, 1) := by decide +kernel
theorem dX3_carryStep_70 : decode cX3_carryStep 70 = .ok (.getfield 234, 3) := by decide +kernel
theorem dX3_carryStep_73 : decode cX3_carryStep 73 = .ok (.aload_n 1, 1) := by decide +kernel
theorem dX3_carryStep_74 : decode cX3_carryStep 74 = .ok (.getfield 240, 3) := by decide +kernel
theorem dX3_carryStep_77 : decode cX3_carryStep 77 = .ok (.aload_n 1, 1) := by decide +kernel
theorem dX3_carryStep_78 : decode cX3_carryStep 78 = .ok (.getfield 230, 3) := by decide +kernel
theorem dX3_carryStep_81 : decode cX3_carryStep 81 = .ok (.bipush 109, 2) := by decide +kernel
theorem dX3_carryStep_83 : decode cX3_carryStep 83 = .ok (.if_icmp .ne 7, 3) := by decide +kernel
theorem dX3_carryStep_86 : decode cX3_carryStep 86 = .ok (.iconst 1, 1) := by decide +kernel
theorem dX3_carryStep_87 : decode cX3_carryStep 87 = .ok (.goto 4, 3) := by decide +kernel
theorem dX3_carryStep_90 : decode cX3_carryStep 90 = .ok (.iconst 0, 1) := by decide +kernel
theorem dX3_carryStep_91 : decode cX3_carryStep 91 = .ok (.invokevirtual 70, 3) := by decide +kernel
theorem dX3_carryStep_94 : decode cX3_carryStep 94 = .ok (.ireturn, 1) := by decide +kernel
theorem dX3_undo_0 : decode cX3_undo 0 = .ok (.aload_n 0, 1) := by decide +kernel
theorem dX3_undo_1 : decode cX3_undo 1 = .ok (.getfield 186, 3) := by decide +kernel
theorem dX3_undo_4 : decode cX3_undo 4 = .ok (.ifCond .gt 6, 3) := by decide +kernel
theorem dX3_undo_7 : decode cX3_undo 7 = .ok (.bipush (-5), 2) := by decide +kernel
theorem dX3_undo_9 : decode cX3_undo 9 = .ok (.ireturn, 1) := by decide +kernel
theorem dX3_undo_10 : decode cX3_undo 10 = .ok (.aload_n 0, 1) := by decide +kernel
theorem dX3_undo_11 : decode cX3_undo 11 = .ok (.dup, 1) := by decide +kernel
theorem dX3_undo_12 : decode cX3_undo 12 = .ok (.getfield 186, 3) := by decide +kernel
theorem dX3_undo_15 : decode cX3_undo 15 = .ok (.iconst 1, 1) := by decide +kernel
theorem dX3_undo_16 : decode cX3_undo 16 = .ok (.isub, 1) := by decide +kernel
theorem dX3_undo_17 : decode cX3_undo 17 = .ok (.putfield 186, 3) := by decide +kernel
theorem dX3_undo_20 : decode cX3_undo 20 = .ok (.aload_n 0, 1) := by decide +kernel
theorem dX3_undo_21 : decode cX3_undo 21 = .ok (.getfield 19, 3) := by decide +kernel
theorem dX3_undo_24 : decode cX3_undo 24 = .ok (.aload_n 0, 1) := by decide +kernel
theorem dX3_undo_25 : decode cX3_undo 25 = .ok (.getfield 186, 3) := by decide +kernel
theorem dX3_undo_28 : decode cX3_undo 28 = .ok (.invokestatic 243, 3) := by decide +kernel
theorem dX3_undo_31 : decode cX3_undo 31 = .ok (.aload_n 0, 1) := by decide +kernel
theorem dX3_undo_32 : decode cX3_undo 32 = .ok (.getfield 12, 3) := by decide +kernel
theorem dX3_undo_35 : decode cX3_undo 35 = .ok (.invokestatic 195, 3) := by decide +kernel
theorem dX3_undo_38 : decode cX3_undo 38 = .ok (.aload_n 0, 1) := by decide +kernel
theorem dX3_undo_39 : decode cX3_undo 39 = .ok (.getfield 186, 3) := by decide +kernel
theorem dX3_undo_42 : decode cX3_undo 42 = .ok (.ireturn, 1) := by decide +kernel
theorem dX3_save_0 : decode cX3_save 0 = .ok (.iload_n 1, 1) := by decide +kernel
theorem dX3_save_1 : decode cX3_save 1 = .ok (.ifCond .lt 8, 3) := by decide +kernel
theorem dX3_save_4 : decode cX3_save 4 = .ok (.iload_n 1, 1) := by decide +kernel
theorem dX3_save_5 : decode cX3_save 5 = .ok (.iconst 2, 1) := by decide +kernel
theorem dX3_save_6 : decode cX3_save 6 = .ok (.if_icmp .lt 6, 3) := by decide +kernel
theorem dX3_save_9 : decode cX3_save 9 = .ok (.bipush (-2), 2) := by decide +kernel
theorem dX3_save_11 : decode cX3_save 11 = .ok (.ireturn, 1) := by decide +kernel
theorem dX3_save_12 : decode cX3_save 12 = .ok (.aload_n 0, 1) := by decide +kernel
theorem dX3_save_13 : decode cX3_save 13 = .ok (.getfield 12, 3) := by decide +kernel
theorem dX3_save_16 : decode cX3_save 16 = .ok (.aload_n 0, 1) := by decide +kernel
theorem dX3_save_17 : decode cX3_save 17 = .ok (.getfield 23, 3) := by decide +kernel
theorem dX3_save_20 : decode cX3_save 20 = .ok (.iload_n 1, 1) := by decide +kernel
theorem dX3_save_21 : decode cX3_save 21 = .ok (.invokestatic 243, 3) := by decide +kernel
theorem dX3_save_24 : decode cX3_save 24 = .ok (.invokestatic 195, 3) := by decide +kernel
theorem dX3_save_27 : decode cX3_save 27 = .ok (.aload_n 0, 1) := by decide +kernel
theorem dX3_save_28 : decode cX3_save 28 = .ok (.dup, 1) := by decide +kernel
theorem dX3_save_29 : decode cX3_save 29 = .ok (.getfield 247, 3) := by decide +kernel
theorem dX3_save_32 : decode cX3_save 32 = .ok (.iconst 1, 1) := by decide +kernel
theorem dX3_save_33 : decode cX3_save 33 = .ok (.iload_n 1, 1) := by decide +kernel
theorem dX3_save_34 : decode cX3_save 34 = .ok (.ishl, 1) := by decide +kernel
theorem dX3_save_35 : decode cX3_save 35 = .ok (.ior, 1) := by decide +kernel
theorem dX3_save_36 : decode cX3_save 36 = .ok (.putfield 247, 3) := by decide +kernel
theorem dX3_save_39 : decode cX3_save 39 = .ok (.aload_n 0, 1) := by decide +kernel
theorem dX3_save_40 : decode cX3_save 40 = .ok (.getfield 12, 3) := by decide +kernel
theorem dX3_save_43 : decode cX3_save 43 = .ok (.getfield 40, 3) := by decide +kernel
theorem dX3_save_46 : decode cX3_save 46 = .ok (.ireturn, 1) := by decide +kernel
theorem dX3_restore_0 : decode cX3_restore 0 = .ok (.iload_n 1, 1) := by decide +kernel
theorem dX3_restore_1 : decode cX3_restore 1 = .ok (.ifCond .lt 8, 3) := by decide +kernel
theorem dX3_restore_4 : decode cX3_restore 4 = .ok (.iload_n 1, 1) := by decide +kernel
theorem dX3_restore_5 : decode cX3_restore 5 = .ok (.iconst 2, 1) := by decide +kernel
theorem dX3_restore_6 : decode cX3_restore 6 = .ok (.if_icmp .lt 6, 3) := by decide +kernel
theorem dX3_restore_9 : decode cX3_restore 9 = .ok (.bipush (-2), 2) := by decide +kernel
theorem dX3_restore_11 : decode cX3_restore 11 = .ok (.ireturn, 1) := by decide +kernel
theorem dX3_restore_12 : decode cX3_restore 12 = .ok (.aload_n 0, 1) := by decide +kernel
theorem dX3_restore_13 : decode cX3_restore 13 = .ok (.getfield 247, 3) := by decide +kernel
theorem dX3_restore_16 : decode cX3_restore 16 = .ok (.iload_n 1, 1) := by decide +kernel
theorem dX3_restore_17 : decode cX3_restore 17 = .ok (.invokestatic 108, 3) := by decide +kernel
theorem dX3_restore_20 : decode cX3_restore 20 = .ok (.ifCond .ne 6, 3) := by decide +kernel
theorem dX3_restore_23 : decode cX3_restore 23 = .ok (.bipush (-5), 2) := by decide +kernel
theorem dX3_restore_25 : decode cX3_restore 25 = .ok (.ireturn, 1) := by decide +kernel
theorem dX3_restore_26 : decode cX3_restore 26 = .ok (.aload_n 0, 1) := by decide +kernel
theorem dX3_restore_27 : decode cX3_restore 27 = .ok (.invokevirtual 44, 3) := by decide +kernel
theorem dX3_restore_30 : decode cX3_restore 30 = .ok (.aload_n 0, 1) := by decide +kernel
theorem dX3_restore_31 : decode cX3_restore 31 = .ok (.getfield 23, 3) := by decide +kernel
theorem dX3_restore_34 : decode cX3_restore 34 = .ok (.iload_n 1, 1) := by decide +kernel
theorem dX3_restore_35 : decode cX3_restore 35 = .ok (.invokestatic 243, 3) := by decide +kernel
theorem dX3_restore_38 : decode cX3_restore 38 = .ok (.aload_n 0, 1) := by decide +kernel
theorem dX3_restore_39 : decode cX3_restore 39 = .ok (.getfield 12, 3) := by decide +kernel
theorem dX3_restore_42 : decode cX3_restore 42 = .ok (.invokestatic 195, 3) := by decide +kernel
theorem dX3_restore_45 : decode cX3_restore 45 = .ok (.aload_n 0, 1) := by decide +kernel
theorem dX3_restore_46 : decode cX3_restore 46 = .ok (.getfield 12, 3) := by decide +kernel
theorem dX3_restore_49 : decode cX3_restore 49 = .ok (.getfield 40, 3) := by decide +kernel
theorem dX3_restore_52 : decode cX3_restore 52 = .ok (.ireturn, 1) := by decide +kernel
theorem dX3_record_0 : decode cX3_record 0 = .ok (.aload_n 0, 1) := by decide +kernel
theorem dX3_record_1 : decode cX3_record 1 = .ok (.getfield 186, 3) := by decide +kernel
theorem dX3_record_4 : decode cX3_record 4 = .ok (.bipush 6, 2) := by decide +kernel
theorem dX3_record_6 : decode cX3_record 6 = .ok (.if_icmp .lt 17, 3) := by decide +kernel
theorem dX3_record_9 : decode cX3_record 9 = .ok (.aload_n 0, 1) := by decide +kernel
theorem dX3_record_10 : decode cX3_record 10 = .ok (.invokevirtual 250, 3) := by decide +kernel
theorem dX3_record_13 : decode cX3_record 13 = .ok (.aload_n 0, 1) := by decide +kernel
theorem dX3_record_14 : decode cX3_record 14 = .ok (.dup, 1) := by decide +kernel
theorem dX3_record_15 : decode cX3_record 15 = .ok (.getfield 186, 3) := by decide +kernel
theorem dX3_record_18 : decode cX3_record 18 = .ok (.iconst 1, 1) := by decide +kernel
theorem dX3_record_19 : decode cX3_record 19 = .ok (.isub, 1) := by decide +kernel
theorem dX3_record_20 : decode cX3_record 20 = .ok (.putfield 186, 3) := by decide +kernel
theorem dX3_record_23 : decode cX3_record 23 = .ok (.aload_n 0, 1) := by decide +kernel
theorem dX3_record_24 : decode cX3_record 24 = .ok (.getfield 12, 3) := by decide +kernel
theorem dX3_record_27 : decode cX3_record 27 = .ok (.aload_n 0, 1) := by decide +kernel
theorem dX3_record_28 : decode cX3_record 28 = .ok (.getfield 19, 3) := by decide +kernel
theorem dX3_record_31 : decode cX3_record 31 = .ok (.aload_n 0, 1) := by decide +kernel
theorem dX3_record_32 : decode cX3_record 32 = .ok (.getfield 186, 3) := by decide +kernel
theorem dX3_record_35 : decode cX3_record 35 = .ok (.invokestatic 243, 3) := by decide +kernel
theorem dX3_record_38 : decode cX3_record 38 = .ok (.invokestatic 195, 3) := by decide +kernel
theorem dX3_record_41 : decode cX3_record 41 = .ok (.aload_n 0, 1) := by decide +kernel
theorem dX3_record_42 : decode cX3_record 42 = .ok (.dup, 1) := by decide +kernel
theorem dX3_record_43 : decode cX3_record 43 = .ok (.getfield 186, 3) := by decide +kernel
theorem dX3_record_46 : decode cX3_record 46 = .ok (.iconst 1, 1) := by decide +kernel
theorem dX3_record_47 : decode cX3_record 47 = .ok (.iadd, 1) := by decide +kernel
theorem dX3_record_48 : decode cX3_record 48 = .ok (.putfield 186, 3) := by decide +kernel
theorem dX3_record_51 : decode cX3_record 51 = .ok (.return_, 1) := by decide +kernel
theorem dX3_moveOldestToTheEnd_0 : decode cX3_moveOldestToTheEnd 0 = .ok (.iconst 1, 1) := by decide +kernel
theorem dX3_moveOldestToTheEnd_1 : decode cX3_moveOldestToTheEnd 1 = .ok (.istore_n 1, 1) := by decide +kernel
theorem dX3_moveOldestToTheEnd_2 : decode cX3_moveOldestToTheEnd 2 = .ok (.iload_n 1, 1) := by decide +kernel
theorem dX3_moveOldestToTheEnd_3 : decode cX3_moveOldestToTheEnd 3 = .ok (.aload_n 0, 1) := by decide +kernel
theorem dX3_moveOldestToTheEnd_4 : decode cX3_moveOldestToTheEnd 4 = .ok (.getfield 19, 3) := by decide +kernel
theorem dX3_moveOldestToTheEnd_7 : decode cX3_moveOldestToTheEnd 7 = .ok (.arraylength, 1) := by decide +kernel
theorem dX3_moveOldestToTheEnd_8 : decode cX3_moveOldestToTheEnd 8 = .ok (.if_icmp .ge 39, 3) := by decide +kernel
theorem dX3_moveOldestToTheEnd_11 : decode cX3_moveOldestToTheEnd 11 = .ok (.aload_n 0, 1) := by decide +kernel
theorem dX3_moveOldestToTheEnd_12 : decode cX3_moveOldestToTheEnd 12 = .ok (.getfield 19, 3) := by decide +kernel
theorem dX3_moveOldestToTheEnd_15 : decode cX3_moveOldestToTheEnd 15 = .ok (.iload_n 1, 1) := by decide +kernel
theorem dX3_moveOldestToTheEnd_16 : decode cX3_moveOldestToTheEnd 16 = .ok (.iconst 1, 1) := by decide +kernel
theorem dX3_moveOldestToTheEnd_17 : decode cX3_moveOldestToTheEnd 17 = .ok (.isub, 1) := by decide +kernel
theorem dX3_moveOldestToTheEnd_18 : decode cX3_moveOldestToTheEnd 18 = .ok (.aaload, 1) := by decide +kernel
theorem dX3_moveOldestToTheEnd_19 : decode cX3_moveOldestToTheEnd 19 = .ok (.astore_n 2, 1) := by decide +kernel
theorem dX3_moveOldestToTheEnd_20 : decode cX3_moveOldestToTheEnd 20 = .ok (.aload_n 0, 1) := by decide +kernel
theorem dX3_moveOldestToTheEnd_21 : decode cX3_moveOldestToTheEnd 21 = .ok (.getfield 19, 3) := by decide +kernel
theorem dX3_moveOldestToTheEnd_24 : decode cX3_moveOldestToTheEnd 24 = .ok (.iload_n 1, 1) := by decide +kernel
theorem dX3_moveOldestToTheEnd_25 : decode cX3_moveOldestToTheEnd 25 = .ok (.iconst 1, 1) := by decide +kernel
theorem dX3_moveOldestToTheEnd_26 : decode cX3_moveOldestToTheEnd 26 = .ok (.isub, 1) := by decide +kernel
theorem dX3_moveOldestToTheEnd_27 : decode cX3_moveOldestToTheEnd 27 = .ok (.aload_n 0, 1) := by decide +kernel
theorem dX3_moveOldestToTheEnd_28 : decode cX3_moveOldestToTheEnd 28 = .ok (.getfield 19, 3) := by decide +kernel
theorem dX3_moveOldestToTheEnd_31 : decode cX3_moveOldestToTheEnd 31 = .ok (.iload_n 1, 1) := by decide +kernel
theorem dX3_moveOldestToTheEnd_32 : decode cX3_moveOldestToTheEnd 32 = .ok (.aaload, 1) := by decide +kernel
theorem dX3_moveOldestToTheEnd_33 : decode cX3_moveOldestToTheEnd 33 = .ok (.aastore, 1) := by decide +kernel
theorem dX3_moveOldestToTheEnd_34 : decode cX3_moveOldestToTheEnd 34 = .ok (.aload_n 0, 1) := by decide +kernel
theorem dX3_moveOldestToTheEnd_35 : decode cX3_moveOldestToTheEnd 35 = .ok (.getfield 19, 3) := by decide +kernel
theorem dX3_moveOldestToTheEnd_38 : decode cX3_moveOldestToTheEnd 38 = .ok (.iload_n 1, 1) := by decide +kernel
theorem dX3_moveOldestToTheEnd_39 : decode cX3_moveOldestToTheEnd 39 = .ok (.aload_n 2, 1) := by decide +kernel
theorem dX3_moveOldestToTheEnd_40 : decode cX3_moveOldestToTheEnd 40 = .ok (.aastore, 1) := by decide +kernel
theorem dX3_moveOldestToTheEnd_41 : decode cX3_moveOldestToTheEnd 41 = .ok (.iinc 1 1, 3) := by decide +kernel
theorem dX3_moveOldestToTheEnd_44 : decode cX3_moveOldestToTheEnd 44 = .ok (.goto (-42), 3) := by decide +kernel
theorem dX3_moveOldestToTheEnd_47 : decode cX3_moveOldestToTheEnd 47 = .ok (.return_, 1) := by decide +kernel
theorem dX3_stateAt_0 : decode cX3_stateAt 0 = .ok (.iload_n 1, 1) := by decide +kernel
theorem dX3_stateAt_1 : decode cX3_stateAt 1 = .ok (.ifCond .lt 15, 3) := by decide +kernel
theorem dX3_stateAt_4 : decode cX3_stateAt 4 = .ok (.iload_n 1, 1) := by decide +kernel
theorem dX3_stateAt_5 : decode cX3_stateAt 5 = .ok (.aload_n 0, 1) := by decide +kernel
theorem dX3_stateAt_6 : decode cX3_stateAt 6 = .ok (.arraylength, 1) := by decide +kernel
theorem dX3_stateAt_7 : decode cX3_stateAt 7 = .ok (.if_icmp .ge 9, 3) := by decide +kernel
theorem dX3_stateAt_10 : decode cX3_stateAt 10 = .ok (.aload_n 0, 1) := by decide +kernel
theorem dX3_stateAt_11 : decode cX3_stateAt 11 = .ok (.iload_n 1, 1) := by decide +kernel
theorem dX3_stateAt_12 : decode cX3_stateAt 12 = .ok (.aaload, 1) := by decide +kernel
theorem dX3_stateAt_13 : decode cX3_stateAt 13 = .ok (.goto 4, 3) := by decide +kernel
theorem dX3_stateAt_16 : decode cX3_stateAt 16 = .ok (.aconst_null, 1) := by decide +kernel
theorem dX3_stateAt_17 : decode cX3_stateAt 17 = .ok (.areturn, 1) := by decide +kernel
theorem dX3_copy_0 : decode cX3_copy 0 = .ok (.aload_n 0, 1) := by decide +kernel
theorem dX3_copy_1 : decode cX3_copy 1 = .ok (.ifnull 7, 3) := by decide +kernel
theorem dX3_copy_4 : decode cX3_copy 4 = .ok (.aload_n 1, 1) := by decide +kernel
theorem dX3_copy_5 : decode cX3_copy 5 = .ok (.ifnonnull 4, 3) := by decide +kernel
theorem dX3_copy_8 : decode cX3_copy 8 = .ok (.return_, 1) := by decide +kernel
theorem dX3_copy_9 : decode cX3_copy 9 = .ok (.aload_n 1, 1) := by decide +kernel
theorem dX3_copy_10 : decode cX3_copy 10 = .ok (.aload_n 0, 1) := by decide +kernel
theorem dX3_copy_11 : decode cX3_copy 11 = .ok (.getfield 40, 3) := by decide +kernel
theorem dX3_copy_14 : decode cX3_copy 14 = .ok (.putfield 40, 3) := by decide +kernel
theorem dX3_copy_17 : decode cX3_copy 17 = .ok (.aload_n 1, 1) := by decide +kernel
theorem dX3_copy_18 : decode cX3_copy 18 = .ok (.aload_n 0, 1) := by decide +kernel
theorem dX3_copy_19 : decode cX3_copy 19 = .ok (.getfield 47, 3) := by decide +kernel
theorem dX3_copy_22 : decode cX3_copy 22 = .ok (.putfield 47, 3) := by decide +kernel
theorem dX3_copy_25 : decode cX3_copy 25 = .ok (.aload_n 1, 1) := by decide +kernel
theorem dX3_copy_26 : decode cX3_copy 26 = .ok (.aload_n 0, 1) := by decide +kernel
theorem dX3_copy_27 : decode cX3_copy 27 = .ok (.getfield 50, 3) := by decide +kernel
theorem dX3_copy_30 : decode cX3_copy 30 = .ok (.putfield 50, 3) := by decide +kernel
theorem dX3_copy_33 : decode cX3_copy 33 = .ok (.aload_n 1, 1) := by decide +kernel
theorem dX3_copy_34 : decode cX3_copy 34 = .ok (.aload_n 0, 1) := by decide +kernel
theorem dX3_copy_35 : decode cX3_copy 35 = .ok (.getfield 171, 3) := by decide +kernel
theorem dX3_copy_38 : decode cX3_copy 38 = .ok (.putfield 171, 3) := by decide +kernel
theorem dX3_copy_41 : decode cX3_copy 41 = .ok (.aload_n 1, 1) := by decide +kernel
theorem dX3_copy_42 : decode cX3_copy 42 = .ok (.aload_n 0, 1) := by decide +kernel
theorem dX3_copy_43 : decode cX3_copy 43 = .ok (.getfield 174, 3) := by decide +kernel
theorem dX3_copy_46 : decode cX3_copy 46 = .ok (.putfield 174, 3) := by decide +kernel
theorem dX3_copy_49 : decode cX3_copy 49 = .ok (.aload_n 1, 1) := by decide +kernel
theorem dX3_copy_50 : decode cX3_copy 50 = .ok (.aload_n 0, 1) := by decide +kernel
theorem dX3_copy_51 : decode cX3_copy 51 = .ok (.getfield 177, 3) := by decide +kernel
theorem dX3_copy_54 : decode cX3_copy 54 = .ok (.putfield 177, 3) := by decide +kernel
theorem dX3_copy_57 : decode cX3_copy 57 = .ok (.aload_n 1, 1) := by decide +kernel
theorem dX3_copy_58 : decode cX3_copy 58 = .ok (.aload_n 0, 1) := by decide +kernel
theorem dX3_copy_59 : decode cX3_copy 59 = .ok (.getfield 165, 3) := by decide +kernel
theorem dX3_copy_62 : decode cX3_copy 62 = .ok (.putfield 165, 3) := by decide +kernel
theorem dX3_copy_65 : decode cX3_copy 65 = .ok (.aload_n 0, 1) := by decide +kernel
theorem dX3_copy_66 : decode cX3_copy 66 = .ok (.getfield 253, 3) := by decide +kernel
theorem dX3_copy_69 : decode cX3_copy 69 = .ok (.aload_n 1, 1) := by decide +kernel
theorem dX3_copy_70 : decode cX3_copy 70 = .ok (.getfield 253, 3) := by decide +kernel
theorem dX3_copy_73 : decode cX3_copy 73 = .ok (.invokestatic 257, 3) := by decide +kernel
theorem dX3_copy_76 : decode cX3_copy 76 = .ok (.aload_n 0, 1) := by decide +kernel
theorem dX3_copy_77 : decode cX3_copy 77 = .ok (.getfield 261, 3) := by decide +kernel
theorem dX3_copy_80 : decode cX3_copy 80 = .ok (.aload_n 1, 1) := by decide +kernel
theorem dX3_copy_81 : decode cX3_copy 81 = .ok (.getfield 261, 3) := by decide +kernel
theorem dX3_copy_84 : decode cX3_copy 84 = .ok (.invokestatic 257, 3) := by decide +kernel
theorem dX3_copy_87 : decode cX3_copy 87 = .ok (.aload_n 0, 1) := by decide +kernel
theorem dX3_copy_88 : decode cX3_copy 88 = .ok (.getfield 264, 3) := by decide +kernel
theorem dX3_copy_91 : decode cX3_copy 91 = .ok (.aload_n 1, 1) := by decide +kernel
theorem dX3_copy_92 : decode cX3_copy 92 = .ok (.getfield 264, 3) := by decide +kernel
theorem dX3_copy_95 : decode cX3_copy 95 = .ok (.invokestatic 257, 3) := by decide +kernel
theorem dX3_copy_98 : decode cX3_copy 98 = .ok (.aload_n 0, 1) := by decide +kernel
theorem dX3_copy_99 : decode cX3_copy 99 = .ok (.getfield 267, 3) := by decide +kernel
theorem dX3_copy_102 : decode cX3_copy 102 = .ok (.aload_n 1, 1) := by decide +kernel
theorem dX3_copy_103 : decode cX3_copy 103 = .ok (.getfield 267, 3) := by decide +kernel
theorem dX3_copy_106 : decode cX3_copy 106 = .ok (.invokestatic 257, 3) := by decide +kernel
theorem dX3_copy_109 : decode cX3_copy 109 = .ok (.return_, 1) := by decide +kernel
theorem dX3_copyNumbers_0 : decode cX3_copyNumbers 0 = .ok (.aload_n 0, 1) := by decide +kernel
theorem dX3_copyNumbers_1 : decode cX3_copyNumbers 1 = .ok (.iconst 0, 1) := by decide +kernel
theorem dX3_copyNumbers_2 : decode cX3_copyNumbers 2 = .ok (.aload_n 1, 1) := by decide +kernel
theorem dX3_copyNumbers_3 : decode cX3_copyNumbers 3 = .ok (.iconst 0, 1) := by decide +kernel
theorem dX3_copyNumbers_4 : decode cX3_copyNumbers 4 = .ok (.aload_n 0, 1) := by decide +kernel
theorem dX3_copyNumbers_5 : decode cX3_copyNumbers 5 = .ok (.arraylength, 1) := by decide +kernel
theorem dX3_copyNumbers_6 : decode cX3_copyNumbers 6 = .ok (.aload_n 1, 1) := by decide +kernel
theorem dX3_copyNumbers_7 : decode cX3_copyNumbers 7 = .ok (.arraylength, 1) := by decide +kernel
theorem dX3_copyNumbers_8 : decode cX3_copyNumbers 8 = .ok (.invokestatic 270, 3) := by decide +kernel
theorem dX3_copyNumbers_11 : decode cX3_copyNumbers 11 = .ok (.invokestatic 273, 3) := by decide +kernel
theorem dX3_copyNumbers_14 : decode cX3_copyNumbers 14 = .ok (.return_, 1) := by decide +kernel
theorem dX3_spanError_0 : decode cX3_spanError 0 = .ok (.iload_n 0, 1) := by decide +kernel
theorem dX3_spanError_1 : decode cX3_spanError 1 = .ok (.invokestatic 102, 3) := by decide +kernel
theorem dX3_spanError_4 : decode cX3_spanError 4 = .ok (.ifCond .eq 10, 3) := by decide +kernel
theorem dX3_spanError_7 : decode cX3_spanError 7 = .ok (.iload_n 1, 1) := by decide +kernel
theorem dX3_spanError_8 : decode cX3_spanError 8 = .ok (.invokestatic 102, 3) := by decide +kernel
theorem dX3_spanError_11 : decode cX3_spanError 11 = .ok (.ifCond .ne 5, 3) := by decide +kernel
theorem dX3_spanError_14 : decode cX3_spanError 14 = .ok (.iconst (-1), 1) := by decide +kernel
theorem dX3_spanError_15 : decode cX3_spanError 15 = .ok (.ireturn, 1) := by decide +kernel
theorem dX3_spanError_16 : decode cX3_spanError 16 = .ok (.iload_n 1, 1) := by decide +kernel
theorem dX3_spanError_17 : decode cX3_spanError 17 = .ok (.iload_n 0, 1) := by decide +kernel
theorem dX3_spanError_18 : decode cX3_spanError 18 = .ok (.if_icmp .ge 8, 3) := by decide +kernel
theorem dX3_spanError_21 : decode cX3_spanError 21 = .ok (.bipush (-2), 2) := by decide +kernel
theorem dX3_spanError_23 : decode cX3_spanError 23 = .ok (.goto 4, 3) := by decide +kernel
theorem dX3_spanError_26 : decode cX3_spanError 26 = .ok (.iconst 0, 1) := by decide +kernel
theorem dX3_spanError_27 : decode cX3_spanError 27 = .ok (.ireturn, 1) := by decide +kernel
theorem dX3_subjectSpanError_0 : decode cX3_subjectSpanError 0 = .ok (.iload_n 0, 1) := by decide +kernel
theorem dX3_subjectSpanError_1 : decode cX3_subjectSpanError 1 = .ok (.invokestatic 98, 3) := by decide +kernel
theorem dX3_subjectSpanError_4 : decode cX3_subjectSpanError 4 = .ok (.ifCond .eq 11, 3) := by decide +kernel
theorem dX3_subjectSpanError_7 : decode cX3_subjectSpanError 7 = .ok (.iload_n 1, 1) := by decide +kernel
theorem dX3_subjectSpanError_8 : decode cX3_subjectSpanError 8 = .ok (.iload_n 2, 1) := by decide +kernel
theorem dX3_subjectSpanError_9 : decode cX3_subjectSpanError 9 = .ok (.invokestatic 116, 3) := by decide +kernel
theorem dX3_subjectSpanError_12 : decode cX3_subjectSpanError 12 = .ok (.goto 4, 3) := by decide +kernel
theorem dX3_subjectSpanError_15 : decode cX3_subjectSpanError 15 = .ok (.iconst (-1), 1) := by decide +kernel
theorem dX3_subjectSpanError_16 : decode cX3_subjectSpanError 16 = .ok (.ireturn, 1) := by decide +kernel
theorem dX3_changeError_0 : decode cX3_changeError 0 = .ok (.iload_n 1, 1) := by decide +kernel
theorem dX3_changeError_1 : decode cX3_changeError 1 = .ok (.iload_n 2, 1) := by decide +kernel
theorem dX3_changeError_2 : decode cX3_changeError 2 = .ok (.iload_n 3, 1) := by decide +kernel
theorem dX3_changeError_3 : decode cX3_changeError 3 = .ok (.invokestatic 73, 3) := by decide +kernel
theorem dX3_changeError_6 : decode cX3_changeError 6 = .ok (.istore 4, 2) := by decide +kernel
theorem dX3_changeError_8 : decode cX3_changeError 8 = .ok (.iload 4, 2) := by decide +kernel
theorem dX3_changeError_10 : decode cX3_changeError 10 = .ok (.ifCond .eq 6, 3) := by decide +kernel
theorem dX3_changeError_13 : decode cX3_changeError 13 = .ok (.iload 4, 2) := by decide +kernel
theorem dX3_changeError_15 : decode cX3_changeError 15 = .ok (.ireturn, 1) := by decide +kernel
theorem dX3_changeError_16 : decode cX3_changeError 16 = .ok (.iload_n 3, 1) := by decide +kernel
theorem dX3_changeError_17 : decode cX3_changeError 17 = .ok (.aload_n 0, 1) := by decide +kernel
theorem dX3_changeError_18 : decode cX3_changeError 18 = .ok (.getfield 12, 3) := by decide +kernel
theorem dX3_changeError_21 : decode cX3_changeError 21 = .ok (.getfield 40, 3) := by decide +kernel
theorem dX3_changeError_24 : decode cX3_changeError 24 = .ok (.if_icmp .le 8, 3) := by decide +kernel
theorem dX3_changeError_27 : decode cX3_changeError 27 = .ok (.bipush (-5), 2) := by decide +kernel
theorem dX3_changeError_29 : decode cX3_changeError 29 = .ok (.goto 4, 3) := by decide +kernel
theorem dX3_changeError_32 : decode cX3_changeError 32 = .ok (.iconst 0, 1) := by decide +kernel
theorem dX3_changeError_33 : decode cX3_changeError 33 = .ok (.ireturn, 1) := by decide +kernel
theorem dX3_passError_0 : decode cX3_passError 0 = .ok (.iload_n 1, 1) := by decide +kernel
theorem dX3_passError_1 : decode cX3_passError 1 = .ok (.iconst 1, 1) := by decide +kernel
theorem dX3_passError_2 : decode cX3_passError 2 = .ok (.if_icmp .lt 10, 3) := by decide +kernel
theorem dX3_passError_5 : decode cX3_passError 5 = .ok (.iload_n 1, 1) := by decide +kernel
theorem dX3_passError_6 : decode cX3_passError 6 = .ok (.sipush 400, 3) := by decide +kernel
theorem dX3_passError_9 : decode cX3_passError 9 = .ok (.if_icmp .le 6, 3) := by decide +kernel
theorem dX3_passError_12 : decode cX3_passError 12 = .ok (.bipush (-2), 2) := by decide +kernel
theorem dX3_passError_14 : decode cX3_passError 14 = .ok (.ireturn, 1) := by decide +kernel
theorem dX3_passError_15 : decode cX3_passError 15 = .ok (.aload_n 0, 1) := by decide +kernel
theorem dX3_passError_16 : decode cX3_passError 16 = .ok (.getfield 12, 3) := by decide +kernel
theorem dX3_passError_19 : decode cX3_passError 19 = .ok (.getfield 40, 3) := by decide +kernel
theorem dX3_passError_22 : decode cX3_passError 22 = .ok (.iload_n 1, 1) := by decide +kernel
theorem dX3_passError_23 : decode cX3_passError 23 = .ok (.iadd, 1) := by decide +kernel
theorem dX3_passError_24 : decode cX3_passError 24 = .ok (.sipush 3649, 3) := by decide +kernel
theorem dX3_passError_27 : decode cX3_passError 27 = .ok (.if_icmp .le 8, 3) := by decide +kernel
theorem dX3_passError_30 : decode cX3_passError 30 = .ok (.bipush (-4), 2) := by decide +kernel
theorem dX3_passError_32 : decode cX3_passError 32 = .ok (.goto 4, 3) := by decide +kernel
theorem dX3_passError_35 : decode cX3_passError 35 = .ok (.iconst 0, 1) := by decide +kernel
theorem dX3_passError_36 : decode cX3_passError 36 = .ok (.ireturn, 1) := by decide +kernel
theorem dX3_isSubject_0 : decode cX3_isSubject 0 = .ok (.iload_n 0, 1) := by decide +kernel
theorem dX3_isSubject_1 : decode cX3_isSubject 1 = .ok (.ifCond .lt 13, 3) := by decide +kernel
theorem dX3_isSubject_4 : decode cX3_isSubject 4 = .ok (.iload_n 0, 1) := by decide +kernel
theorem dX3_isSubject_5 : decode cX3_isSubject 5 = .ok (.bipush 16, 2) := by decide +kernel
theorem dX3_isSubject_7 : decode cX3_isSubject 7 = .ok (.if_icmp .ge 7, 3) := by decide +kernel
theorem dX3_isSubject_10 : decode cX3_isSubject 10 = .ok (.iconst 1, 1) := by decide +kernel
theorem dX3_isSubject_11 : decode cX3_isSubject 11 = .ok (.goto 4, 3) := by decide +kernel
theorem dX3_isSubject_14 : decode cX3_isSubject 14 = .ok (.iconst 0, 1) := by decide +kernel
theorem dX3_isSubject_15 : decode cX3_isSubject 15 = .ok (.ireturn, 1) := by decide +kernel
theorem dX3_isDay_0 : decode cX3_isDay 0 = .ok (.iload_n 0, 1) := by decide +kernel
theorem dX3_isDay_1 : decode cX3_isDay 1 = .ok (.ifCond .lt 14, 3) := by decide +kernel
theorem dX3_isDay_4 : decode cX3_isDay 4 = .ok (.iload_n 0, 1) := by decide +kernel
theorem dX3_isDay_5 : decode cX3_isDay 5 = .ok (.sipush 3650, 3) := by decide +kernel
theorem dX3_isDay_8 : decode cX3_isDay 8 = .ok (.if_icmp .ge 7, 3) := by decide +kernel
theorem dX3_isDay_11 : decode cX3_isDay 11 = .ok (.iconst 1, 1) := by decide +kernel
theorem dX3_isDay_12 : decode cX3_isDay 12 = .ok (.goto 4, 3) := by decide +kernel
theorem dX3_isDay_15 : decode cX3_isDay 15 = .ok (.iconst 0, 1) := by decide +kernel
theorem dX3_isDay_16 : decode cX3_isDay 16 = .ok (.ireturn, 1) := by decide +kernel
theorem dX3_isMonth_0 : decode cX3_isMonth 0 = .ok (.iload_n 0, 1) := by decide +kernel
theorem dX3_isMonth_1 : decode cX3_isMonth 1 = .ok (.ifCond .lt 13, 3) := by decide +kernel
theorem dX3_isMonth_4 : decode cX3_isMonth 4 = .ok (.iload_n 0, 1) := by decide +kernel
theorem dX3_isMonth_5 : decode cX3_isMonth 5 = .ok (.bipush 120, 2) := by decide +kernel
theorem dX3_isMonth_7 : decode cX3_isMonth 7 = .ok (.if_icmp .ge 7, 3) := by decide +kernel
theorem dX3_isMonth_10 : decode cX3_isMonth 10 = .ok (.iconst 1, 1) := by decide +kernel
theorem dX3_isMonth_11 : decode cX3_isMonth 11 = .ok (.goto 4, 3) := by decide +kernel
theorem dX3_isMonth_14 : decode cX3_isMonth 14 = .ok (.iconst 0, 1) := by decide +kernel
theorem dX3_isMonth_15 : decode cX3_isMonth 15 = .ok (.ireturn, 1) := by decide +kernel
theorem dX3_monthOf_0 : decode cX3_monthOf 0 = .ok (.iload_n 0, 1) := by decide +kernel
theorem dX3_monthOf_1 : decode cX3_monthOf 1 = .ok (.sipush 365, 3) := by decide +kernel
theorem dX3_monthOf_4 : decode cX3_monthOf 4 = .ok (.idiv, 1) := by decide +kernel
theorem dX3_monthOf_5 : decode cX3_monthOf 5 = .ok (.istore_n 1, 1) := by decide +kernel
theorem dX3_monthOf_6 : decode cX3_monthOf 6 = .ok (.iload_n 0, 1) := by decide +kernel
theorem dX3_monthOf_7 : decode cX3_monthOf 7 = .ok (.sipush 365, 3) := by decide +kernel
theorem dX3_monthOf_10 : decode cX3_monthOf 10 = .ok (.irem, 1) := by decide +kernel
theorem dX3_monthOf_11 : decode cX3_monthOf 11 = .ok (.istore_n 2, 1) := by decide +kernel
theorem dX3_monthOf_12 : decode cX3_monthOf 12 = .ok (.iconst 0, 1) := by decide +kernel
theorem dX3_monthOf_13 : decode cX3_monthOf 13 = .ok (.istore_n 3, 1) := by decide +kernel
theorem dX3_monthOf_14 : decode cX3_monthOf 14 = .ok (.iload_n 3, 1) := by decide +kernel
theorem dX3_monthOf_15 : decode cX3_monthOf 15 = .ok (.bipush 11, 2) := by decide +kernel
theorem dX3_monthOf_17 : decode cX3_monthOf 17 = .ok (.if_icmp .ge 19, 3) := by decide +kernel
theorem dX3_monthOf_20 : decode cX3_monthOf 20 = .ok (.iload_n 3, 1) := by decide +kernel
theorem dX3_monthOf_21 : decode cX3_monthOf 21 = .ok (.iconst 1, 1) := by decide +kernel
theorem dX3_monthOf_22 : decode cX3_monthOf 22 = .ok (.iadd, 1) := by decide +kernel
theorem dX3_monthOf_23 : decode cX3_monthOf 23 = .ok (.invokestatic 279, 3) := by decide +kernel
theorem dX3_monthOf_26 : decode cX3_monthOf 26 = .ok (.iload_n 2, 1) := by decide +kernel
theorem dX3_monthOf_27 : decode cX3_monthOf 27 = .ok (.if_icmp .gt 9, 3) := by decide +kernel
theorem dX3_monthOf_30 : decode cX3_monthOf 30 = .ok (.iinc 3 1, 3) := by decide +kernel
theorem dX3_monthOf_33 : decode cX3_monthOf 33 = .ok (.goto (-19), 3) := by decide +kernel
theorem dX3_monthOf_36 : decode cX3_monthOf 36 = .ok (.iload_n 1, 1) := by decide +kernel
theorem dX3_monthOf_37 : decode cX3_monthOf 37 = .ok (.bipush 12, 2) := by decide +kernel
theorem dX3_monthOf_39 : decode cX3_monthOf 39 = .ok (.imul, 1) := by decide +kernel
theorem dX3_monthOf_40 : decode cX3_monthOf 40 = .ok (.iload_n 3, 1) := by decide +kernel
theorem dX3_monthOf_41 : decode cX3_monthOf 41 = .ok (.iadd, 1) := by decide +kernel
theorem dX3_monthOf_42 : decode cX3_monthOf 42 = .ok (.ireturn, 1) := by decide +kernel
theorem dX3_firstDayOf_0 : decode cX3_firstDayOf 0 = .ok (.iload_n 0, 1) := by decide +kernel
theorem dX3_firstDayOf_1 : decode cX3_firstDayOf 1 = .ok (.bipush 12, 2) := by decide +kernel
theorem dX3_firstDayOf_3 : decode cX3_firstDayOf 3 = .ok (.idiv, 1) := by decide +kernel
theorem dX3_firstDayOf_4 : decode cX3_firstDayOf 4 = .ok (.sipush 365, 3) := by decide +kernel
theorem dX3_firstDayOf_7 : decode cX3_firstDayOf 7 = .ok (.imul, 1) := by decide +kernel
theorem dX3_firstDayOf_8 : decode cX3_firstDayOf 8 = .ok (.iload_n 0, 1) := by decide +kernel
theorem dX3_firstDayOf_9 : decode cX3_firstDayOf 9 = .ok (.bipush 12, 2) := by decide +kernel
theorem dX3_firstDayOf_11 : decode cX3_firstDayOf 11 = .ok (.irem, 1) := by decide +kernel
theorem dX3_firstDayOf_12 : decode cX3_firstDayOf 12 = .ok (.invokestatic 279, 3) := by decide +kernel
theorem dX3_firstDayOf_15 : decode cX3_firstDayOf 15 = .ok (.iadd, 1) := by decide +kernel
theorem dX3_firstDayOf_16 : decode cX3_firstDayOf 16 = .ok (.ireturn, 1) := by decide +kernel
theorem dX3_daysOf_0 : decode cX3_daysOf 0 = .ok (.iload_n 0, 1) := by decide +kernel
theorem dX3_daysOf_1 : decode cX3_daysOf 1 = .ok (.bipush 12, 2) := by decide +kernel
theorem dX3_daysOf_3 : decode cX3_daysOf 3 = .ok (.irem, 1) := by decide +kernel
theorem dX3_daysOf_4 : decode cX3_daysOf 4 = .ok (.istore_n 1, 1) := by decide +kernel
theorem dX3_daysOf_5 : decode cX3_daysOf 5 = .ok (.iload_n 1, 1) := by decide +kernel
theorem dX3_daysOf_6 : decode cX3_daysOf 6 = .ok (.iconst 1, 1) := by decide +kernel
theorem dX3_daysOf_7 : decode cX3_daysOf 7 = .ok (.iadd, 1) := by decide +kernel
theorem dX3_daysOf_8 : decode cX3_daysOf 8 = .ok (.invokestatic 279, 3) := by decide +kernel
theorem dX3_daysOf_11 : decode cX3_daysOf 11 = .ok (.iload_n 1, 1) := by decide +kernel
theorem dX3_daysOf_12 : decode cX3_daysOf 12 = .ok (.invokestatic 279, 3) := by decide +kernel
theorem dX3_daysOf_15 : decode cX3_daysOf 15 = .ok (.isub, 1) := by decide +kernel
theorem dX3_daysOf_16 : decode cX3_daysOf 16 = .ok (.ireturn, 1) := by decide +kernel
theorem dX3_startInYear_0 : decode cX3_startInYear 0 = .ok (.iload_n 0, 1) := by decide +kernel
theorem dX3_startInYear_1 : decode cX3_startInYear 1 = .ok (.ifCond .lt 19, 3) := by decide +kernel
theorem dX3_startInYear_4 : decode cX3_startInYear 4 = .ok (.iload_n 0, 1) := by decide +kernel
theorem dX3_startInYear_5 : decode cX3_startInYear 5 = .ok (.getstatic 282, 3) := by decide +kernel
theorem dX3_startInYear_8 : decode cX3_startInYear 8 = .ok (.arraylength, 1) := by decide +kernel
theorem dX3_startInYear_9 : decode cX3_startInYear 9 = .ok (.if_icmp .ge 11, 3) := by decide +kernel
theorem dX3_startInYear_12 : decode cX3_startInYear 12 = .ok (.getstatic 282, 3) := by decide +kernel
theorem dX3_startInYear_15 : decode cX3_startInYear 15 = .ok (.iload_n 0, 1) := by decide +kernel
theorem dX3_startInYear_16 : decode cX3_startInYear 16 = .ok (.iaload, 1) := by decide +kernel
theorem dX3_startInYear_17 : decode cX3_startInYear 17 = .ok (.goto 4, 3) := by decide +kernel
theorem dX3_startInYear_20 : decode cX3_startInYear 20 = .ok (.iconst 0, 1) := by decide +kernel
theorem dX3_startInYear_21 : decode cX3_startInYear 21 = .ok (.ireturn, 1) := by decide +kernel
theorem dX3_daysMeant_0 : decode cX3_daysMeant 0 = .ok (.iload_n 0, 1) := by decide +kernel
theorem dX3_daysMeant_1 : decode cX3_daysMeant 1 = .ok (.invokestatic 105, 3) := by decide +kernel
theorem dX3_daysMeant_4 : decode cX3_daysMeant 4 = .ok (.istore_n 3, 1) := by decide +kernel
theorem dX3_daysMeant_5 : decode cX3_daysMeant 5 = .ok (.iload_n 1, 1) := by decide +kernel
theorem dX3_daysMeant_6 : decode cX3_daysMeant 6 = .ok (.iload_n 3, 1) := by decide +kernel
theorem dX3_daysMeant_7 : decode cX3_daysMeant 7 = .ok (.isub, 1) := by decide +kernel
theorem dX3_daysMeant_8 : decode cX3_daysMeant 8 = .ok (.iconst 0, 1) := by decide +kernel
theorem dX3_daysMeant_9 : decode cX3_daysMeant 9 = .ok (.invokestatic 132, 3) := by decide +kernel
theorem dX3_daysMeant_12 : decode cX3_daysMeant 12 = .ok (.istore 4, 2) := by decide +kernel
theorem dX3_daysMeant_14 : decode cX3_daysMeant 14 = .ok (.iload_n 2, 1) := by decide +kernel
theorem dX3_daysMeant_15 : decode cX3_daysMeant 15 = .ok (.iload_n 3, 1) := by decide +kernel
theorem dX3_daysMeant_16 : decode cX3_daysMeant 16 = .ok (.isub, 1) := by decide +kernel
theorem dX3_daysMeant_17 : decode cX3_daysMeant 17 = .ok (.iload_n 0, 1) := by decide +kernel
theorem dX3_daysMeant_18 : decode cX3_daysMeant 18 = .ok (.invokestatic 129, 3) := by decide +kernel
theorem dX3_daysMeant_21 : decode cX3_daysMeant 21 = .ok (.iconst 1, 1) := by decide +kernel
theorem dX3_daysMeant_22 : decode cX3_daysMeant 22 = .ok (.isub, 1) := by decide +kernel
theorem dX3_daysMeant_23 : decode cX3_daysMeant 23 = .ok (.invokestatic 270, 3) := by decide +kernel
theorem dX3_daysMeant_26 : decode cX3_daysMeant 26 = .ok (.istore 5, 2) := by decide +kernel
theorem dX3_daysMeant_28 : decode cX3_daysMeant 28 = .ok (.iload 4, 2) := by decide +kernel
theorem dX3_daysMeant_30 : decode cX3_daysMeant 30 = .ok (.iload 5, 2) := by decide +kernel
theorem dX3_daysMeant_32 : decode cX3_daysMeant 32 = .ok (.if_icmp .le 7, 3) := by decide +kernel
theorem dX3_daysMeant_35 : decode cX3_daysMeant 35 = .ok (.iconst 0, 1) := by decide +kernel
theorem dX3_daysMeant_36 : decode cX3_daysMeant 36 = .ok (.goto 16, 3) := by decide +kernel
theorem dX3_daysMeant_39 : decode cX3_daysMeant 39 = .ok (.iload 5, 2) := by decide +kernel
theorem dX3_daysMeant_41 : decode cX3_daysMeant 41 = .ok (.iload 4, 2) := by decide +kernel
theorem dX3_daysMeant_43 : decode cX3_daysMeant 43 = .ok (.isub, 1) := by decide +kernel
theorem dX3_daysMeant_44 : decode cX3_daysMeant 44 = .ok (.iconst 1, 1) := by decide +kernel
theorem dX3_daysMeant_45 : decode cX3_daysMeant 45 = .ok (.iadd, 1) := by decide +kernel
theorem dX3_daysMeant_46 : decode cX3_daysMeant 46 = .ok (.invokestatic 285, 3) := by decide +kernel
theorem dX3_daysMeant_49 : decode cX3_daysMeant 49 = .ok (.iload 4, 2) := by decide +kernel
theorem dX3_daysMeant_51 : decode cX3_daysMeant 51 = .ok (.ishl, 1) := by decide +kernel
theorem dX3_daysMeant_52 : decode cX3_daysMeant 52 = .ok (.ireturn, 1) := by decide +kernel
theorem dX3_allDays_0 : decode cX3_allDays 0 = .ok (.iload_n 0, 1) := by decide +kernel
theorem dX3_allDays_1 : decode cX3_allDays 1 = .ok (.invokestatic 129, 3) := by decide +kernel
theorem dX3_allDays_4 : decode cX3_allDays 4 = .ok (.invokestatic 285, 3) := by decide +kernel
theorem dX3_allDays_7 : decode cX3_allDays 7 = .ok (.ireturn, 1) := by decide +kernel
theorem dX3_lowestBits_0 : decode cX3_lowestBits 0 = .ok (.iconst 1, 1) := by decide +kernel
theorem dX3_lowestBits_1 : decode cX3_lowestBits 1 = .ok (.iload_n 0, 1) := by decide +kernel
theorem dX3_lowestBits_2 : decode cX3_lowestBits 2 = .ok (.ishl, 1) := by decide +kernel
theorem dX3_lowestBits_3 : decode cX3_lowestBits 3 = .ok (.iconst 1, 1) := by decide +kernel
theorem dX3_lowestBits_4 : decode cX3_lowestBits 4 = .ok (.isub, 1) := by decide +kernel
theorem dX3_lowestBits_5 : decode cX3_lowestBits 5 = .ok (.ireturn, 1) := by decide +kernel
theorem dX3_isBitSet_0 : decode cX3_isBitSet 0 = .ok (.iload_n 0, 1) := by decide +kernel
theorem dX3_isBitSet_1 : decode cX3_isBitSet 1 = .ok (.iload_n 1, 1) := by decide +kernel
theorem dX3_isBitSet_2 : decode cX3_isBitSet 2 = .ok (.iushr, 1) := by decide +kernel
theorem dX3_isBitSet_3 : decode cX3_isBitSet 3 = .ok (.iconst 1, 1) := by decide +kernel
theorem dX3_isBitSet_4 : decode cX3_isBitSet 4 = .ok (.iand, 1) := by decide +kernel
theorem dX3_isBitSet_5 : decode cX3_isBitSet 5 = .ok (.iconst 1, 1) := by decide +kernel
theorem dX3_isBitSet_6 : decode cX3_isBitSet 6 = .ok (.if_icmp .ne 7, 3) := by decide +kernel
theorem dX3_isBitSet_9 : decode cX3_isBitSet 9 = .ok (.iconst 1, 1) := by decide +kernel
theorem dX3_isBitSet_10 : decode cX3_isBitSet 10 = .ok (.goto 4, 3) := by decide +kernel
theorem dX3_isBitSet_13 : decode cX3_isBitSet 13 = .ok (.iconst 0, 1) := by decide +kernel
theorem dX3_isBitSet_14 : decode cX3_isBitSet 14 = .ok (.ireturn, 1) := by decide +kernel
theorem dX3_charactersIn_0 : decode cX3_charactersIn 0 = .ok (.lload_n 0, 1) := by decide +kernel
theorem dX3_charactersIn_1 : decode cX3_charactersIn 1 = .ok (.lstore_n 2, 1) := by decide +kernel
theorem dX3_charactersIn_2 : decode cX3_charactersIn 2 = .ok (.iconst 0, 1) := by decide +kernel
theorem dX3_charactersIn_3 : decode cX3_charactersIn 3 = .ok (.istore 4, 2) := by decide +kernel
theorem dX3_charactersIn_5 : decode cX3_charactersIn 5 = .ok (.iload 4, 2) := by decide +kernel
theorem dX3_charactersIn_7 : decode cX3_charactersIn 7 = .ok (.bipush 8, 2) := by decide +kernel
theorem dX3_charactersIn_9 : decode cX3_charactersIn 9 = .ok (.if_icmp .ge 44, 3) := by decide +kernel
theorem dX3_charactersIn_12 : decode cX3_charactersIn 12 = .ok (.lload_n 2, 1) := by decide +kernel
theorem dX3_charactersIn_13 : decode cX3_charactersIn 13 = .ok (.lconst 0, 1) := by decide +kernel
theorem dX3_charactersIn_14 : decode cX3_charactersIn 14 = .ok (.lcmp, 1) := by decide +kernel
theorem dX3_charactersIn_15 : decode cX3_charactersIn 15 = .ok (.ifCond .eq 38, 3) := by decide +kernel
theorem dX3_charactersIn_18 : decode cX3_charactersIn 18 = .ok (.lload_n 2, 1) := by decide +kernel
theorem dX3_charactersIn_19 : decode cX3_charactersIn 19 = .ok (.ldc2_w 288, 3) := by decide +kernel
theorem dX3_charactersIn_22 : decode cX3_charactersIn 22 = .ok (.land, 1) := by decide +kernel
theorem dX3_charactersIn_23 : decode cX3_charactersIn 23 = .ok (.l2i, 1) := by decide +kernel
theorem dX3_charactersIn_24 : decode cX3_charactersIn 24 = .ok (.istore 5, 2) := by decide +kernel
theorem dX3_charactersIn_26 : decode cX3_charactersIn 26 = .ok (.iload 5, 2) := by decide +kernel
theorem dX3_charactersIn_28 : decode cX3_charactersIn 28 = .ok (.bipush 33, 2) := by decide +kernel
theorem dX3_charactersIn_30 : decode cX3_charactersIn 30 = .ok (.if_icmp .lt 10, 3) := by decide +kernel
theorem dX3_charactersIn_33 : decode cX3_charactersIn 33 = .ok (.iload 5, 2) := by decide +kernel
theorem dX3_charactersIn_35 : decode cX3_charactersIn 35 = .ok (.bipush 126, 2) := by decide +kernel
theorem dX3_charactersIn_37 : decode cX3_charactersIn 37 = .ok (.if_icmp .le 5, 3) := by decide +kernel
theorem dX3_charactersIn_40 : decode cX3_charactersIn 40 = .ok (.iconst 0, 1) := by decide +kernel
theorem dX3_charactersIn_41 : decode cX3_charactersIn 41 = .ok (.ireturn, 1) := by decide +kernel
theorem dX3_charactersIn_42 : decode cX3_charactersIn 42 = .ok (.lload_n 2, 1) := by decide +kernel
theorem dX3_charactersIn_43 : decode cX3_charactersIn 43 = .ok (.bipush 8, 2) := by decide +kernel
theorem dX3_charactersIn_45 : decode cX3_charactersIn 45 = .ok (.lushr, 1) := by decide +kernel
theorem dX3_charactersIn_46 : decode cX3_charactersIn 46 = .ok (.lstore_n 2, 1) := by decide +kernel
theorem dX3_charactersIn_47 : decode cX3_charactersIn 47 = .ok (.iinc 4 1, 3) := by decide +kernel
theorem dX3_charactersIn_50 : decode cX3_charactersIn 50 = .ok (.goto (-45), 3) := by decide +kernel
theorem dX3_charactersIn_53 : decode cX3_charactersIn 53 = .ok (.iload 4, 2) := by decide +kernel
theorem dX3_charactersIn_55 : decode cX3_charactersIn 55 = .ok (.ireturn, 1) := by decide +kernel
end
section
theorem dX4_init_0 : decode cX4_init 0 = .ok (.aload_n 0, 1) := by decide +kernel
theorem dX4_init_1 : decode cX4_init 1 = .ok (.invokespecial 1, 3) := by decide +kernel
theorem dX4_init_4 : decode cX4_init 4 = .ok (.aload_n 0, 1) := by decide +kernel
theorem dX4_init_5 : decode cX4_init 5 = .ok (.sipush 2175, 3) := by decide +kernel
theorem dX4_init_8 : decode cX4_init 8 = .ok (.newarray .int, 2) := by decide +kernel
theorem dX4_init_10 : decode cX4_init 10 = .ok (.putfield 7, 3) := by decide +kernel
theorem dX4_init_13 : decode cX4_init 13 = .ok (.aload_n 0, 1) := by decide +kernel
theorem dX4_init_14 : decode cX4_init 14 = .ok (.sipush 2175, 3) := by decide +kernel
theorem dX4_init_17 : decode cX4_init 17 = .ok (.newarray .int, 2) := by decide +kernel
theorem dX4_init_19 : decode cX4_init 19 = .ok (.putfield 13, 3) := by decide +kernel
theorem dX4_init_22 : decode cX4_init 22 = .ok (.aload_n 0, 1) := by decide +kernel
theorem dX4_init_23 : decode cX4_init 23 = .ok (.sipush 13050, 3) := by decide +kernel
theorem dX4_init_26 : decode cX4_init 26 = .ok (.newarray .int, 2) := by decide +kernel
theorem dX4_init_28 : decode cX4_init 28 = .ok (.putfield 16, 3) := by decide +kernel
theorem dX4_init_31 : decode cX4_init 31 = .ok (.aload_n 0, 1) := by decide +kernel
theorem dX4_init_32 : decode cX4_init 32 = .ok (.sipush 4350, 3) := by decide +kernel
theorem dX4_init_35 : decode cX4_init 35 = .ok (.newarray .int, 2) := by decide +kernel
theorem dX4_init_37 : decode cX4_init 37 = .ok (.putfield 19, 3) := by decide +kernel
theorem dX4_init_40 : decode cX4_init 40 = .ok (.aload_n 0, 1) := by decide +kernel
theorem dX4_init_41 : decode cX4_init 41 = .ok (.iconst 2, 1) := by decide +kernel
theorem dX4_init_42 : decode cX4_init 42 = .ok (.newarray .boolean, 2) := by decide +kernel
theorem dX4_init_44 : decode cX4_init 44 = .ok (.putfield 22, 3) := by decide +kernel
theorem dX4_init_47 : decode cX4_init 47 = .ok (.aload_n 0, 1) := by decide +kernel
theorem dX4_init_48 : decode cX4_init 48 = .ok (.bipush 80, 2) := by decide +kernel
theorem dX4_init_50 : decode cX4_init 50 = .ok (.newarray .int, 2) := by decide +kernel
theorem dX4_init_52 : decode cX4_init 52 = .ok (.putfield 26, 3) := by decide +kernel
theorem dX4_init_55 : decode cX4_init 55 = .ok (.aload_n 0, 1) := by decide +kernel
theorem dX4_init_56 : decode cX4_init 56 = .ok (.bipush 121, 2) := by decide +kernel
theorem dX4_init_58 : decode cX4_init 58 = .ok (.newarray .int, 2) := by decide +kernel
theorem dX4_init_60 : decode cX4_init 60 = .ok (.putfield 29, 3) := by decide +kernel
theorem dX4_init_63 : decode cX4_init 63 = .ok (.aload_n 0, 1) := by decide +kernel
theorem dX4_init_64 : decode cX4_init 64 = .ok (.getfield 7, 3) := by decide +kernel
theorem dX4_init_67 : decode cX4_init 67 = .ok (.iconst 1, 1) := by decide +kernel
theorem dX4_init_68 : decode cX4_init 68 = .ok (.iconst 2, 1) := by decide +kernel
theorem dX4_init_69 : decode cX4_init 69 = .ok (.iastore, 1) := by decide +kernel
theorem dX4_init_70 : decode cX4_init 70 = .ok (.aload_n 0, 1) := by decide +kernel
theorem dX4_init_71 : decode cX4_init 71 = .ok (.getfield 7, 3) := by decide +kernel
theorem dX4_init_74 : decode cX4_init 74 = .ok (.iconst 2, 1) := by decide +kernel
theorem dX4_init_75 : decode cX4_init 75 = .ok (.iconst 2, 1) := by decide +kernel
theorem dX4_init_76 : decode cX4_init 76 = .ok (.iastore, 1) := by decide +kernel
theorem dX4_init_77 : decode cX4_init 77 = .ok (.iconst 0, 1) := by decide +kernel
theorem dX4_init_78 : decode cX4_init 78 = .ok (.istore_n 1, 1) := by decide +kernel
theorem dX4_init_79 : decode cX4_init 79 = .ok (.iload_n 1, 1) := by decide +kernel
theorem dX4_init_80 : decode cX4_init 80 = .ok (.bipush 120, 2) := by decide +kernel
theorem dX4_init_82 : decode cX4_init 82 = .ok (.if_icmp .ge 68, 3) := by decide +kernel
theorem dX4_init_85 : decode cX4_init 85 = .ok (.iload_n 1, 1) := by decide +kernel
theorem dX4_init_86 : decode cX4_init 86 = .ok (.bipush 12, 2) := by decide +kernel
theorem dX4_init_88 : decode cX4_init 88 = .ok (.irem, 1) := by decide +kernel
theorem dX4_init_89 : decode cX4_init 89 = .ok (.istore_n 2, 1) := by decide +kernel
theorem dX4_init_90 : decode cX4_init 90 = .ok (.aload_n 0, 1) := by decide +kernel
theorem dX4_init_91 : decode cX4_init 91 = .ok (.getfield 29, 3) := by decide +kernel
theorem dX4_init_94 : decode cX4_init 94 = .ok (.iload_n 1, 1) := by decide +kernel
theorem dX4_init_95 : decode cX4_init 95 = .ok (.iconst 1, 1) := by decide +kernel
theorem dX4_init_96 : decode cX4_init 96 = .ok (.iadd, 1) := by decide +kernel
theorem dX4_init_97 : decode cX4_init 97 = .ok (.aload_n 0, 1) := by decide +kernel
theorem dX4_init_98 : decode cX4_init 98 = .ok (.getfield 29, 3) := by decide +kernel
theorem dX4_init_101 : decode cX4_init 101 = .ok (.iload_n 1, 1) := by decide +kernel
theorem dX4_init_102 : decode cX4_init 102 = .ok (.iaload, 1) := by decide +kernel
theorem dX4_init_103 : decode cX4_init 103 = .ok (.iload_n 2, 1) := by decide +kernel
theorem dX4_init_104 : decode cX4_init 104 = .ok (.iconst 1, 1) := by decide +kernel
theorem dX4_init_105 : decode cX4_init 105 = .ok (.if_icmp .ne 8, 3) := by decide +kernel
theorem dX4_init_108 : decode cX4_init 108 = .ok (.bipush 28, 2) := by decide +kernel
theorem dX4_init_110 : decode cX4_init 110 = .ok (.goto 32, 3) := by decide +kernel
theorem dX4_init_113 : decode cX4_init 113 = .ok (.iload_n 2, 1) := by decide +kernel
theorem dX4_init_114 : decode cX4_init 114 = .ok (.iconst 3, 1) := by decide +kernel
theorem dX4_init_115 : decode cX4_init 115 = .ok (.if_icmp .eq 20, 3) := by decide +kernel
theorem dX4_init_118 : decode cX4_init 118 = .ok (.iload_n 2, 1) := by decide +kernel
theorem dX4_init_119 : decode cX4_init 119 = .ok (.iconst 5, 1) := by decide +kernel
theorem dX4_init_120 : decode cX4_init 120 = .ok (.if_icmp .eq 15, 3) := by decide +kernel
theorem dX4_init_123 : decode cX4_init 123 = .ok (.iload_n 2, 1) := by decide +kernel
theorem dX4_init_124 : decode cX4_init 124 = .ok (.bipush 8, 2) := by decide +kernel
theorem dX4_init_126 : decode cX4_init 126 = .ok (.if_icmp .eq 9, 3) := by decide +kernel
theorem dX4_init_129 : decode cX4_init 129 = .ok (.iload_n 2, 1) := by decide +kernel
theorem dX4_init_130 : decode cX4_init 130 = .ok (.bipush 10, 2) := by decide +kernel
theorem dX4_init_132 : decode cX4_init 132 = .ok (.if_icmp .ne 8, 3) := by decide +kernel
theorem dX4_init_135 : decode cX4_init 135 = .ok (.bipush 30, 2) := by decide +kernel
theorem dX4_init_137 : decode cX4_init 137 = .ok (.goto 5, 3) := by decide +kernel
theorem dX4_init_140 : decode cX4_init 140 = .ok (.bipush 31, 2) := by decide +kernel
theorem dX4_init_142 : decode cX4_init 142 = .ok (.iadd, 1) := by decide +kernel
theorem dX4_init_143 : decode cX4_init 143 = .ok (.iastore, 1) := by decide +kernel
theorem dX4_init_144 : decode cX4_init 144 = .ok (.iinc 1 1, 3) := by decide +kernel
theorem dX4_init_147 : decode cX4_init 147 = .ok (.goto (-68), 3) := by decide +kernel
theorem dX4_init_150 : decode cX4_init 150 = .ok (.return_, 1) := by decide +kernel
theorem dX4_in_0 : decode cX4_in 0 = .ok (.lload_n 0, 1) := by decide +kernel
theorem dX4_in_1 : decode cX4_in 1 = .ok (.lload_n 2, 1) := by decide +kernel
theorem dX4_in_2 : decode cX4_in 2 = .ok (.lcmp, 1) := by decide +kernel
theorem dX4_in_3 : decode cX4_in 3 = .ok (.ifCond .lt 14, 3) := by decide +kernel
theorem dX4_in_6 : decode cX4_in 6 = .ok (.lload_n 0, 1) := by decide +kernel
theorem dX4_in_7 : decode cX4_in 7 = .ok (.lload 4, 2) := by decide +kernel
theorem dX4_in_9 : decode cX4_in 9 = .ok (.lcmp, 1) := by decide +kernel
theorem dX4_in_10 : decode cX4_in 10 = .ok (.ifCond .gt 7, 3) := by decide +kernel
theorem dX4_in_13 : decode cX4_in 13 = .ok (.iconst 1, 1) := by decide +kernel
theorem dX4_in_14 : decode cX4_in 14 = .ok (.goto 4, 3) := by decide +kernel
theorem dX4_in_17 : decode cX4_in 17 = .ok (.iconst 0, 1) := by decide +kernel
theorem dX4_in_18 : decode cX4_in 18 = .ok (.ireturn, 1) := by decide +kernel
theorem dX4_copyDiary_0 : decode cX4_copyDiary 0 = .ok (.iconst 0, 1) := by decide +kernel
theorem dX4_copyDiary_1 : decode cX4_copyDiary 1 = .ok (.istore 4, 2) := by decide +kernel
theorem dX4_copyDiary_3 : decode cX4_copyDiary 3 = .ok (.iload 4, 2) := by decide +kernel
theorem dX4_copyDiary_5 : decode cX4_copyDiary 5 = .ok (.sipush 2175, 3) := by decide +kernel
theorem dX4_copyDiary_8 : decode cX4_copyDiary 8 = .ok (.if_icmp .ge 21, 3) := by decide +kernel
theorem dX4_copyDiary_11 : decode cX4_copyDiary 11 = .ok (.aload_n 2, 1) := by decide +kernel
theorem dX4_copyDiary_12 : decode cX4_copyDiary 12 = .ok (.iload_n 3, 1) := by decide +kernel
theorem dX4_copyDiary_13 : decode cX4_copyDiary 13 = .ok (.iload 4, 2) := by decide +kernel
theorem dX4_copyDiary_15 : decode cX4_copyDiary 15 = .ok (.iadd, 1) := by decide +kernel
theorem dX4_copyDiary_16 : decode cX4_copyDiary 16 = .ok (.aload_n 0, 1) := by decide +kernel
theorem dX4_copyDiary_17 : decode cX4_copyDiary 17 = .ok (.iload_n 1, 1) := by decide +kernel
theorem dX4_copyDiary_18 : decode cX4_copyDiary 18 = .ok (.iload 4, 2) := by decide +kernel
theorem dX4_copyDiary_20 : decode cX4_copyDiary 20 = .ok (.iadd, 1) := by decide +kernel
theorem dX4_copyDiary_21 : decode cX4_copyDiary 21 = .ok (.iaload, 1) := by decide +kernel
theorem dX4_copyDiary_22 : decode cX4_copyDiary 22 = .ok (.iastore, 1) := by decide +kernel
theorem dX4_copyDiary_23 : decode cX4_copyDiary 23 = .ok (.iinc 4 1, 3) := by decide +kernel
theorem dX4_copyDiary_26 : decode cX4_copyDiary 26 = .ok (.goto (-23), 3) := by decide +kernel
theorem dX4_copyDiary_29 : decode cX4_copyDiary 29 = .ok (.return_, 1) := by decide +kernel
theorem dX4_isDay_0 : decode cX4_isDay 0 = .ok (.iload_n 0, 1) := by decide +kernel
theorem dX4_isDay_1 : decode cX4_isDay 1 = .ok (.i2l, 1) := by decide +kernel
theorem dX4_isDay_2 : decode cX4_isDay 2 = .ok (.lconst 0, 1) := by decide +kernel
theorem dX4_isDay_3 : decode cX4_isDay 3 = .ok (.ldc2_w 32, 3) := by decide +kernel
theorem dX4_isDay_6 : decode cX4_isDay 6 = .ok (.invokestatic 34, 3) := by decide +kernel
theorem dX4_isDay_9 : decode cX4_isDay 9 = .ok (.ireturn, 1) := by decide +kernel
theorem dX4_isSubject_0 : decode cX4_isSubject 0 = .ok (.iload_n 0, 1) := by decide +kernel
theorem dX4_isSubject_1 : decode cX4_isSubject 1 = .ok (.i2l, 1) := by decide +kernel
theorem dX4_isSubject_2 : decode cX4_isSubject 2 = .ok (.lconst 0, 1) := by decide +kernel
theorem dX4_isSubject_3 : decode cX4_isSubject 3 = .ok (.ldc2_w 38, 3) := by decide +kernel
theorem dX4_isSubject_6 : decode cX4_isSubject 6 = .ok (.invokestatic 34, 3) := by decide +kernel
theorem dX4_isSubject_9 : decode cX4_isSubject 9 = .ok (.ireturn, 1) := by decide +kernel
theorem dX4_isMonth_0 : decode cX4_isMonth 0 = .ok (.iload_n 0, 1) := by decide +kernel
theorem dX4_isMonth_1 : decode cX4_isMonth 1 = .ok (.i2l, 1) := by decide +kernel
theorem dX4_isMonth_2 : decode cX4_isMonth 2 = .ok (.lconst 0, 1) := by decide +kernel
theorem dX4_isMonth_3 : decode cX4_isMonth 3 = .ok (.ldc2_w 40, 3) := by decide +kernel
theorem dX4_isMonth_6 : decode cX4_isMonth 6 = .ok (.invokestatic 34, 3) := by decide +kernel
theorem dX4_isMonth_9 : decode cX4_isMonth 9 = .ok (.ireturn, 1) := by decide +kernel
theorem dX4_monthOf_0 : decode cX4_monthOf 0 = .ok (.iload_n 1, 1) := by decide +kernel
theorem dX4_monthOf_1 : decode cX4_monthOf 1 = .ok (.sipush 365, 3) := by decide +kernel
theorem dX4_monthOf_4 : decode cX4_monthOf 4 = .ok (.idiv, 1) := by decide +kernel
theorem dX4_monthOf_5 : decode cX4_monthOf 5 = .ok (.bipush 12, 2) := by decide +kernel
theorem dX4_monthOf_7 : decode cX4_monthOf 7 = .ok (.imul, 1) := by decide +kernel
theorem dX4_monthOf_8 : decode cX4_monthOf 8 = .ok (.istore_n 2, 1) := by decide +kernel
theorem dX4_monthOf_9 : decode cX4_monthOf 9 = .ok (.aload_n 0, 1) := by decide +kernel
theorem dX4_monthOf_10 : decode cX4_monthOf 10 = .ok (.getfield 29, 3) := by decide +kernel
theorem dX4_monthOf_13 : decode cX4_monthOf 13 = .ok (.iload_n 2, 1) := by decide +kernel
theorem dX4_monthOf_14 : decode cX4_monthOf 14 = .ok (.iconst 1, 1) := by decide +kernel
theorem dX4_monthOf_15 : decode cX4_monthOf 15 = .ok (.iadd, 1) := by decide +kernel
theorem dX4_monthOf_16 : decode cX4_monthOf 16 = .ok (.iaload, 1) := by decide +kernel
theorem dX4_monthOf_17 : decode cX4_monthOf 17 = .ok (.iload_n 1, 1) := by decide +kernel
theorem dX4_monthOf_18 : decode cX4_monthOf 18 = .ok (.if_icmp .gt 9, 3) := by decide +kernel
theorem dX4_monthOf_21 : decode cX4_monthOf 21 = .ok (.iinc 2 1, 3) := by decide +kernel
theorem dX4_monthOf_24 : decode cX4_monthOf 24 = .ok (.goto (-15), 3) := by decide +kernel
theorem dX4_monthOf_27 : decode cX4_monthOf 27 = .ok (.iload_n 2, 1) := by decide +kernel
theorem dX4_monthOf_28 : decode cX4_monthOf 28 = .ok (.ireturn, 1) := by decide +kernel
theorem dX4_daysOf_0 : decode cX4_daysOf 0 = .ok (.aload_n 0, 1) := by decide +kernel
theorem dX4_daysOf_1 : decode cX4_daysOf 1 = .ok (.getfield 29, 3) := by decide +kernel
theorem dX4_daysOf_4 : decode cX4_daysOf 4 = .ok (.iload_n 1, 1) := by decide +kernel
theorem dX4_daysOf_5 : decode cX4_daysOf 5 = .ok (.iconst 1, 1) := by decide +kernel
theorem dX4_daysOf_6 : decode cX4_daysOf 6 = .ok (.iadd, 1) := by decide +kernel
theorem dX4_daysOf_7 : decode cX4_daysOf 7 = .ok (.iaload, 1) := by decide +kernel
theorem dX4_daysOf_8 : decode cX4_daysOf 8 = .ok (.aload_n 0, 1) := by decide +kernel
theorem dX4_daysOf_9 : decode cX4_daysOf 9 = .ok (.getfield 29, 3) := by decide +kernel
theorem dX4_daysOf_12 : decode cX4_daysOf 12 = .ok (.iload_n 1, 1) := by decide +kernel
theorem dX4_daysOf_13 : decode cX4_daysOf 13 = .ok (.iaload, 1) := by decide +kernel
theorem dX4_daysOf_14 : decode cX4_daysOf 14 = .ok (.isub, 1) := by decide +kernel
theorem dX4_daysOf_15 : decode cX4_daysOf 15 = .ok (.ireturn, 1) := by decide +kernel
theorem dX4_isOld_0 : decode cX4_isOld 0 = .ok (.iload_n 2, 1) := by decide +kernel
theorem dX4_isOld_1 : decode cX4_isOld 1 = .ok (.aload_n 1, 1) := by decide +kernel
theorem dX4_isOld_2 : decode cX4_isOld 2 = .ok (.iconst 1, 1) := by decide +kernel
theorem dX4_isOld_3 : decode cX4_isOld 3 = .ok (.iaload, 1) := by decide +kernel
theorem dX4_isOld_4 : decode cX4_isOld 4 = .ok (.iadd, 1) := by decide +kernel
theorem dX4_isOld_5 : decode cX4_isOld 5 = .ok (.aload_n 0, 1) := by decide +kernel
theorem dX4_isOld_6 : decode cX4_isOld 6 = .ok (.aload_n 1, 1) := by decide +kernel
theorem dX4_isOld_7 : decode cX4_isOld 7 = .ok (.iconst 0, 1) := by decide +kernel
theorem dX4_isOld_8 : decode cX4_isOld 8 = .ok (.iaload, 1) := by decide +kernel
theorem dX4_isOld_9 : decode cX4_isOld 9 = .ok (.invokevirtual 42, 3) := by decide +kernel
theorem dX4_isOld_12 : decode cX4_isOld 12 = .ok (.if_icmp .gt 7, 3) := by decide +kernel
theorem dX4_isOld_15 : decode cX4_isOld 15 = .ok (.iconst 1, 1) := by decide +kernel
theorem dX4_isOld_16 : decode cX4_isOld 16 = .ok (.goto 4, 3) := by decide +kernel
theorem dX4_isOld_19 : decode cX4_isOld 19 = .ok (.iconst 0, 1) := by decide +kernel
theorem dX4_isOld_20 : decode cX4_isOld 20 = .ok (.ireturn, 1) := by decide +kernel
theorem dX4_at_0 : decode cX4_at 0 = .ok (.sipush 255, 3) := by decide +kernel
theorem dX4_at_3 : decode cX4_at 3 = .ok (.bipush 16, 2) := by decide +kernel
theorem dX4_at_5 : decode cX4_at 5 = .ok (.iload_n 0, 1) := by decide +kernel
theorem dX4_at_6 : decode cX4_at 6 = .ok (.imul, 1) := by decide +kernel
theorem dX4_at_7 : decode cX4_at 7 = .ok (.iadd, 1) := by decide +kernel
theorem dX4_at_8 : decode cX4_at 8 = .ok (.iload_n 1, 1) := by decide +kernel
theorem dX4_at_9 : decode cX4_at 9 = .ok (.iadd, 1) := by decide +kernel
theorem dX4_at_10 : decode cX4_at 10 = .ok (.ireturn, 1) := by decide +kernel
theorem dX4_ones_0 : decode cX4_ones 0 = .ok (.iconst 0, 1) := by decide +kernel
theorem dX4_ones_1 : decode cX4_ones 1 = .ok (.istore_n 1, 1) := by decide +kernel
theorem dX4_ones_2 : decode cX4_ones 2 = .ok (.iconst 0, 1) := by decide +kernel
theorem dX4_ones_3 : decode cX4_ones 3 = .ok (.istore_n 2, 1) := by decide +kernel
theorem dX4_ones_4 : decode cX4_ones 4 = .ok (.iload_n 2, 1) := by decide +kernel
theorem dX4_ones_5 : decode cX4_ones 5 = .ok (.bipush 31, 2) := by decide +kernel
theorem dX4_ones_7 : decode cX4_ones 7 = .ok (.if_icmp .ge 17, 3) := by decide +kernel
theorem dX4_ones_10 : decode cX4_ones 10 = .ok (.iload_n 1, 1) := by decide +kernel
theorem dX4_ones_11 : decode cX4_ones 11 = .ok (.iload_n 0, 1) := by decide +kernel
theorem dX4_ones_12 : decode cX4_ones 12 = .ok (.iload_n 2, 1) := by decide +kernel
theorem dX4_ones_13 : decode cX4_ones 13 = .ok (.ishr, 1) := by decide +kernel
theorem dX4_ones_14 : decode cX4_ones 14 = .ok (.iconst 1, 1) := by decide +kernel
theorem dX4_ones_15 : decode cX4_ones 15 = .ok (.iand, 1) := by decide +kernel
theorem dX4_ones_16 : decode cX4_ones 16 = .ok (.iadd, 1) := by decide +kernel
theorem dX4_ones_17 : decode cX4_ones 17 = .ok (.istore_n 1, 1) := by decide +kernel
theorem dX4_ones_18 : decode cX4_ones 18 = .ok (.iinc 2 1, 3) := by decide +kernel
theorem dX4_ones_21 : decode cX4_ones 21 = .ok (.goto (-17), 3) := by decide +kernel
theorem dX4_ones_24 : decode cX4_ones 24 = .ok (.iload_n 1, 1) := by decide +kernel
theorem dX4_ones_25 : decode cX4_ones 25 = .ok (.ireturn, 1) := by decide +kernel
theorem dX4_meant_0 : decode cX4_meant 0 = .ok (.iconst 0, 1) := by decide +kernel
theorem dX4_meant_1 : decode cX4_meant 1 = .ok (.istore 4, 2) := by decide +kernel
theorem dX4_meant_3 : decode cX4_meant 3 = .ok (.iconst 0, 1) := by decide +kernel
theorem dX4_meant_4 : decode cX4_meant 4 = .ok (.istore 5, 2) := by decide +kernel
theorem dX4_meant_6 : decode cX4_meant 6 = .ok (.iload 5, 2) := by decide +kernel
theorem dX4_meant_8 : decode cX4_meant 8 = .ok (.aload_n 0, 1) := by decide +kernel
theorem dX4_meant_9 : decode cX4_meant 9 = .ok (.iload_n 1, 1) := by decide +kernel
theorem dX4_meant_10 : decode cX4_meant 10 = .ok (.invokevirtual 46, 3) := by decide +kernel
theorem dX4_meant_13 : decode cX4_meant 13 = .ok (.if_icmp .ge 42, 3) := by decide +kernel
theorem dX4_meant_16 : decode cX4_meant 16 = .ok (.iload 4, 2) := by decide +kernel
theorem dX4_meant_18 : decode cX4_meant 18 = .ok (.aload_n 0, 1) := by decide +kernel
theorem dX4_meant_19 : decode cX4_meant 19 = .ok (.getfield 29, 3) := by decide +kernel
theorem dX4_meant_22 : decode cX4_meant 22 = .ok (.iload_n 1, 1) := by decide +kernel
theorem dX4_meant_23 : decode cX4_meant 23 = .ok (.iaload, 1) := by decide +kernel
theorem dX4_meant_24 : decode cX4_meant 24 = .ok (.iload 5, 2) := by decide +kernel
theorem dX4_meant_26 : decode cX4_meant 26 = .ok (.iadd, 1) := by decide +kernel
theorem dX4_meant_27 : decode cX4_meant 27 = .ok (.i2l, 1) := by decide +kernel
theorem dX4_meant_28 : decode cX4_meant 28 = .ok (.iload_n 2, 1) := by decide +kernel
theorem dX4_meant_29 : decode cX4_meant 29 = .ok (.i2l, 1) := by decide +kernel
theorem dX4_meant_30 : decode cX4_meant 30 = .ok (.iload_n 3, 1) := by decide +kernel
theorem dX4_meant_31 : decode cX4_meant 31 = .ok (.i2l, 1) := by decide +kernel
theorem dX4_meant_32 : decode cX4_meant 32 = .ok (.invokestatic 34, 3) := by decide +kernel
theorem dX4_meant_35 : decode cX4_meant 35 = .ok (.ifCond .eq 10, 3) := by decide +kernel
theorem dX4_meant_38 : decode cX4_meant 38 = .ok (.iconst 1, 1) := by decide +kernel
theorem dX4_meant_39 : decode cX4_meant 39 = .ok (.iload 5, 2) := by decide +kernel
theorem dX4_meant_41 : decode cX4_meant 41 = .ok (.ishl, 1) := by decide +kernel
theorem dX4_meant_42 : decode cX4_meant 42 = .ok (.goto 4, 3) := by decide +kernel
theorem dX4_meant_45 : decode cX4_meant 45 = .ok (.iconst 0, 1) := by decide +kernel
theorem dX4_meant_46 : decode cX4_meant 46 = .ok (.ior, 1) := by decide +kernel
theorem dX4_meant_47 : decode cX4_meant 47 = .ok (.istore 4, 2) := by decide +kernel
theorem dX4_meant_49 : decode cX4_meant 49 = .ok (.iinc 5 1, 3) := by decide +kernel
theorem dX4_meant_52 : decode cX4_meant 52 = .ok (.goto (-46), 3) := by decide +kernel
theorem dX4_meant_55 : decode cX4_meant 55 = .ok (.iload 4, 2) := by decide +kernel
theorem dX4_meant_57 : decode cX4_meant 57 = .ok (.ireturn, 1) := by decide +kernel
theorem dX4_whole_0 : decode cX4_whole 0 = .ok (.aload_n 0, 1) := by decide +kernel
theorem dX4_whole_1 : decode cX4_whole 1 = .ok (.iload_n 1, 1) := by decide +kernel
theorem dX4_whole_2 : decode cX4_whole 2 = .ok (.iconst 0, 1) := by decide +kernel
theorem dX4_whole_3 : decode cX4_whole 3 = .ok (.sipush 3649, 3) := by decide +kernel
theorem dX4_whole_6 : decode cX4_whole 6 = .ok (.invokevirtual 49, 3) := by decide +kernel
theorem dX4_whole_9 : decode cX4_whole 9 = .ok (.ireturn, 1) := by decide +kernel
theorem dX4_marksIn_0 : decode cX4_marksIn 0 = .ok (.iconst 0, 1) := by decide +kernel
theorem dX4_marksIn_1 : decode cX4_marksIn 1 = .ok (.istore_n 2, 1) := by decide +kernel
theorem dX4_marksIn_2 : decode cX4_marksIn 2 = .ok (.iconst 0, 1) := by decide +kernel
theorem dX4_marksIn_3 : decode cX4_marksIn 3 = .ok (.istore_n 3, 1) := by decide +kernel
theorem dX4_marksIn_4 : decode cX4_marksIn 4 = .ok (.iload_n 3, 1) := by decide +kernel
theorem dX4_marksIn_5 : decode cX4_marksIn 5 = .ok (.bipush 16, 2) := by decide +kernel
theorem dX4_marksIn_7 : decode cX4_marksIn 7 = .ok (.if_icmp .ge 22, 3) := by decide +kernel
theorem dX4_marksIn_10 : decode cX4_marksIn 10 = .ok (.iload_n 2, 1) := by decide +kernel
theorem dX4_marksIn_11 : decode cX4_marksIn 11 = .ok (.aload_n 0, 1) := by decide +kernel
theorem dX4_marksIn_12 : decode cX4_marksIn 12 = .ok (.iload_n 1, 1) := by decide +kernel
theorem dX4_marksIn_13 : decode cX4_marksIn 13 = .ok (.iload_n 3, 1) := by decide +kernel
theorem dX4_marksIn_14 : decode cX4_marksIn 14 = .ok (.invokestatic 53, 3) := by decide +kernel
theorem dX4_marksIn_17 : decode cX4_marksIn 17 = .ok (.iaload, 1) := by decide +kernel
theorem dX4_marksIn_18 : decode cX4_marksIn 18 = .ok (.invokestatic 57, 3) := by decide +kernel
theorem dX4_marksIn_21 : decode cX4_marksIn 21 = .ok (.iadd, 1) := by decide +kernel
theorem dX4_marksIn_22 : decode cX4_marksIn 22 = .ok (.istore_n 2, 1) := by decide +kernel
theorem dX4_marksIn_23 : decode cX4_marksIn 23 = .ok (.iinc 3 1, 3) := by decide +kernel
theorem dX4_marksIn_26 : decode cX4_marksIn 26 = .ok (.goto (-22), 3) := by decide +kernel
theorem dX4_marksIn_29 : decode cX4_marksIn 29 = .ok (.iload_n 2, 1) := by decide +kernel
theorem dX4_marksIn_30 : decode cX4_marksIn 30 = .ok (.ireturn, 1) := by decide +kernel
theorem dX4_areAlike_0 : decode cX4_areAlike 0 = .ok (.iconst 1, 1) := by decide +kernel
theorem dX4_areAlike_1 : decode cX4_areAlike 1 = .ok (.istore_n 3, 1) := by decide +kernel
theorem dX4_areAlike_2 : decode cX4_areAlike 2 = .ok (.iconst 0, 1) := by decide +kernel
theorem dX4_areAlike_3 : decode cX4_areAlike 3 = .ok (.istore 4, 2) := by decide +kernel
theorem dX4_areAlike_5 : decode cX4_areAlike 5 = .ok (.iload 4, 2) := by decide +kernel
theorem dX4_areAlike_7 : decode cX4_areAlike 7 = .ok (.bipush 16, 2) := by decide +kernel
theorem dX4_areAlike_9 : decode cX4_areAlike 9 = .ok (.if_icmp .ge 38, 3) := by decide +kernel
theorem dX4_areAlike_12 : decode cX4_areAlike 12 = .ok (.iload_n 3, 1) := by decide +kernel
theorem dX4_areAlike_13 : decode cX4_areAlike 13 = .ok (.ifCond .eq 34, 3) := by decide +kernel
theorem dX4_areAlike_16 : decode cX4_areAlike 16 = .ok (.aload_n 0, 1) := by decide +kernel
theorem dX4_areAlike_17 : decode cX4_areAlike 17 = .ok (.iload_n 1, 1) := by decide +kernel
theorem dX4_areAlike_18 : decode cX4_areAlike 18 = .ok (.iload 4, 2) := by decide +kernel
theorem dX4_areAlike_20 : decode cX4_areAlike 20 = .ok (.invokestatic 53, 3) := by decide +kernel
theorem dX4_areAlike_23 : decode cX4_areAlike 23 = .ok (.iaload, 1) := by decide +kernel
theorem dX4_areAlike_24 : decode cX4_areAlike 24 = .ok (.aload_n 0, 1) := by decide +kernel
theorem dX4_areAlike_25 : decode cX4_areAlike 25 = .ok (.iload_n 2, 1) := by decide +kernel
theorem dX4_areAlike_26 : decode cX4_areAlike 26 = .ok (.iload 4, 2) := by decide +kernel
theorem dX4_areAlike_28 : decode cX4_areAlike 28 = .ok (.invokestatic 53, 3) := by decide +kernel
theorem dX4_areAlike_31 : decode cX4_areAlike 31 = .ok (.iaload, 1) := by decide +kernel
theorem dX4_areAlike_32 : decode cX4_areAlike 32 = .ok (.if_icmp .ne 7, 3) := by decide +kernel
theorem dX4_areAlike_35 : decode cX4_areAlike 35 = .ok (.iconst 1, 1) := by decide +kernel
theorem dX4_areAlike_36 : decode cX4_areAlike 36 = .ok (.goto 4, 3) := by decide +kernel
theorem dX4_areAlike_39 : decode cX4_areAlike 39 = .ok (.iconst 0, 1) := by decide +kernel
theorem dX4_areAlike_40 : decode cX4_areAlike 40 = .ok (.istore_n 3, 1) := by decide +kernel
theorem dX4_areAlike_41 : decode cX4_areAlike 41 = .ok (.iinc 4 1, 3) := by decide +kernel
theorem dX4_areAlike_44 : decode cX4_areAlike 44 = .ok (.goto (-39), 3) := by decide +kernel
theorem dX4_areAlike_47 : decode cX4_areAlike 47 = .ok (.iload_n 3, 1) := by decide +kernel
theorem dX4_areAlike_48 : decode cX4_areAlike 48 = .ok (.ireturn, 1) := by decide +kernel
theorem dX4_twin_0 : decode cX4_twin 0 = .ok (.iconst 0, 1) := by decide +kernel
theorem dX4_twin_1 : decode cX4_twin 1 = .ok (.istore_n 3, 1) := by decide +kernel
theorem dX4_twin_2 : decode cX4_twin 2 = .ok (.iload_n 3, 1) := by decide +kernel
theorem dX4_twin_3 : decode cX4_twin 3 = .ok (.iload_n 1, 1) := by decide +kernel
theorem dX4_twin_4 : decode cX4_twin 4 = .ok (.if_icmp .ge 56, 3) := by decide +kernel
theorem dX4_twin_7 : decode cX4_twin 7 = .ok (.iload_n 3, 1) := by decide +kernel
theorem dX4_twin_8 : decode cX4_twin 8 = .ok (.iload_n 2, 1) := by decide +kernel
theorem dX4_twin_9 : decode cX4_twin 9 = .ok (.if_icmp .eq 26, 3) := by decide +kernel
theorem dX4_twin_12 : decode cX4_twin 12 = .ok (.aload_n 0, 1) := by decide +kernel
theorem dX4_twin_13 : decode cX4_twin 13 = .ok (.bipush 15, 2) := by decide +kernel
theorem dX4_twin_15 : decode cX4_twin 15 = .ok (.iload_n 3, 1) := by decide +kernel
theorem dX4_twin_16 : decode cX4_twin 16 = .ok (.iadd, 1) := by decide +kernel
theorem dX4_twin_17 : decode cX4_twin 17 = .ok (.iaload, 1) := by decide +kernel
theorem dX4_twin_18 : decode cX4_twin 18 = .ok (.ifCond .le 17, 3) := by decide +kernel
theorem dX4_twin_21 : decode cX4_twin 21 = .ok (.aload_n 0, 1) := by decide +kernel
theorem dX4_twin_22 : decode cX4_twin 22 = .ok (.bipush 15, 2) := by decide +kernel
theorem dX4_twin_24 : decode cX4_twin 24 = .ok (.iload_n 3, 1) := by decide +kernel
theorem dX4_twin_25 : decode cX4_twin 25 = .ok (.iadd, 1) := by decide +kernel
theorem dX4_twin_26 : decode cX4_twin 26 = .ok (.iaload, 1) := by decide +kernel
theorem dX4_twin_27 : decode cX4_twin 27 = .ok (.iconst 2, 1) := by decide +kernel
theorem dX4_twin_28 : decode cX4_twin 28 = .ok (.if_icmp .eq 7, 3) := by decide +kernel
theorem dX4_twin_31 : decode cX4_twin 31 = .ok (.iconst 1, 1) := by decide +kernel
theorem dX4_twin_32 : decode cX4_twin 32 = .ok (.goto 4, 3) := by decide +kernel
theorem dX4_twin_35 : decode cX4_twin 35 = .ok (.iconst 0, 1) := by decide +kernel
theorem dX4_twin_36 : decode cX4_twin 36 = .ok (.istore 4, 2) := by decide +kernel
theorem dX4_twin_38 : decode cX4_twin 38 = .ok (.iload 4, 2) := by decide +kernel
theorem dX4_twin_40 : decode cX4_twin 40 = .ok (.ifCond .eq 14, 3) := by decide +kernel
theorem dX4_twin_43 : decode cX4_twin 43 = .ok (.aload_n 0, 1) := by decide +kernel
theorem dX4_twin_44 : decode cX4_twin 44 = .ok (.iload_n 1, 1) := by decide +kernel
theorem dX4_twin_45 : decode cX4_twin 45 = .ok (.iload_n 3, 1) := by decide +kernel
theorem dX4_twin_46 : decode cX4_twin 46 = .ok (.invokestatic 60, 3) := by decide +kernel
theorem dX4_twin_49 : decode cX4_twin 49 = .ok (.ifCond .eq 5, 3) := by decide +kernel
theorem dX4_twin_52 : decode cX4_twin 52 = .ok (.iload_n 3, 1) := by decide +kernel
theorem dX4_twin_53 : decode cX4_twin 53 = .ok (.ireturn, 1) := by decide +kernel
theorem dX4_twin_54 : decode cX4_twin 54 = .ok (.iinc 3 1, 3) := by decide +kernel
theorem dX4_twin_57 : decode cX4_twin 57 = .ok (.goto (-55), 3) := by decide +kernel
theorem dX4_twin_60 : decode cX4_twin 60 = .ok (.bipush (-6), 2) := by decide +kernel
theorem dX4_twin_62 : decode cX4_twin 62 = .ok (.ireturn, 1) := by decide +kernel
theorem dX4_runsIn_0 : decode cX4_runsIn 0 = .ok (.iconst 0, 1) := by decide +kernel
theorem dX4_runsIn_1 : decode cX4_runsIn 1 = .ok (.istore_n 2, 1) := by decide +kernel
theorem dX4_runsIn_2 : decode cX4_runsIn 2 = .ok (.iconst 0, 1) := by decide +kernel
theorem dX4_runsIn_3 : decode cX4_runsIn 3 = .ok (.istore_n 3, 1) := by decide +kernel
theorem dX4_runsIn_4 : decode cX4_runsIn 4 = .ok (.iload_n 3, 1) := by decide +kernel
theorem dX4_runsIn_5 : decode cX4_runsIn 5 = .ok (.bipush 16, 2) := by decide +kernel
theorem dX4_runsIn_7 : decode cX4_runsIn 7 = .ok (.if_icmp .ge 33, 3) := by decide +kernel
theorem dX4_runsIn_10 : decode cX4_runsIn 10 = .ok (.aload_n 0, 1) := by decide +kernel
theorem dX4_runsIn_11 : decode cX4_runsIn 11 = .ok (.iload_n 1, 1) := by decide +kernel
theorem dX4_runsIn_12 : decode cX4_runsIn 12 = .ok (.iload_n 3, 1) := by decide +kernel
theorem dX4_runsIn_13 : decode cX4_runsIn 13 = .ok (.invokestatic 53, 3) := by decide +kernel
theorem dX4_runsIn_16 : decode cX4_runsIn 16 = .ok (.iaload, 1) := by decide +kernel
theorem dX4_runsIn_17 : decode cX4_runsIn 17 = .ok (.istore 4, 2) := by decide +kernel
theorem dX4_runsIn_19 : decode cX4_runsIn 19 = .ok (.iload_n 2, 1) := by decide +kernel
theorem dX4_runsIn_20 : decode cX4_runsIn 20 = .ok (.iload 4, 2) := by decide +kernel
theorem dX4_runsIn_22 : decode cX4_runsIn 22 = .ok (.iload 4, 2) := by decide +kernel
theorem dX4_runsIn_24 : decode cX4_runsIn 24 = .ok (.iconst 1, 1) := by decide +kernel
theorem dX4_runsIn_25 : decode cX4_runsIn 25 = .ok (.ishl, 1) := by decide +kernel
theorem dX4_runsIn_26 : decode cX4_runsIn 26 = .ok (.iconst (-1), 1) := by decide +kernel
theorem dX4_runsIn_27 : decode cX4_runsIn 27 = .ok (.ixor, 1) := by decide +kernel
theorem dX4_runsIn_28 : decode cX4_runsIn 28 = .ok (.iand, 1) := by decide +kernel
theorem dX4_runsIn_29 : decode cX4_runsIn 29 = .ok (.invokestatic 57, 3) := by decide +kernel
theorem dX4_runsIn_32 : decode cX4_runsIn 32 = .ok (.iadd, 1) := by decide +kernel
theorem dX4_runsIn_33 : decode cX4_runsIn 33 = .ok (.istore_n 2, 1) := by decide +kernel
theorem dX4_runsIn_34 : decode cX4_runsIn 34 = .ok (.iinc 3 1, 3) := by decide +kernel
theorem dX4_runsIn_37 : decode cX4_runsIn 37 = .ok (.goto (-33), 3) := by decide +kernel
theorem dX4_runsIn_40 : decode cX4_runsIn 40 = .ok (.iload_n 2, 1) := by decide +kernel
theorem dX4_runsIn_41 : decode cX4_runsIn 41 = .ok (.ireturn, 1) := by decide +kernel
theorem dX4_sizeIn_0 : decode cX4_sizeIn 0 = .ok (.aload_n 0, 1) := by decide +kernel
theorem dX4_sizeIn_1 : decode cX4_sizeIn 1 = .ok (.iload_n 1, 1) := by decide +kernel
theorem dX4_sizeIn_2 : decode cX4_sizeIn 2 = .ok (.invokestatic 64, 3) := by decide +kernel
theorem dX4_sizeIn_5 : decode cX4_sizeIn 5 = .ok (.istore 4, 2) := by decide +kernel
theorem dX4_sizeIn_7 : decode cX4_sizeIn 7 = .ok (.iload_n 2, 1) := by decide +kernel
theorem dX4_sizeIn_8 : decode cX4_sizeIn 8 = .ok (.tableswitch 79 0 3 #[32, 44, 62, 70], 32) := by decide +kernel
theorem dX4_sizeIn_40 : decode cX4_sizeIn 40 = .ok (.iload 4, 2) := by decide +kernel
theorem dX4_sizeIn_42 : decode cX4_sizeIn 42 = .ok (.ifCond .ne 7, 3) := by decide +kernel
theorem dX4_sizeIn_45 : decode cX4_sizeIn 45 = .ok (.iconst 0, 1) := by decide +kernel
theorem dX4_sizeIn_46 : decode cX4_sizeIn 46 = .ok (.goto 5, 3) := by decide +kernel
theorem dX4_sizeIn_49 : decode cX4_sizeIn 49 = .ok (.bipush (-6), 2) := by decide +kernel
theorem dX4_sizeIn_51 : decode cX4_sizeIn 51 = .ok (.ireturn, 1) := by decide +kernel
theorem dX4_sizeIn_52 : decode cX4_sizeIn 52 = .ok (.aload_n 0, 1) := by decide +kernel
theorem dX4_sizeIn_53 : decode cX4_sizeIn 53 = .ok (.iload_n 1, 1) := by decide +kernel
theorem dX4_sizeIn_54 : decode cX4_sizeIn 54 = .ok (.iload_n 3, 1) := by decide +kernel
theorem dX4_sizeIn_55 : decode cX4_sizeIn 55 = .ok (.invokestatic 68, 3) := by decide +kernel
theorem dX4_sizeIn_58 : decode cX4_sizeIn 58 = .ok (.bipush (-6), 2) := by decide +kernel
theorem dX4_sizeIn_60 : decode cX4_sizeIn 60 = .ok (.if_icmp .ne 8, 3) := by decide +kernel
theorem dX4_sizeIn_63 : decode cX4_sizeIn 63 = .ok (.bipush (-6), 2) := by decide +kernel
theorem dX4_sizeIn_65 : decode cX4_sizeIn 65 = .ok (.goto 4, 3) := by decide +kernel
theorem dX4_sizeIn_68 : decode cX4_sizeIn 68 = .ok (.iconst 1, 1) := by decide +kernel
theorem dX4_sizeIn_69 : decode cX4_sizeIn 69 = .ok (.ireturn, 1) := by decide +kernel
theorem dX4_sizeIn_70 : decode cX4_sizeIn 70 = .ok (.iconst 1, 1) := by decide +kernel
theorem dX4_sizeIn_71 : decode cX4_sizeIn 71 = .ok (.aload_n 0, 1) := by decide +kernel
theorem dX4_sizeIn_72 : decode cX4_sizeIn 72 = .ok (.iload_n 1, 1) := by decide +kernel
theorem dX4_sizeIn_73 : decode cX4_sizeIn 73 = .ok (.invokestatic 72, 3) := by decide +kernel
theorem dX4_sizeIn_76 : decode cX4_sizeIn 76 = .ok (.iadd, 1) := by decide +kernel
theorem dX4_sizeIn_77 : decode cX4_sizeIn 77 = .ok (.ireturn, 1) := by decide +kernel
theorem dX4_sizeIn_78 : decode cX4_sizeIn 78 = .ok (.iconst 1, 1) := by decide +kernel
theorem dX4_sizeIn_79 : decode cX4_sizeIn 79 = .ok (.iload 4, 2) := by decide +kernel
theorem dX4_sizeIn_81 : decode cX4_sizeIn 81 = .ok (.iconst 2, 1) := by decide +kernel
theorem dX4_sizeIn_82 : decode cX4_sizeIn 82 = .ok (.iadd, 1) := by decide +kernel
theorem dX4_sizeIn_83 : decode cX4_sizeIn 83 = .ok (.iconst 3, 1) := by decide +kernel
theorem dX4_sizeIn_84 : decode cX4_sizeIn 84 = .ok (.idiv, 1) := by decide +kernel
theorem dX4_sizeIn_85 : decode cX4_sizeIn 85 = .ok (.iadd, 1) := by decide +kernel
theorem dX4_sizeIn_86 : decode cX4_sizeIn 86 = .ok (.ireturn, 1) := by decide +kernel
theorem dX4_sizeIn_87 : decode cX4_sizeIn 87 = .ok (.bipush 16, 2) := by decide +kernel
theorem dX4_sizeIn_89 : decode cX4_sizeIn 89 = .ok (.ireturn, 1) := by decide +kernel
theorem dX4_sizeOf_0 : decode cX4_sizeOf 0 = .ok (.aload_n 0, 1) := by decide +kernel
theorem dX4_sizeOf_1 : decode cX4_sizeOf 1 = .ok (.bipush 15, 2) := by decide +kernel
theorem dX4_sizeOf_3 : decode cX4_sizeOf 3 = .ok (.iload_n 1, 1) := by decide +kernel
theorem dX4_sizeOf_4 : decode cX4_sizeOf 4 = .ok (.iadd, 1) := by decide +kernel
theorem dX4_sizeOf_5 : decode cX4_sizeOf 5 = .ok (.iaload, 1) := by decide +kernel
theorem dX4_sizeOf_6 : decode cX4_sizeOf 6 = .ok (.iconst 1, 1) := by decide +kernel
theorem dX4_sizeOf_7 : decode cX4_sizeOf 7 = .ok (.isub, 1) := by decide +kernel
theorem dX4_sizeOf_8 : decode cX4_sizeOf 8 = .ok (.istore_n 2, 1) := by decide +kernel
theorem dX4_sizeOf_9 : decode cX4_sizeOf 9 = .ok (.iload_n 2, 1) := by decide +kernel
theorem dX4_sizeOf_10 : decode cX4_sizeOf 10 = .ok (.ifCond .ge 8, 3) := by decide +kernel
theorem dX4_sizeOf_13 : decode cX4_sizeOf 13 = .ok (.bipush 16, 2) := by decide +kernel
theorem dX4_sizeOf_15 : decode cX4_sizeOf 15 = .ok (.goto 20, 3) := by decide +kernel
theorem dX4_sizeOf_18 : decode cX4_sizeOf 18 = .ok (.iload_n 2, 1) := by decide +kernel
theorem dX4_sizeOf_19 : decode cX4_sizeOf 19 = .ok (.iconst 1, 1) := by decide +kernel
theorem dX4_sizeOf_20 : decode cX4_sizeOf 20 = .ok (.if_icmp .ne 7, 3) := by decide +kernel
theorem dX4_sizeOf_23 : decode cX4_sizeOf 23 = .ok (.iconst 1, 1) := by decide +kernel
theorem dX4_sizeOf_24 : decode cX4_sizeOf 24 = .ok (.goto 11, 3) := by decide +kernel
theorem dX4_sizeOf_27 : decode cX4_sizeOf 27 = .ok (.aload_n 0, 1) := by decide +kernel
theorem dX4_sizeOf_28 : decode cX4_sizeOf 28 = .ok (.iload_n 1, 1) := by decide +kernel
theorem dX4_sizeOf_29 : decode cX4_sizeOf 29 = .ok (.iload_n 2, 1) := by decide +kernel
theorem dX4_sizeOf_30 : decode cX4_sizeOf 30 = .ok (.bipush (-6), 2) := by decide +kernel
theorem dX4_sizeOf_32 : decode cX4_sizeOf 32 = .ok (.invokestatic 75, 3) := by decide +kernel
theorem dX4_sizeOf_35 : decode cX4_sizeOf 35 = .ok (.ireturn, 1) := by decide +kernel
theorem dX4_fold_0 : decode cX4_fold 0 = .ok (.iconst 4, 1) := by decide +kernel
theorem dX4_fold_1 : decode cX4_fold 1 = .ok (.istore_n 3, 1) := by decide +kernel
theorem dX4_fold_2 : decode cX4_fold 2 = .ok (.iconst 3, 1) := by decide +kernel
theorem dX4_fold_3 : decode cX4_fold 3 = .ok (.istore 4, 2) := by decide +kernel
theorem dX4_fold_5 : decode cX4_fold 5 = .ok (.iload 4, 2) := by decide +kernel
theorem dX4_fold_7 : decode cX4_fold 7 = .ok (.ifCond .lt 45, 3) := by decide +kernel
theorem dX4_fold_10 : decode cX4_fold 10 = .ok (.aload_n 0, 1) := by decide +kernel
theorem dX4_fold_11 : decode cX4_fold 11 = .ok (.iload_n 1, 1) := by decide +kernel
theorem dX4_fold_12 : decode cX4_fold 12 = .ok (.iload 4, 2) := by decide +kernel
theorem dX4_fold_14 : decode cX4_fold 14 = .ok (.iload_n 2, 1) := by decide +kernel
theorem dX4_fold_15 : decode cX4_fold 15 = .ok (.invokestatic 75, 3) := by decide +kernel
theorem dX4_fold_18 : decode cX4_fold 18 = .ok (.istore 5, 2) := by decide +kernel
theorem dX4_fold_20 : decode cX4_fold 20 = .ok (.iload 5, 2) := by decide +kernel
theorem dX4_fold_22 : decode cX4_fold 22 = .ok (.bipush (-6), 2) := by decide +kernel
theorem dX4_fold_24 : decode cX4_fold 24 = .ok (.if_icmp .eq 20, 3) := by decide +kernel
theorem dX4_fold_27 : decode cX4_fold 27 = .ok (.iload 5, 2) := by decide +kernel
theorem dX4_fold_29 : decode cX4_fold 29 = .ok (.aload_n 0, 1) := by decide +kernel
theorem dX4_fold_30 : decode cX4_fold 30 = .ok (.iload_n 1, 1) := by decide +kernel
theorem dX4_fold_31 : decode cX4_fold 31 = .ok (.iload_n 3, 1) := by decide +kernel
theorem dX4_fold_32 : decode cX4_fold 32 = .ok (.iload_n 2, 1) := by decide +kernel
theorem dX4_fold_33 : decode cX4_fold 33 = .ok (.invokestatic 75, 3) := by decide +kernel
theorem dX4_fold_36 : decode cX4_fold 36 = .ok (.if_icmp .gt 8, 3) := by decide +kernel
theorem dX4_fold_39 : decode cX4_fold 39 = .ok (.iload 4, 2) := by decide +kernel
theorem dX4_fold_41 : decode cX4_fold 41 = .ok (.goto 4, 3) := by decide +kernel
theorem dX4_fold_44 : decode cX4_fold 44 = .ok (.iload_n 3, 1) := by decide +kernel
theorem dX4_fold_45 : decode cX4_fold 45 = .ok (.istore_n 3, 1) := by decide +kernel
theorem dX4_fold_46 : decode cX4_fold 46 = .ok (.iinc 4 (-1), 3) := by decide +kernel
theorem dX4_fold_49 : decode cX4_fold 49 = .ok (.goto (-44), 3) := by decide +kernel
theorem dX4_fold_52 : decode cX4_fold 52 = .ok (.aload_n 0, 1) := by decide +kernel
theorem dX4_fold_53 : decode cX4_fold 53 = .ok (.sipush 135, 3) := by decide +kernel
theorem dX4_fold_56 : decode cX4_fold 56 = .ok (.iload_n 1, 1) := by decide +kernel
theorem dX4_fold_57 : decode cX4_fold 57 = .ok (.iadd, 1) := by decide +kernel
theorem dX4_fold_58 : decode cX4_fold 58 = .ok (.iload_n 3, 1) := by decide +kernel
theorem dX4_fold_59 : decode cX4_fold 59 = .ok (.iconst 1, 1) := by decide +kernel
theorem dX4_fold_60 : decode cX4_fold 60 = .ok (.if_icmp .ne 12, 3) := by decide +kernel
theorem dX4_fold_63 : decode cX4_fold 63 = .ok (.aload_n 0, 1) := by decide +kernel
theorem dX4_fold_64 : decode cX4_fold 64 = .ok (.iload_n 1, 1) := by decide +kernel
theorem dX4_fold_65 : decode cX4_fold 65 = .ok (.iload_n 2, 1) := by decide +kernel
theorem dX4_fold_66 : decode cX4_fold 66 = .ok (.invokestatic 68, 3) := by decide +kernel
theorem dX4_fold_69 : decode cX4_fold 69 = .ok (.goto 4, 3) := by decide +kernel
theorem dX4_fold_72 : decode cX4_fold 72 = .ok (.iconst 0, 1) := by decide +kernel
theorem dX4_fold_73 : decode cX4_fold 73 = .ok (.iastore, 1) := by decide +kernel
theorem dX4_fold_74 : decode cX4_fold 74 = .ok (.aload_n 0, 1) := by decide +kernel
theorem dX4_fold_75 : decode cX4_fold 75 = .ok (.bipush 15, 2) := by decide +kernel
theorem dX4_fold_77 : decode cX4_fold 77 = .ok (.iload_n 1, 1) := by decide +kernel
theorem dX4_fold_78 : decode cX4_fold 78 = .ok (.iadd, 1) := by decide +kernel
theorem dX4_fold_79 : decode cX4_fold 79 = .ok (.iload_n 3, 1) := by decide +kernel
theorem dX4_fold_80 : decode cX4_fold 80 = .ok (.iconst 1, 1) := by decide +kernel
theorem dX4_fold_81 : decode cX4_fold 81 = .ok (.iadd, 1) := by decide +kernel
theorem dX4_fold_82 : decode cX4_fold 82 = .ok (.iastore, 1) := by decide +kernel
theorem dX4_fold_83 : decode cX4_fold 83 = .ok (.aload_n 0, 1) := by decide +kernel
theorem dX4_fold_84 : decode cX4_fold 84 = .ok (.iconst 3, 1) := by decide +kernel
theorem dX4_fold_85 : decode cX4_fold 85 = .ok (.dup2, 1) := by decide +kernel
theorem dX4_fold_86 : decode cX4_fold 86 = .ok (.iaload, 1) := by decide +kernel
theorem dX4_fold_87 : decode cX4_fold 87 = .ok (.aload_n 0, 1) := by decide +kernel
theorem dX4_fold_88 : decode cX4_fold 88 = .ok (.iload_n 1, 1) := by decide +kernel
theorem dX4_fold_89 : decode cX4_fold 89 = .ok (.invokestatic 79, 3) := by decide +kernel
theorem dX4_fold_92 : decode cX4_fold 92 = .ok (.iadd, 1) := by decide +kernel
theorem dX4_fold_93 : decode cX4_fold 93 = .ok (.iastore, 1) := by decide +kernel
theorem dX4_fold_94 : decode cX4_fold 94 = .ok (.aload_n 0, 1) := by decide +kernel
theorem dX4_fold_95 : decode cX4_fold 95 = .ok (.iconst 5, 1) := by decide +kernel
theorem dX4_fold_96 : decode cX4_fold 96 = .ok (.dup2, 1) := by decide +kernel
theorem dX4_fold_97 : decode cX4_fold 97 = .ok (.iaload, 1) := by decide +kernel
theorem dX4_fold_98 : decode cX4_fold 98 = .ok (.iconst 1, 1) := by decide +kernel
theorem dX4_fold_99 : decode cX4_fold 99 = .ok (.iadd, 1) := by decide +kernel
theorem dX4_fold_100 : decode cX4_fold 100 = .ok (.iastore, 1) := by decide +kernel
theorem dX4_fold_101 : decode cX4_fold 101 = .ok (.return_, 1) := by decide +kernel
theorem dX4_placeOf_0 : decode cX4_placeOf 0 = .ok (.iconst 0, 1) := by decide +kernel
theorem dX4_placeOf_1 : decode cX4_placeOf 1 = .ok (.istore_n 2, 1) := by decide +kernel
theorem dX4_placeOf_2 : decode cX4_placeOf 2 = .ok (.iload_n 2, 1) := by decide +kernel
theorem dX4_placeOf_3 : decode cX4_placeOf 3 = .ok (.aload_n 0, 1) := by decide +kernel
theorem dX4_placeOf_4 : decode cX4_placeOf 4 = .ok (.bipush 6, 2) := by decide +kernel
theorem dX4_placeOf_6 : decode cX4_placeOf 6 = .ok (.iaload, 1) := by decide +kernel
theorem dX4_placeOf_7 : decode cX4_placeOf 7 = .ok (.if_icmp .ge 21, 3) := by decide +kernel
theorem dX4_placeOf_10 : decode cX4_placeOf 10 = .ok (.aload_n 0, 1) := by decide +kernel
theorem dX4_placeOf_11 : decode cX4_placeOf 11 = .ok (.bipush 7, 2) := by decide +kernel
theorem dX4_placeOf_13 : decode cX4_placeOf 13 = .ok (.iload_n 2, 1) := by decide +kernel
theorem dX4_placeOf_14 : decode cX4_placeOf 14 = .ok (.iadd, 1) := by decide +kernel
theorem dX4_placeOf_15 : decode cX4_placeOf 15 = .ok (.iaload, 1) := by decide +kernel
theorem dX4_placeOf_16 : decode cX4_placeOf 16 = .ok (.iload_n 1, 1) := by decide +kernel
theorem dX4_placeOf_17 : decode cX4_placeOf 17 = .ok (.if_icmp .ne 5, 3) := by decide +kernel
theorem dX4_placeOf_20 : decode cX4_placeOf 20 = .ok (.iload_n 2, 1) := by decide +kernel
theorem dX4_placeOf_21 : decode cX4_placeOf 21 = .ok (.ireturn, 1) := by decide +kernel
theorem dX4_placeOf_22 : decode cX4_placeOf 22 = .ok (.iinc 2 1, 3) := by decide +kernel
theorem dX4_placeOf_25 : decode cX4_placeOf 25 = .ok (.goto (-23), 3) := by decide +kernel
theorem dX4_placeOf_28 : decode cX4_placeOf 28 = .ok (.bipush (-6), 2) := by decide +kernel
theorem dX4_placeOf_30 : decode cX4_placeOf 30 = .ok (.ireturn, 1) := by decide +kernel
theorem dX4_takeOut_0 : decode cX4_takeOut 0 = .ok (.aload_n 0, 1) := by decide +kernel
theorem dX4_takeOut_1 : decode cX4_takeOut 1 = .ok (.bipush 6, 2) := by decide +kernel
theorem dX4_takeOut_3 : decode cX4_takeOut 3 = .ok (.dup2, 1) := by decide +kernel
theorem dX4_takeOut_4 : decode cX4_takeOut 4 = .ok (.iaload, 1) := by decide +kernel
theorem dX4_takeOut_5 : decode cX4_takeOut 5 = .ok (.iconst 1, 1) := by decide +kernel
theorem dX4_takeOut_6 : decode cX4_takeOut 6 = .ok (.isub, 1) := by decide +kernel
theorem dX4_takeOut_7 : decode cX4_takeOut 7 = .ok (.iastore, 1) := by decide +kernel
theorem dX4_takeOut_8 : decode cX4_takeOut 8 = .ok (.iload_n 1, 1) := by decide +kernel
theorem dX4_takeOut_9 : decode cX4_takeOut 9 = .ok (.istore_n 2, 1) := by decide +kernel
theorem dX4_takeOut_10 : decode cX4_takeOut 10 = .ok (.iload_n 2, 1) := by decide +kernel
theorem dX4_takeOut_11 : decode cX4_takeOut 11 = .ok (.aload_n 0, 1) := by decide +kernel
theorem dX4_takeOut_12 : decode cX4_takeOut 12 = .ok (.bipush 6, 2) := by decide +kernel
theorem dX4_takeOut_14 : decode cX4_takeOut 14 = .ok (.iaload, 1) := by decide +kernel
theorem dX4_takeOut_15 : decode cX4_takeOut 15 = .ok (.if_icmp .ge 23, 3) := by decide +kernel
theorem dX4_takeOut_18 : decode cX4_takeOut 18 = .ok (.aload_n 0, 1) := by decide +kernel
theorem dX4_takeOut_19 : decode cX4_takeOut 19 = .ok (.bipush 7, 2) := by decide +kernel
theorem dX4_takeOut_21 : decode cX4_takeOut 21 = .ok (.iload_n 2, 1) := by decide +kernel
theorem dX4_takeOut_22 : decode cX4_takeOut 22 = .ok (.iadd, 1) := by decide +kernel
theorem dX4_takeOut_23 : decode cX4_takeOut 23 = .ok (.aload_n 0, 1) := by decide +kernel
theorem dX4_takeOut_24 : decode cX4_takeOut 24 = .ok (.bipush 7, 2) := by decide +kernel
theorem dX4_takeOut_26 : decode cX4_takeOut 26 = .ok (.iload_n 2, 1) := by decide +kernel
theorem dX4_takeOut_27 : decode cX4_takeOut 27 = .ok (.iadd, 1) := by decide +kernel
theorem dX4_takeOut_28 : decode cX4_takeOut 28 = .ok (.iconst 1, 1) := by decide +kernel
theorem dX4_takeOut_29 : decode cX4_takeOut 29 = .ok (.iadd, 1) := by decide +kernel
theorem dX4_takeOut_30 : decode cX4_takeOut 30 = .ok (.iaload, 1) := by decide +kernel
theorem dX4_takeOut_31 : decode cX4_takeOut 31 = .ok (.iastore, 1) := by decide +kernel
theorem dX4_takeOut_32 : decode cX4_takeOut 32 = .ok (.iinc 2 1, 3) := by decide +kernel
theorem dX4_takeOut_35 : decode cX4_takeOut 35 = .ok (.goto (-25), 3) := by decide +kernel
theorem dX4_takeOut_38 : decode cX4_takeOut 38 = .ok (.return_, 1) := by decide +kernel
theorem dX4_foldAgain_0 : decode cX4_foldAgain 0 = .ok (.aload_n 0, 1) := by decide +kernel
theorem dX4_foldAgain_1 : decode cX4_foldAgain 1 = .ok (.bipush 6, 2) := by decide +kernel
theorem dX4_foldAgain_3 : decode cX4_foldAgain 3 = .ok (.iaload, 1) := by decide +kernel
theorem dX4_foldAgain_4 : decode cX4_foldAgain 4 = .ok (.aload_n 0, 1) := by decide +kernel
theorem dX4_foldAgain_5 : decode cX4_foldAgain 5 = .ok (.iconst 2, 1) := by decide +kernel
theorem dX4_foldAgain_6 : decode cX4_foldAgain 6 = .ok (.iaload, 1) := by decide +kernel
theorem dX4_foldAgain_7 : decode cX4_foldAgain 7 = .ok (.if_icmp .le 23, 3) := by decide +kernel
theorem dX4_foldAgain_10 : decode cX4_foldAgain 10 = .ok (.aload_n 0, 1) := by decide +kernel
theorem dX4_foldAgain_11 : decode cX4_foldAgain 11 = .ok (.bipush 7, 2) := by decide +kernel
theorem dX4_foldAgain_13 : decode cX4_foldAgain 13 = .ok (.iaload, 1) := by decide +kernel
theorem dX4_foldAgain_14 : decode cX4_foldAgain 14 = .ok (.istore_n 1, 1) := by decide +kernel
theorem dX4_foldAgain_15 : decode cX4_foldAgain 15 = .ok (.aload_n 0, 1) := by decide +kernel
theorem dX4_foldAgain_16 : decode cX4_foldAgain 16 = .ok (.iconst 0, 1) := by decide +kernel
theorem dX4_foldAgain_17 : decode cX4_foldAgain 17 = .ok (.invokestatic 82, 3) := by decide +kernel
theorem dX4_foldAgain_20 : decode cX4_foldAgain 20 = .ok (.aload_n 0, 1) := by decide +kernel
theorem dX4_foldAgain_21 : decode cX4_foldAgain 21 = .ok (.iload_n 1, 1) := by decide +kernel
theorem dX4_foldAgain_22 : decode cX4_foldAgain 22 = .ok (.bipush (-6), 2) := by decide +kernel
theorem dX4_foldAgain_24 : decode cX4_foldAgain 24 = .ok (.invokestatic 86, 3) := by decide +kernel
theorem dX4_foldAgain_27 : decode cX4_foldAgain 27 = .ok (.goto (-27), 3) := by decide +kernel
theorem dX4_foldAgain_30 : decode cX4_foldAgain 30 = .ok (.return_, 1) := by decide +kernel
theorem dX4_unfold_0 : decode cX4_unfold 0 = .ok (.aload_n 0, 1) := by decide +kernel
theorem dX4_unfold_1 : decode cX4_unfold 1 = .ok (.iconst 3, 1) := by decide +kernel
theorem dX4_unfold_2 : decode cX4_unfold 2 = .ok (.dup2, 1) := by decide +kernel
theorem dX4_unfold_3 : decode cX4_unfold 3 = .ok (.iaload, 1) := by decide +kernel
theorem dX4_unfold_4 : decode cX4_unfold 4 = .ok (.aload_n 0, 1) := by decide +kernel
theorem dX4_unfold_5 : decode cX4_unfold 5 = .ok (.iload_n 1, 1) := by decide +kernel
theorem dX4_unfold_6 : decode cX4_unfold 6 = .ok (.invokestatic 79, 3) := by decide +kernel
theorem dX4_unfold_9 : decode cX4_unfold 9 = .ok (.iadd, 1) := by decide +kernel
theorem dX4_unfold_10 : decode cX4_unfold 10 = .ok (.iastore, 1) := by decide +kernel
theorem dX4_unfold_11 : decode cX4_unfold 11 = .ok (.aload_n 0, 1) := by decide +kernel
theorem dX4_unfold_12 : decode cX4_unfold 12 = .ok (.iconst 4, 1) := by decide +kernel
theorem dX4_unfold_13 : decode cX4_unfold 13 = .ok (.dup2, 1) := by decide +kernel
theorem dX4_unfold_14 : decode cX4_unfold 14 = .ok (.iaload, 1) := by decide +kernel
theorem dX4_unfold_15 : decode cX4_unfold 15 = .ok (.iconst 1, 1) := by decide +kernel
theorem dX4_unfold_16 : decode cX4_unfold 16 = .ok (.iadd, 1) := by decide +kernel
theorem dX4_unfold_17 : decode cX4_unfold 17 = .ok (.iastore, 1) := by decide +kernel
theorem dX4_unfold_18 : decode cX4_unfold 18 = .ok (.aload_n 0, 1) := by decide +kernel
theorem dX4_unfold_19 : decode cX4_unfold 19 = .ok (.bipush 15, 2) := by decide +kernel
theorem dX4_unfold_21 : decode cX4_unfold 21 = .ok (.iload_n 1, 1) := by decide +kernel
theorem dX4_unfold_22 : decode cX4_unfold 22 = .ok (.iadd, 1) := by decide +kernel
theorem dX4_unfold_23 : decode cX4_unfold 23 = .ok (.iconst 0, 1) := by decide +kernel
theorem dX4_unfold_24 : decode cX4_unfold 24 = .ok (.iastore, 1) := by decide +kernel
theorem dX4_unfold_25 : decode cX4_unfold 25 = .ok (.return_, 1) := by decide +kernel
theorem dX4_toEnd_0 : decode cX4_toEnd 0 = .ok (.aload_n 0, 1) := by decide +kernel
theorem dX4_toEnd_1 : decode cX4_toEnd 1 = .ok (.iload_n 1, 1) := by decide +kernel
theorem dX4_toEnd_2 : decode cX4_toEnd 2 = .ok (.invokestatic 90, 3) := by decide +kernel
theorem dX4_toEnd_5 : decode cX4_toEnd 5 = .ok (.istore_n 2, 1) := by decide +kernel
theorem dX4_toEnd_6 : decode cX4_toEnd 6 = .ok (.iload_n 2, 1) := by decide +kernel
theorem dX4_toEnd_7 : decode cX4_toEnd 7 = .ok (.bipush (-6), 2) := by decide +kernel
theorem dX4_toEnd_9 : decode cX4_toEnd 9 = .ok (.if_icmp .eq 8, 3) := by decide +kernel
theorem dX4_toEnd_12 : decode cX4_toEnd 12 = .ok (.aload_n 0, 1) := by decide +kernel
theorem dX4_toEnd_13 : decode cX4_toEnd 13 = .ok (.iload_n 2, 1) := by decide +kernel
theorem dX4_toEnd_14 : decode cX4_toEnd 14 = .ok (.invokestatic 82, 3) := by decide +kernel
theorem dX4_toEnd_17 : decode cX4_toEnd 17 = .ok (.aload_n 0, 1) := by decide +kernel
theorem dX4_toEnd_18 : decode cX4_toEnd 18 = .ok (.bipush 7, 2) := by decide +kernel
theorem dX4_toEnd_20 : decode cX4_toEnd 20 = .ok (.aload_n 0, 1) := by decide +kernel
theorem dX4_toEnd_21 : decode cX4_toEnd 21 = .ok (.bipush 6, 2) := by decide +kernel
theorem dX4_toEnd_23 : decode cX4_toEnd 23 = .ok (.iaload, 1) := by decide +kernel
theorem dX4_toEnd_24 : decode cX4_toEnd 24 = .ok (.iadd, 1) := by decide +kernel
theorem dX4_toEnd_25 : decode cX4_toEnd 25 = .ok (.iload_n 1, 1) := by decide +kernel
theorem dX4_toEnd_26 : decode cX4_toEnd 26 = .ok (.iastore, 1) := by decide +kernel
theorem dX4_toEnd_27 : decode cX4_toEnd 27 = .ok (.aload_n 0, 1) := by decide +kernel
theorem dX4_toEnd_28 : decode cX4_toEnd 28 = .ok (.bipush 6, 2) := by decide +kernel
theorem dX4_toEnd_30 : decode cX4_toEnd 30 = .ok (.dup2, 1) := by decide +kernel
theorem dX4_toEnd_31 : decode cX4_toEnd 31 = .ok (.iaload, 1) := by decide +kernel
theorem dX4_toEnd_32 : decode cX4_toEnd 32 = .ok (.iconst 1, 1) := by decide +kernel
theorem dX4_toEnd_33 : decode cX4_toEnd 33 = .ok (.iadd, 1) := by decide +kernel
theorem dX4_toEnd_34 : decode cX4_toEnd 34 = .ok (.iastore, 1) := by decide +kernel
theorem dX4_toEnd_35 : decode cX4_toEnd 35 = .ok (.return_, 1) := by decide +kernel
theorem dX4_look_0 : decode cX4_look 0 = .ok (.aload_n 0, 1) := by decide +kernel
theorem dX4_look_1 : decode cX4_look 1 = .ok (.aload_n 1, 1) := by decide +kernel
theorem dX4_look_2 : decode cX4_look 2 = .ok (.iload_n 2, 1) := by decide +kernel
theorem dX4_look_3 : decode cX4_look 3 = .ok (.invokevirtual 93, 3) := by decide +kernel
theorem dX4_look_6 : decode cX4_look 6 = .ok (.ifCond .eq 13, 3) := by decide +kernel
theorem dX4_look_9 : decode cX4_look 9 = .ok (.aload_n 1, 1) := by decide +kernel
theorem dX4_look_10 : decode cX4_look 10 = .ok (.bipush 15, 2) := by decide +kernel
theorem dX4_look_12 : decode cX4_look 12 = .ok (.iload_n 2, 1) := by decide +kernel
theorem dX4_look_13 : decode cX4_look 13 = .ok (.iadd, 1) := by decide +kernel
theorem dX4_look_14 : decode cX4_look 14 = .ok (.iaload, 1) := by decide +kernel
theorem dX4_look_15 : decode cX4_look 15 = .ok (.iconst 1, 1) := by decide +kernel
theorem dX4_look_16 : decode cX4_look 16 = .ok (.if_icmp .ne 4, 3) := by decide +kernel
theorem dX4_look_19 : decode cX4_look 19 = .ok (.return_, 1) := by decide +kernel
theorem dX4_look_20 : decode cX4_look 20 = .ok (.aload_n 1, 1) := by decide +kernel
theorem dX4_look_21 : decode cX4_look 21 = .ok (.bipush 15, 2) := by decide +kernel
theorem dX4_look_23 : decode cX4_look 23 = .ok (.iload_n 2, 1) := by decide +kernel
theorem dX4_look_24 : decode cX4_look 24 = .ok (.iadd, 1) := by decide +kernel
theorem dX4_look_25 : decode cX4_look 25 = .ok (.iaload, 1) := by decide +kernel
theorem dX4_look_26 : decode cX4_look 26 = .ok (.ifCond .le 8, 3) := by decide +kernel
theorem dX4_look_29 : decode cX4_look 29 = .ok (.aload_n 1, 1) := by decide +kernel
theorem dX4_look_30 : decode cX4_look 30 = .ok (.iload_n 2, 1) := by decide +kernel
theorem dX4_look_31 : decode cX4_look 31 = .ok (.invokestatic 97, 3) := by decide +kernel
theorem dX4_look_34 : decode cX4_look 34 = .ok (.aload_n 1, 1) := by decide +kernel
theorem dX4_look_35 : decode cX4_look 35 = .ok (.iload_n 2, 1) := by decide +kernel
theorem dX4_look_36 : decode cX4_look 36 = .ok (.invokestatic 100, 3) := by decide +kernel
theorem dX4_look_39 : decode cX4_look 39 = .ok (.aload_n 1, 1) := by decide +kernel
theorem dX4_look_40 : decode cX4_look 40 = .ok (.invokestatic 103, 3) := by decide +kernel
theorem dX4_look_43 : decode cX4_look 43 = .ok (.return_, 1) := by decide +kernel
theorem dX4_lay_0 : decode cX4_lay 0 = .ok (.aload_n 0, 1) := by decide +kernel
theorem dX4_lay_1 : decode cX4_lay 1 = .ok (.aload_n 1, 1) := by decide +kernel
theorem dX4_lay_2 : decode cX4_lay 2 = .ok (.iload_n 3, 1) := by decide +kernel
theorem dX4_lay_3 : decode cX4_lay 3 = .ok (.invokevirtual 93, 3) := by decide +kernel
theorem dX4_lay_6 : decode cX4_lay 6 = .ok (.istore 6, 2) := by decide +kernel
theorem dX4_lay_8 : decode cX4_lay 8 = .ok (.iconst 0, 1) := by decide +kernel
theorem dX4_lay_9 : decode cX4_lay 9 = .ok (.istore 7, 2) := by decide +kernel
theorem dX4_lay_11 : decode cX4_lay 11 = .ok (.iload 7, 2) := by decide +kernel
theorem dX4_lay_13 : decode cX4_lay 13 = .ok (.bipush 120, 2) := by decide +kernel
theorem dX4_lay_15 : decode cX4_lay 15 = .ok (.if_icmp .ge 44, 3) := by decide +kernel
theorem dX4_lay_18 : decode cX4_lay 18 = .ok (.iload 6, 2) := by decide +kernel
theorem dX4_lay_20 : decode cX4_lay 20 = .ok (.ifCond .eq 39, 3) := by decide +kernel
theorem dX4_lay_23 : decode cX4_lay 23 = .ok (.aload_n 1, 1) := by decide +kernel
theorem dX4_lay_24 : decode cX4_lay 24 = .ok (.bipush 15, 2) := by decide +kernel
theorem dX4_lay_26 : decode cX4_lay 26 = .ok (.iload 7, 2) := by decide +kernel
theorem dX4_lay_28 : decode cX4_lay 28 = .ok (.iadd, 1) := by decide +kernel
theorem dX4_lay_29 : decode cX4_lay 29 = .ok (.iaload, 1) := by decide +kernel
theorem dX4_lay_30 : decode cX4_lay 30 = .ok (.iconst 2, 1) := by decide +kernel
theorem dX4_lay_31 : decode cX4_lay 31 = .ok (.if_icmp .ne 22, 3) := by decide +kernel
theorem dX4_lay_34 : decode cX4_lay 34 = .ok (.aload_n 1, 1) := by decide +kernel
theorem dX4_lay_35 : decode cX4_lay 35 = .ok (.sipush 135, 3) := by decide +kernel
theorem dX4_lay_38 : decode cX4_lay 38 = .ok (.iload 7, 2) := by decide +kernel
theorem dX4_lay_40 : decode cX4_lay 40 = .ok (.iadd, 1) := by decide +kernel
theorem dX4_lay_41 : decode cX4_lay 41 = .ok (.iaload, 1) := by decide +kernel
theorem dX4_lay_42 : decode cX4_lay 42 = .ok (.iload_n 3, 1) := by decide +kernel
theorem dX4_lay_43 : decode cX4_lay 43 = .ok (.if_icmp .ne 10, 3) := by decide +kernel
theorem dX4_lay_46 : decode cX4_lay 46 = .ok (.aload_n 1, 1) := by decide +kernel
theorem dX4_lay_47 : decode cX4_lay 47 = .ok (.iload 7, 2) := by decide +kernel
theorem dX4_lay_49 : decode cX4_lay 49 = .ok (.iload_n 3, 1) := by decide +kernel
theorem dX4_lay_50 : decode cX4_lay 50 = .ok (.invokestatic 86, 3) := by decide +kernel
theorem dX4_lay_53 : decode cX4_lay 53 = .ok (.iinc 7 1, 3) := by decide +kernel
theorem dX4_lay_56 : decode cX4_lay 56 = .ok (.goto (-45), 3) := by decide +kernel
theorem dX4_lay_59 : decode cX4_lay 59 = .ok (.iload 6, 2) := by decide +kernel
theorem dX4_lay_61 : decode cX4_lay 61 = .ok (.ifCond .eq 17, 3) := by decide +kernel
theorem dX4_lay_64 : decode cX4_lay 64 = .ok (.aload_n 1, 1) := by decide +kernel
theorem dX4_lay_65 : decode cX4_lay 65 = .ok (.bipush 15, 2) := by decide +kernel
theorem dX4_lay_67 : decode cX4_lay 67 = .ok (.iload_n 3, 1) := by decide +kernel
theorem dX4_lay_68 : decode cX4_lay 68 = .ok (.iadd, 1) := by decide +kernel
theorem dX4_lay_69 : decode cX4_lay 69 = .ok (.iaload, 1) := by decide +kernel
theorem dX4_lay_70 : decode cX4_lay 70 = .ok (.ifCond .le 8, 3) := by decide +kernel
theorem dX4_lay_73 : decode cX4_lay 73 = .ok (.aload_n 1, 1) := by decide +kernel
theorem dX4_lay_74 : decode cX4_lay 74 = .ok (.iload_n 3, 1) := by decide +kernel
theorem dX4_lay_75 : decode cX4_lay 75 = .ok (.invokestatic 97, 3) := by decide +kernel
theorem dX4_lay_78 : decode cX4_lay 78 = .ok (.aload_n 1, 1) := by decide +kernel
theorem dX4_lay_79 : decode cX4_lay 79 = .ok (.iload_n 3, 1) := by decide +kernel
theorem dX4_lay_80 : decode cX4_lay 80 = .ok (.iload_n 2, 1) := by decide +kernel
theorem dX4_lay_81 : decode cX4_lay 81 = .ok (.invokestatic 53, 3) := by decide +kernel
theorem dX4_lay_84 : decode cX4_lay 84 = .ok (.iload 5, 2) := by decide +kernel
theorem dX4_lay_86 : decode cX4_lay 86 = .ok (.ifCond .eq 16, 3) := by decide +kernel
theorem dX4_lay_89 : decode cX4_lay 89 = .ok (.aload_n 1, 1) := by decide +kernel
theorem dX4_lay_90 : decode cX4_lay 90 = .ok (.iload_n 3, 1) := by decide +kernel
theorem dX4_lay_91 : decode cX4_lay 91 = .ok (.iload_n 2, 1) := by decide +kernel
theorem dX4_lay_92 : decode cX4_lay 92 = .ok (.invokestatic 53, 3) := by decide +kernel
theorem dX4_lay_95 : decode cX4_lay 95 = .ok (.iaload, 1) := by decide +kernel
theorem dX4_lay_96 : decode cX4_lay 96 = .ok (.iload 4, 2) := by decide +kernel
theorem dX4_lay_98 : decode cX4_lay 98 = .ok (.ior, 1) := by decide +kernel
theorem dX4_lay_99 : decode cX4_lay 99 = .ok (.goto 15, 3) := by decide +kernel
theorem dX4_lay_102 : decode cX4_lay 102 = .ok (.aload_n 1, 1) := by decide +kernel
theorem dX4_lay_103 : decode cX4_lay 103 = .ok (.iload_n 3, 1) := by decide +kernel
theorem dX4_lay_104 : decode cX4_lay 104 = .ok (.iload_n 2, 1) := by decide +kernel
theorem dX4_lay_105 : decode cX4_lay 105 = .ok (.invokestatic 53, 3) := by decide +kernel
theorem dX4_lay_108 : decode cX4_lay 108 = .ok (.iaload, 1) := by decide +kernel
theorem dX4_lay_109 : decode cX4_lay 109 = .ok (.iload 4, 2) := by decide +kernel
theorem dX4_lay_111 : decode cX4_lay 111 = .ok (.iconst (-1), 1) := by decide +kernel
theorem dX4_lay_112 : decode cX4_lay 112 = .ok (.ixor, 1) := by decide +kernel
theorem dX4_lay_113 : decode cX4_lay 113 = .ok (.iand, 1) := by decide +kernel
theorem dX4_lay_114 : decode cX4_lay 114 = .ok (.iastore, 1) := by decide +kernel
theorem dX4_lay_115 : decode cX4_lay 115 = .ok (.iload 6, 2) := by decide +kernel
theorem dX4_lay_117 : decode cX4_lay 117 = .ok (.ifCond .eq 12, 3) := by decide +kernel
theorem dX4_lay_120 : decode cX4_lay 120 = .ok (.aload_n 1, 1) := by decide +kernel
theorem dX4_lay_121 : decode cX4_lay 121 = .ok (.iload_n 3, 1) := by decide +kernel
theorem dX4_lay_122 : decode cX4_lay 122 = .ok (.invokestatic 100, 3) := by decide +kernel
theorem dX4_lay_125 : decode cX4_lay 125 = .ok (.aload_n 1, 1) := by decide +kernel
theorem dX4_lay_126 : decode cX4_lay 126 = .ok (.invokestatic 103, 3) := by decide +kernel
theorem dX4_lay_129 : decode cX4_lay 129 = .ok (.return_, 1) := by decide +kernel
theorem dX4_record_0 : decode cX4_record 0 = .ok (.aload_n 0, 1) := by decide +kernel
theorem dX4_record_1 : decode cX4_record 1 = .ok (.getfield 107, 3) := by decide +kernel
theorem dX4_record_4 : decode cX4_record 4 = .ok (.bipush 6, 2) := by decide +kernel
theorem dX4_record_6 : decode cX4_record 6 = .ok (.if_icmp .ne 44, 3) := by decide +kernel
theorem dX4_record_9 : decode cX4_record 9 = .ok (.iconst 0, 1) := by decide +kernel
theorem dX4_record_10 : decode cX4_record 10 = .ok (.istore_n 1, 1) := by decide +kernel
theorem dX4_record_11 : decode cX4_record 11 = .ok (.iload_n 1, 1) := by decide +kernel
theorem dX4_record_12 : decode cX4_record 12 = .ok (.sipush 10875, 3) := by decide +kernel
theorem dX4_record_15 : decode cX4_record 15 = .ok (.if_icmp .ge 25, 3) := by decide +kernel
theorem dX4_record_18 : decode cX4_record 18 = .ok (.aload_n 0, 1) := by decide +kernel
theorem dX4_record_19 : decode cX4_record 19 = .ok (.getfield 16, 3) := by decide +kernel
theorem dX4_record_22 : decode cX4_record 22 = .ok (.iload_n 1, 1) := by decide +kernel
theorem dX4_record_23 : decode cX4_record 23 = .ok (.aload_n 0, 1) := by decide +kernel
theorem dX4_record_24 : decode cX4_record 24 = .ok (.getfield 16, 3) := by decide +kernel
theorem dX4_record_27 : decode cX4_record 27 = .ok (.iload_n 1, 1) := by decide +kernel
theorem dX4_record_28 : decode cX4_record 28 = .ok (.sipush 2175, 3) := by decide +kernel
theorem dX4_record_31 : decode cX4_record 31 = .ok (.iadd, 1) := by decide +kernel
theorem dX4_record_32 : decode cX4_record 32 = .ok (.iaload, 1) := by decide +kernel
theorem dX4_record_33 : decode cX4_record 33 = .ok (.iastore, 1) := by decide +kernel
theorem dX4_record_34 : decode cX4_record 34 = .ok (.iinc 1 1, 3) := by decide +kernel
theorem dX4_record_37 : decode cX4_record 37 = .ok (.goto (-26), 3) := by decide +kernel
theorem dX4_record_40 : decode cX4_record 40 = .ok (.aload_n 0, 1) := by decide +kernel
theorem dX4_record_41 : decode cX4_record 41 = .ok (.dup, 1) := by decide +kernel
theorem dX4_record_42 : decode cX4_record 42 = .ok (.getfield 107, 3) := by decide +kernel
theorem dX4_record_45 : decode cX4_record 45 = .ok (.iconst 1, 1) := by decide +kernel
theorem dX4_record_46 : decode cX4_record 46 = .ok (.isub, 1) := by decide +kernel
theorem dX4_record_47 : decode cX4_record 47 = .ok (.putfield 107, 3) := by decide +kernel
theorem dX4_record_50 : decode cX4_record 50 = .ok (.aload_n 0, 1) := by decide +kernel
theorem dX4_record_51 : decode cX4_record 51 = .ok (.getfield 7, 3) := by decide +kernel
theorem dX4_record_54 : decode cX4_record 54 = .ok (.iconst 0, 1) := by decide +kernel
theorem dX4_record_55 : decode cX4_record 55 = .ok (.aload_n 0, 1) := by decide +kernel
theorem dX4_record_56 : decode cX4_record 56 = .ok (.getfield 16, 3) := by decide +kernel
theorem dX4_record_59 : decode cX4_record 59 = .ok (.sipush 2175, 3) := by decide +kernel
theorem dX4_record_62 : decode cX4_record 62 = .ok (.aload_n 0, 1) := by decide +kernel
theorem dX4_record_63 : decode cX4_record 63 = .ok (.getfield 107, 3) := by decide +kernel
theorem dX4_record_66 : decode cX4_record 66 = .ok (.imul, 1) := by decide +kernel
theorem dX4_record_67 : decode cX4_record 67 = .ok (.invokestatic 111, 3) := by decide +kernel
theorem dX4_record_70 : decode cX4_record 70 = .ok (.aload_n 0, 1) := by decide +kernel
theorem dX4_record_71 : decode cX4_record 71 = .ok (.dup, 1) := by decide +kernel
theorem dX4_record_72 : decode cX4_record 72 = .ok (.getfield 107, 3) := by decide +kernel
theorem dX4_record_75 : decode cX4_record 75 = .ok (.iconst 1, 1) := by decide +kernel
theorem dX4_record_76 : decode cX4_record 76 = .ok (.iadd, 1) := by decide +kernel
theorem dX4_record_77 : decode cX4_record 77 = .ok (.putfield 107, 3) := by decide +kernel
theorem dX4_record_80 : decode cX4_record 80 = .ok (.return_, 1) := by decide +kernel
theorem dX4_set_0 : decode cX4_set 0 = .ok (.iload_n 1, 1) := by decide +kernel
theorem dX4_set_1 : decode cX4_set 1 = .ok (.ifCond .ne 15, 3) := by decide +kernel
theorem dX4_set_4 : decode cX4_set 4 = .ok (.iload_n 2, 1) := by decide +kernel
theorem dX4_set_5 : decode cX4_set 5 = .ok (.i2l, 1) := by decide +kernel
theorem dX4_set_6 : decode cX4_set 6 = .ok (.lconst 1, 1) := by decide +kernel
theorem dX4_set_7 : decode cX4_set 7 = .ok (.ldc2_w 115, 3) := by decide +kernel
theorem dX4_set_10 : decode cX4_set 10 = .ok (.invokestatic 34, 3) := by decide +kernel
theorem dX4_set_13 : decode cX4_set 13 = .ok (.ifCond .ne 20, 3) := by decide +kernel
theorem dX4_set_16 : decode cX4_set 16 = .ok (.iload_n 1, 1) := by decide +kernel
theorem dX4_set_17 : decode cX4_set 17 = .ok (.iconst 1, 1) := by decide +kernel
theorem dX4_set_18 : decode cX4_set 18 = .ok (.if_icmp .ne 19, 3) := by decide +kernel
theorem dX4_set_21 : decode cX4_set 21 = .ok (.iload_n 2, 1) := by decide +kernel
theorem dX4_set_22 : decode cX4_set 22 = .ok (.i2l, 1) := by decide +kernel
theorem dX4_set_23 : decode cX4_set 23 = .ok (.lconst 0, 1) := by decide +kernel
theorem dX4_set_24 : decode cX4_set 24 = .ok (.ldc2_w 117, 3) := by decide +kernel
theorem dX4_set_27 : decode cX4_set 27 = .ok (.invokestatic 34, 3) := by decide +kernel
theorem dX4_set_30 : decode cX4_set 30 = .ok (.ifCond .eq 7, 3) := by decide +kernel
theorem dX4_set_33 : decode cX4_set 33 = .ok (.iconst 1, 1) := by decide +kernel
theorem dX4_set_34 : decode cX4_set 34 = .ok (.goto 4, 3) := by decide +kernel
theorem dX4_set_37 : decode cX4_set 37 = .ok (.iconst 0, 1) := by decide +kernel
theorem dX4_set_38 : decode cX4_set 38 = .ok (.istore_n 3, 1) := by decide +kernel
theorem dX4_set_39 : decode cX4_set 39 = .ok (.iload_n 3, 1) := by decide +kernel
theorem dX4_set_40 : decode cX4_set 40 = .ok (.ifCond .ne 6, 3) := by decide +kernel
theorem dX4_set_43 : decode cX4_set 43 = .ok (.bipush (-2), 2) := by decide +kernel
theorem dX4_set_45 : decode cX4_set 45 = .ok (.ireturn, 1) := by decide +kernel
theorem dX4_set_46 : decode cX4_set 46 = .ok (.iload_n 1, 1) := by decide +kernel
theorem dX4_set_47 : decode cX4_set 47 = .ok (.ifCond .ne 15, 3) := by decide +kernel
theorem dX4_set_50 : decode cX4_set 50 = .ok (.aload_n 0, 1) := by decide +kernel
theorem dX4_set_51 : decode cX4_set 51 = .ok (.getfield 7, 3) := by decide +kernel
theorem dX4_set_54 : decode cX4_set 54 = .ok (.iconst 0, 1) := by decide +kernel
theorem dX4_set_55 : decode cX4_set 55 = .ok (.iaload, 1) := by decide +kernel
theorem dX4_set_56 : decode cX4_set 56 = .ok (.ifCond .eq 6, 3) := by decide +kernel
theorem dX4_set_59 : decode cX4_set 59 = .ok (.bipush (-5), 2) := by decide +kernel
theorem dX4_set_61 : decode cX4_set 61 = .ok (.ireturn, 1) := by decide +kernel
theorem dX4_set_62 : decode cX4_set 62 = .ok (.aload_n 0, 1) := by decide +kernel
theorem dX4_set_63 : decode cX4_set 63 = .ok (.invokevirtual 119, 3) := by decide +kernel
theorem dX4_set_66 : decode cX4_set 66 = .ok (.aload_n 0, 1) := by decide +kernel
theorem dX4_set_67 : decode cX4_set 67 = .ok (.getfield 7, 3) := by decide +kernel
theorem dX4_set_70 : decode cX4_set 70 = .ok (.iconst 1, 1) := by decide +kernel
theorem dX4_set_71 : decode cX4_set 71 = .ok (.iload_n 1, 1) := by decide +kernel
theorem dX4_set_72 : decode cX4_set 72 = .ok (.iadd, 1) := by decide +kernel
theorem dX4_set_73 : decode cX4_set 73 = .ok (.iaload, 1) := by decide +kernel
theorem dX4_set_74 : decode cX4_set 74 = .ok (.istore 4, 2) := by decide +kernel
theorem dX4_set_76 : decode cX4_set 76 = .ok (.aload_n 0, 1) := by decide +kernel
theorem dX4_set_77 : decode cX4_set 77 = .ok (.getfield 7, 3) := by decide +kernel
theorem dX4_set_80 : decode cX4_set 80 = .ok (.iconst 1, 1) := by decide +kernel
theorem dX4_set_81 : decode cX4_set 81 = .ok (.iload_n 1, 1) := by decide +kernel
theorem dX4_set_82 : decode cX4_set 82 = .ok (.iadd, 1) := by decide +kernel
theorem dX4_set_83 : decode cX4_set 83 = .ok (.iload_n 2, 1) := by decide +kernel
theorem dX4_set_84 : decode cX4_set 84 = .ok (.iastore, 1) := by decide +kernel
theorem dX4_set_85 : decode cX4_set 85 = .ok (.aload_n 0, 1) := by decide +kernel
theorem dX4_set_86 : decode cX4_set 86 = .ok (.getfield 7, 3) := by decide +kernel
theorem dX4_set_89 : decode cX4_set 89 = .ok (.invokestatic 103, 3) := by decide +kernel
theorem dX4_set_92 : decode cX4_set 92 = .ok (.iload 4, 2) := by decide +kernel
theorem dX4_set_94 : decode cX4_set 94 = .ok (.ireturn, 1) := by decide +kernel
theorem dX4_passOn_0 : decode cX4_passOn 0 = .ok (.aload_n 0, 1) := by decide +kernel
theorem dX4_passOn_1 : decode cX4_passOn 1 = .ok (.aload_n 1, 1) := by decide +kernel
theorem dX4_passOn_2 : decode cX4_passOn 2 = .ok (.iconst 0, 1) := by decide +kernel
theorem dX4_passOn_3 : decode cX4_passOn 3 = .ok (.iaload, 1) := by decide +kernel
theorem dX4_passOn_4 : decode cX4_passOn 4 = .ok (.invokevirtual 42, 3) := by decide +kernel
theorem dX4_passOn_7 : decode cX4_passOn 7 = .ok (.aload_n 1, 1) := by decide +kernel
theorem dX4_passOn_8 : decode cX4_passOn 8 = .ok (.iconst 1, 1) := by decide +kernel
theorem dX4_passOn_9 : decode cX4_passOn 9 = .ok (.iaload, 1) := by decide +kernel
theorem dX4_passOn_10 : decode cX4_passOn 10 = .ok (.isub, 1) := by decide +kernel
theorem dX4_passOn_11 : decode cX4_passOn 11 = .ok (.istore_n 3, 1) := by decide +kernel
theorem dX4_passOn_12 : decode cX4_passOn 12 = .ok (.aload_n 1, 1) := by decide +kernel
theorem dX4_passOn_13 : decode cX4_passOn 13 = .ok (.iconst 0, 1) := by decide +kernel
theorem dX4_passOn_14 : decode cX4_passOn 14 = .ok (.dup2, 1) := by decide +kernel
theorem dX4_passOn_15 : decode cX4_passOn 15 = .ok (.iaload, 1) := by decide +kernel
theorem dX4_passOn_16 : decode cX4_passOn 16 = .ok (.iload_n 2, 1) := by decide +kernel
theorem dX4_passOn_17 : decode cX4_passOn 17 = .ok (.iadd, 1) := by decide +kernel
theorem dX4_passOn_18 : decode cX4_passOn 18 = .ok (.iastore, 1) := by decide +kernel
theorem dX4_passOn_19 : decode cX4_passOn 19 = .ok (.iconst 0, 1) := by decide +kernel
theorem dX4_passOn_20 : decode cX4_passOn 20 = .ok (.istore 4, 2) := by decide +kernel
theorem dX4_passOn_22 : decode cX4_passOn 22 = .ok (.iload 4, 2) := by decide +kernel
theorem dX4_passOn_24 : decode cX4_passOn 24 = .ok (.bipush 120, 2) := by decide +kernel
theorem dX4_passOn_26 : decode cX4_passOn 26 = .ok (.if_icmp .ge 33, 3) := by decide +kernel
theorem dX4_passOn_29 : decode cX4_passOn 29 = .ok (.iload 4, 2) := by decide +kernel
theorem dX4_passOn_31 : decode cX4_passOn 31 = .ok (.iload_n 3, 1) := by decide +kernel
theorem dX4_passOn_32 : decode cX4_passOn 32 = .ok (.if_icmp .le 21, 3) := by decide +kernel
theorem dX4_passOn_35 : decode cX4_passOn 35 = .ok (.aload_n 0, 1) := by decide +kernel
theorem dX4_passOn_36 : decode cX4_passOn 36 = .ok (.aload_n 1, 1) := by decide +kernel
theorem dX4_passOn_37 : decode cX4_passOn 37 = .ok (.iload 4, 2) := by decide +kernel
theorem dX4_passOn_39 : decode cX4_passOn 39 = .ok (.invokevirtual 93, 3) := by decide +kernel
theorem dX4_passOn_42 : decode cX4_passOn 42 = .ok (.ifCond .eq 11, 3) := by decide +kernel
theorem dX4_passOn_45 : decode cX4_passOn 45 = .ok (.aload_n 1, 1) := by decide +kernel
theorem dX4_passOn_46 : decode cX4_passOn 46 = .ok (.iload 4, 2) := by decide +kernel
theorem dX4_passOn_48 : decode cX4_passOn 48 = .ok (.bipush (-6), 2) := by decide +kernel
theorem dX4_passOn_50 : decode cX4_passOn 50 = .ok (.invokestatic 86, 3) := by decide +kernel
theorem dX4_passOn_53 : decode cX4_passOn 53 = .ok (.iinc 4 1, 3) := by decide +kernel
theorem dX4_passOn_56 : decode cX4_passOn 56 = .ok (.goto (-34), 3) := by decide +kernel
theorem dX4_passOn_59 : decode cX4_passOn 59 = .ok (.aload_n 1, 1) := by decide +kernel
theorem dX4_passOn_60 : decode cX4_passOn 60 = .ok (.iconst 0, 1) := by decide +kernel
theorem dX4_passOn_61 : decode cX4_passOn 61 = .ok (.iaload, 1) := by decide +kernel
theorem dX4_passOn_62 : decode cX4_passOn 62 = .ok (.ireturn, 1) := by decide +kernel
theorem dX4_whyNotPass_0 : decode cX4_whyNotPass 0 = .ok (.iload_n 2, 1) := by decide +kernel
theorem dX4_whyNotPass_1 : decode cX4_whyNotPass 1 = .ok (.i2l, 1) := by decide +kernel
theorem dX4_whyNotPass_2 : decode cX4_whyNotPass 2 = .ok (.lconst 1, 1) := by decide +kernel
theorem dX4_whyNotPass_3 : decode cX4_whyNotPass 3 = .ok (.ldc2_w 122, 3) := by decide +kernel
theorem dX4_whyNotPass_6 : decode cX4_whyNotPass 6 = .ok (.invokestatic 34, 3) := by decide +kernel
theorem dX4_whyNotPass_9 : decode cX4_whyNotPass 9 = .ok (.ifCond .ne 8, 3) := by decide +kernel
theorem dX4_whyNotPass_12 : decode cX4_whyNotPass 12 = .ok (.bipush (-2), 2) := by decide +kernel
theorem dX4_whyNotPass_14 : decode cX4_whyNotPass 14 = .ok (.goto 20, 3) := by decide +kernel
theorem dX4_whyNotPass_17 : decode cX4_whyNotPass 17 = .ok (.aload_n 1, 1) := by decide +kernel
theorem dX4_whyNotPass_18 : decode cX4_whyNotPass 18 = .ok (.iconst 0, 1) := by decide +kernel
theorem dX4_whyNotPass_19 : decode cX4_whyNotPass 19 = .ok (.iaload, 1) := by decide +kernel
theorem dX4_whyNotPass_20 : decode cX4_whyNotPass 20 = .ok (.iload_n 2, 1) := by decide +kernel
theorem dX4_whyNotPass_21 : decode cX4_whyNotPass 21 = .ok (.iadd, 1) := by decide +kernel
theorem dX4_whyNotPass_22 : decode cX4_whyNotPass 22 = .ok (.sipush 3650, 3) := by decide +kernel
theorem dX4_whyNotPass_25 : decode cX4_whyNotPass 25 = .ok (.if_icmp .lt 8, 3) := by decide +kernel
theorem dX4_whyNotPass_28 : decode cX4_whyNotPass 28 = .ok (.bipush (-4), 2) := by decide +kernel
theorem dX4_whyNotPass_30 : decode cX4_whyNotPass 30 = .ok (.goto 4, 3) := by decide +kernel
theorem dX4_whyNotPass_33 : decode cX4_whyNotPass 33 = .ok (.iconst 0, 1) := by decide +kernel
theorem dX4_whyNotPass_34 : decode cX4_whyNotPass 34 = .ok (.ireturn, 1) := by decide +kernel
theorem dX4_pass_0 : decode cX4_pass 0 = .ok (.aload_n 0, 1) := by decide +kernel
theorem dX4_pass_1 : decode cX4_pass 1 = .ok (.aload_n 0, 1) := by decide +kernel
theorem dX4_pass_2 : decode cX4_pass 2 = .ok (.getfield 7, 3) := by decide +kernel
theorem dX4_pass_5 : decode cX4_pass 5 = .ok (.iload_n 1, 1) := by decide +kernel
theorem dX4_pass_6 : decode cX4_pass 6 = .ok (.invokevirtual 124, 3) := by decide +kernel
theorem dX4_pass_9 : decode cX4_pass 9 = .ok (.istore_n 2, 1) := by decide +kernel
theorem dX4_pass_10 : decode cX4_pass 10 = .ok (.iload_n 2, 1) := by decide +kernel
theorem dX4_pass_11 : decode cX4_pass 11 = .ok (.ifCond .eq 5, 3) := by decide +kernel
theorem dX4_pass_14 : decode cX4_pass 14 = .ok (.iload_n 2, 1) := by decide +kernel
theorem dX4_pass_15 : decode cX4_pass 15 = .ok (.ireturn, 1) := by decide +kernel
theorem dX4_pass_16 : decode cX4_pass 16 = .ok (.aload_n 0, 1) := by decide +kernel
theorem dX4_pass_17 : decode cX4_pass 17 = .ok (.invokevirtual 119, 3) := by decide +kernel
theorem dX4_pass_20 : decode cX4_pass 20 = .ok (.aload_n 0, 1) := by decide +kernel
theorem dX4_pass_21 : decode cX4_pass 21 = .ok (.aload_n 0, 1) := by decide +kernel
theorem dX4_pass_22 : decode cX4_pass 22 = .ok (.getfield 7, 3) := by decide +kernel
theorem dX4_pass_25 : decode cX4_pass 25 = .ok (.iload_n 1, 1) := by decide +kernel
theorem dX4_pass_26 : decode cX4_pass 26 = .ok (.invokevirtual 127, 3) := by decide +kernel
theorem dX4_pass_29 : decode cX4_pass 29 = .ok (.ireturn, 1) := by decide +kernel
theorem dX4_whyNotDays_0 : decode cX4_whyNotDays 0 = .ok (.iload_n 0, 1) := by decide +kernel
theorem dX4_whyNotDays_1 : decode cX4_whyNotDays 1 = .ok (.ifCond .eq 17, 3) := by decide +kernel
theorem dX4_whyNotDays_4 : decode cX4_whyNotDays 4 = .ok (.iload_n 1, 1) := by decide +kernel
theorem dX4_whyNotDays_5 : decode cX4_whyNotDays 5 = .ok (.invokestatic 130, 3) := by decide +kernel
theorem dX4_whyNotDays_8 : decode cX4_whyNotDays 8 = .ok (.ifCond .eq 10, 3) := by decide +kernel
theorem dX4_whyNotDays_11 : decode cX4_whyNotDays 11 = .ok (.iload_n 2, 1) := by decide +kernel
theorem dX4_whyNotDays_12 : decode cX4_whyNotDays 12 = .ok (.invokestatic 130, 3) := by decide +kernel
theorem dX4_whyNotDays_15 : decode cX4_whyNotDays 15 = .ok (.ifCond .ne 7, 3) := by decide +kernel
theorem dX4_whyNotDays_18 : decode cX4_whyNotDays 18 = .ok (.iconst (-1), 1) := by decide +kernel
theorem dX4_whyNotDays_19 : decode cX4_whyNotDays 19 = .ok (.goto 14, 3) := by decide +kernel
theorem dX4_whyNotDays_22 : decode cX4_whyNotDays 22 = .ok (.iload_n 2, 1) := by decide +kernel
theorem dX4_whyNotDays_23 : decode cX4_whyNotDays 23 = .ok (.iload_n 1, 1) := by decide +kernel
theorem dX4_whyNotDays_24 : decode cX4_whyNotDays 24 = .ok (.if_icmp .ge 8, 3) := by decide +kernel
theorem dX4_whyNotDays_27 : decode cX4_whyNotDays 27 = .ok (.bipush (-2), 2) := by decide +kernel
theorem dX4_whyNotDays_29 : decode cX4_whyNotDays 29 = .ok (.goto 4, 3) := by decide +kernel
theorem dX4_whyNotDays_32 : decode cX4_whyNotDays 32 = .ok (.iconst 0, 1) := by decide +kernel
theorem dX4_whyNotDays_33 : decode cX4_whyNotDays 33 = .ok (.ireturn, 1) := by decide +kernel
theorem dX4_whyNotMark_0 : decode cX4_whyNotMark 0 = .ok (.iload_n 2, 1) := by decide +kernel
theorem dX4_whyNotMark_1 : decode cX4_whyNotMark 1 = .ok (.invokestatic 134, 3) := by decide +kernel
theorem dX4_whyNotMark_4 : decode cX4_whyNotMark 4 = .ok (.iload_n 3, 1) := by decide +kernel
theorem dX4_whyNotMark_5 : decode cX4_whyNotMark 5 = .ok (.iload 4, 2) := by decide +kernel
theorem dX4_whyNotMark_7 : decode cX4_whyNotMark 7 = .ok (.invokestatic 137, 3) := by decide +kernel
theorem dX4_whyNotMark_10 : decode cX4_whyNotMark 10 = .ok (.istore 5, 2) := by decide +kernel
theorem dX4_whyNotMark_12 : decode cX4_whyNotMark 12 = .ok (.iload 5, 2) := by decide +kernel
theorem dX4_whyNotMark_14 : decode cX4_whyNotMark 14 = .ok (.ifCond .eq 8, 3) := by decide +kernel
theorem dX4_whyNotMark_17 : decode cX4_whyNotMark 17 = .ok (.iload 5, 2) := by decide +kernel
theorem dX4_whyNotMark_19 : decode cX4_whyNotMark 19 = .ok (.goto 17, 3) := by decide +kernel
theorem dX4_whyNotMark_22 : decode cX4_whyNotMark 22 = .ok (.iload 4, 2) := by decide +kernel
theorem dX4_whyNotMark_24 : decode cX4_whyNotMark 24 = .ok (.aload_n 1, 1) := by decide +kernel
theorem dX4_whyNotMark_25 : decode cX4_whyNotMark 25 = .ok (.iconst 0, 1) := by decide +kernel
theorem dX4_whyNotMark_26 : decode cX4_whyNotMark 26 = .ok (.iaload, 1) := by decide +kernel
theorem dX4_whyNotMark_27 : decode cX4_whyNotMark 27 = .ok (.if_icmp .le 8, 3) := by decide +kernel
theorem dX4_whyNotMark_30 : decode cX4_whyNotMark 30 = .ok (.bipush (-5), 2) := by decide +kernel
theorem dX4_whyNotMark_32 : decode cX4_whyNotMark 32 = .ok (.goto 4, 3) := by decide +kernel
theorem dX4_whyNotMark_35 : decode cX4_whyNotMark 35 = .ok (.iconst 0, 1) := by decide +kernel
theorem dX4_whyNotMark_36 : decode cX4_whyNotMark 36 = .ok (.ireturn, 1) := by decide +kernel
theorem dX4_markOn_0 : decode cX4_markOn 0 = .ok (.iconst 0, 1) := by decide +kernel
theorem dX4_markOn_1 : decode cX4_markOn 1 = .ok (.istore 6, 2) := by decide +kernel
theorem dX4_markOn_3 : decode cX4_markOn 3 = .ok (.aload_n 0, 1) := by decide +kernel
theorem dX4_markOn_4 : decode cX4_markOn 4 = .ok (.iload_n 3, 1) := by decide +kernel
theorem dX4_markOn_5 : decode cX4_markOn 5 = .ok (.invokevirtual 42, 3) := by decide +kernel
theorem dX4_markOn_8 : decode cX4_markOn 8 = .ok (.istore 7, 2) := by decide +kernel
theorem dX4_markOn_10 : decode cX4_markOn 10 = .ok (.iload 7, 2) := by decide +kernel
theorem dX4_markOn_12 : decode cX4_markOn 12 = .ok (.aload_n 0, 1) := by decide +kernel
theorem dX4_markOn_13 : decode cX4_markOn 13 = .ok (.iload 4, 2) := by decide +kernel
theorem dX4_markOn_15 : decode cX4_markOn 15 = .ok (.invokevirtual 42, 3) := by decide +kernel
theorem dX4_markOn_18 : decode cX4_markOn 18 = .ok (.if_icmp .gt 81, 3) := by decide +kernel
theorem dX4_markOn_21 : decode cX4_markOn 21 = .ok (.aload_n 0, 1) := by decide +kernel
theorem dX4_markOn_22 : decode cX4_markOn 22 = .ok (.iload 7, 2) := by decide +kernel
theorem dX4_markOn_24 : decode cX4_markOn 24 = .ok (.iload_n 3, 1) := by decide +kernel
theorem dX4_markOn_25 : decode cX4_markOn 25 = .ok (.iload 4, 2) := by decide +kernel
theorem dX4_markOn_27 : decode cX4_markOn 27 = .ok (.invokevirtual 49, 3) := by decide +kernel
theorem dX4_markOn_30 : decode cX4_markOn 30 = .ok (.istore 8, 2) := by decide +kernel
theorem dX4_markOn_32 : decode cX4_markOn 32 = .ok (.iload 5, 2) := by decide +kernel
theorem dX4_markOn_34 : decode cX4_markOn 34 = .ok (.ifCond .eq 19, 3) := by decide +kernel
theorem dX4_markOn_37 : decode cX4_markOn 37 = .ok (.iload 8, 2) := by decide +kernel
theorem dX4_markOn_39 : decode cX4_markOn 39 = .ok (.aload_n 1, 1) := by decide +kernel
theorem dX4_markOn_40 : decode cX4_markOn 40 = .ok (.iload 7, 2) := by decide +kernel
theorem dX4_markOn_42 : decode cX4_markOn 42 = .ok (.iload_n 2, 1) := by decide +kernel
theorem dX4_markOn_43 : decode cX4_markOn 43 = .ok (.invokestatic 53, 3) := by decide +kernel
theorem dX4_markOn_46 : decode cX4_markOn 46 = .ok (.iaload, 1) := by decide +kernel
theorem dX4_markOn_47 : decode cX4_markOn 47 = .ok (.iconst (-1), 1) := by decide +kernel
theorem dX4_markOn_48 : decode cX4_markOn 48 = .ok (.ixor, 1) := by decide +kernel
theorem dX4_markOn_49 : decode cX4_markOn 49 = .ok (.iand, 1) := by decide +kernel
theorem dX4_markOn_50 : decode cX4_markOn 50 = .ok (.goto 14, 3) := by decide +kernel
theorem dX4_markOn_53 : decode cX4_markOn 53 = .ok (.iload 8, 2) := by decide +kernel
theorem dX4_markOn_55 : decode cX4_markOn 55 = .ok (.aload_n 1, 1) := by decide +kernel
theorem dX4_markOn_56 : decode cX4_markOn 56 = .ok (.iload 7, 2) := by decide +kernel
theorem dX4_markOn_58 : decode cX4_markOn 58 = .ok (.iload_n 2, 1) := by decide +kernel
theorem dX4_markOn_59 : decode cX4_markOn 59 = .ok (.invokestatic 53, 3) := by decide +kernel
theorem dX4_markOn_62 : decode cX4_markOn 62 = .ok (.iaload, 1) := by decide +kernel
theorem dX4_markOn_63 : decode cX4_markOn 63 = .ok (.iand, 1) := by decide +kernel
theorem dX4_markOn_64 : decode cX4_markOn 64 = .ok (.istore 9, 2) := by decide +kernel
theorem dX4_markOn_66 : decode cX4_markOn 66 = .ok (.iload 6, 2) := by decide +kernel
theorem dX4_markOn_68 : decode cX4_markOn 68 = .ok (.iload 9, 2) := by decide +kernel
theorem dX4_markOn_70 : decode cX4_markOn 70 = .ok (.invokestatic 57, 3) := by decide +kernel
theorem dX4_markOn_73 : decode cX4_markOn 73 = .ok (.iadd, 1) := by decide +kernel
theorem dX4_markOn_74 : decode cX4_markOn 74 = .ok (.istore 6, 2) := by decide +kernel
theorem dX4_markOn_76 : decode cX4_markOn 76 = .ok (.iload 9, 2) := by decide +kernel
theorem dX4_markOn_78 : decode cX4_markOn 78 = .ok (.ifCond .eq 15, 3) := by decide +kernel
theorem dX4_markOn_81 : decode cX4_markOn 81 = .ok (.aload_n 0, 1) := by decide +kernel
theorem dX4_markOn_82 : decode cX4_markOn 82 = .ok (.aload_n 1, 1) := by decide +kernel
theorem dX4_markOn_83 : decode cX4_markOn 83 = .ok (.iload_n 2, 1) := by decide +kernel
theorem dX4_markOn_84 : decode cX4_markOn 84 = .ok (.iload 7, 2) := by decide +kernel
theorem dX4_markOn_86 : decode cX4_markOn 86 = .ok (.iload 8, 2) := by decide +kernel
theorem dX4_markOn_88 : decode cX4_markOn 88 = .ok (.iload 5, 2) := by decide +kernel
theorem dX4_markOn_90 : decode cX4_markOn 90 = .ok (.invokevirtual 141, 3) := by decide +kernel
theorem dX4_markOn_93 : decode cX4_markOn 93 = .ok (.iinc 7 1, 3) := by decide +kernel
theorem dX4_markOn_96 : decode cX4_markOn 96 = .ok (.goto (-86), 3) := by decide +kernel
theorem dX4_markOn_99 : decode cX4_markOn 99 = .ok (.iload 6, 2) := by decide +kernel
theorem dX4_markOn_101 : decode cX4_markOn 101 = .ok (.ireturn, 1) := by decide +kernel
theorem dX4_mark_0 : decode cX4_mark 0 = .ok (.aload_n 0, 1) := by decide +kernel
theorem dX4_mark_1 : decode cX4_mark 1 = .ok (.aload_n 0, 1) := by decide +kernel
theorem dX4_mark_2 : decode cX4_mark 2 = .ok (.getfield 7, 3) := by decide +kernel
theorem dX4_mark_5 : decode cX4_mark 5 = .ok (.iload_n 1, 1) := by decide +kernel
theorem dX4_mark_6 : decode cX4_mark 6 = .ok (.iload_n 2, 1) := by decide +kernel
theorem dX4_mark_7 : decode cX4_mark 7 = .ok (.iload_n 3, 1) := by decide +kernel
theorem dX4_mark_8 : decode cX4_mark 8 = .ok (.invokevirtual 145, 3) := by decide +kernel
theorem dX4_mark_11 : decode cX4_mark 11 = .ok (.istore 4, 2) := by decide +kernel
theorem dX4_mark_13 : decode cX4_mark 13 = .ok (.iload 4, 2) := by decide +kernel
theorem dX4_mark_15 : decode cX4_mark 15 = .ok (.ifCond .eq 6, 3) := by decide +kernel
theorem dX4_mark_18 : decode cX4_mark 18 = .ok (.iload 4, 2) := by decide +kernel
theorem dX4_mark_20 : decode cX4_mark 20 = .ok (.ireturn, 1) := by decide +kernel
theorem dX4_mark_21 : decode cX4_mark 21 = .ok (.aload_n 0, 1) := by decide +kernel
theorem dX4_mark_22 : decode cX4_mark 22 = .ok (.invokevirtual 119, 3) := by decide +kernel
theorem dX4_mark_25 : decode cX4_mark 25 = .ok (.aload_n 0, 1) := by decide +kernel
theorem dX4_mark_26 : decode cX4_mark 26 = .ok (.aload_n 0, 1) := by decide +kernel
theorem dX4_mark_27 : decode cX4_mark 27 = .ok (.getfield 7, 3) := by decide +kernel
theorem dX4_mark_30 : decode cX4_mark 30 = .ok (.iload_n 1, 1) := by decide +kernel
theorem dX4_mark_31 : decode cX4_mark 31 = .ok (.iload_n 2, 1) := by decide +kernel
theorem dX4_mark_32 : decode cX4_mark 32 = .ok (.iload_n 3, 1) := by decide +kernel
theorem dX4_mark_33 : decode cX4_mark 33 = .ok (.iconst 1, 1) := by decide +kernel
theorem dX4_mark_34 : decode cX4_mark 34 = .ok (.invokevirtual 148, 3) := by decide +kernel
theorem dX4_mark_37 : decode cX4_mark 37 = .ok (.ireturn, 1) := by decide +kernel
theorem dX4_clear_0 : decode cX4_clear 0 = .ok (.aload_n 0, 1) := by decide +kernel
theorem dX4_clear_1 : decode cX4_clear 1 = .ok (.aload_n 0, 1) := by decide +kernel
theorem dX4_clear_2 : decode cX4_clear 2 = .ok (.getfield 7, 3) := by decide +kernel
theorem dX4_clear_5 : decode cX4_clear 5 = .ok (.iload_n 1, 1) := by decide +kernel
theorem dX4_clear_6 : decode cX4_clear 6 = .ok (.iload_n 2, 1) := by decide +kernel
theorem dX4_clear_7 : decode cX4_clear 7 = .ok (.iload_n 3, 1) := by decide +kernel
theorem dX4_clear_8 : decode cX4_clear 8 = .ok (.invokevirtual 145, 3) := by decide +kernel
theorem dX4_clear_11 : decode cX4_clear 11 = .ok (.istore 4, 2) := by decide +kernel
theorem dX4_clear_13 : decode cX4_clear 13 = .ok (.iload 4, 2) := by decide +kernel
theorem dX4_clear_15 : decode cX4_clear 15 = .ok (.ifCond .eq 6, 3) := by decide +kernel
theorem dX4_clear_18 : decode cX4_clear 18 = .ok (.iload 4, 2) := by decide +kernel
theorem dX4_clear_20 : decode cX4_clear 20 = .ok (.ireturn, 1) := by decide +kernel
theorem dX4_clear_21 : decode cX4_clear 21 = .ok (.aload_n 0, 1) := by decide +kernel
theorem dX4_clear_22 : decode cX4_clear 22 = .ok (.invokevirtual 119, 3) := by decide +kernel
theorem dX4_clear_25 : decode cX4_clear 25 = .ok (.aload_n 0, 1) := by decide +kernel
theorem dX4_clear_26 : decode cX4_clear 26 = .ok (.aload_n 0, 1) := by decide +kernel
theorem dX4_clear_27 : decode cX4_clear 27 = .ok (.getfield 7, 3) := by decide +kernel
theorem dX4_clear_30 : decode cX4_clear 30 = .ok (.iload_n 1, 1) := by decide +kernel
theorem dX4_clear_31 : decode cX4_clear 31 = .ok (.iload_n 2, 1) := by decide +kernel
theorem dX4_clear_32 : decode cX4_clear 32 = .ok (.iload_n 3, 1) := by decide +kernel
theorem dX4_clear_33 : decode cX4_clear 33 = .ok (.iconst 0, 1) := by decide +kernel
theorem dX4_clear_34 : decode cX4_clear 34 = .ok (.invokevirtual 148, 3) := by decide +kernel
theorem dX4_clear_37 : decode cX4_clear 37 = .ok (.ireturn, 1) := by decide +kernel
theorem dX4_marks_0 : decode cX4_marks 0 = .ok (.iload_n 1, 1) := by decide +kernel
theorem dX4_marks_1 : decode cX4_marks 1 = .ok (.invokestatic 134, 3) := by decide +kernel
theorem dX4_marks_4 : decode cX4_marks 4 = .ok (.iload_n 2, 1) := by decide +kernel
theorem dX4_marks_5 : decode cX4_marks 5 = .ok (.iload_n 3, 1) := by decide +kernel
theorem dX4_marks_6 : decode cX4_marks 6 = .ok (.invokestatic 137, 3) := by decide +kernel
theorem dX4_marks_9 : decode cX4_marks 9 = .ok (.istore 4, 2) := by decide +kernel
theorem dX4_marks_11 : decode cX4_marks 11 = .ok (.iload 4, 2) := by decide +kernel
theorem dX4_marks_13 : decode cX4_marks 13 = .ok (.ifCond .eq 6, 3) := by decide +kernel
theorem dX4_marks_16 : decode cX4_marks 16 = .ok (.iload 4, 2) := by decide +kernel
theorem dX4_marks_18 : decode cX4_marks 18 = .ok (.ireturn, 1) := by decide +kernel
theorem dX4_marks_19 : decode cX4_marks 19 = .ok (.iconst 0, 1) := by decide +kernel
theorem dX4_marks_20 : decode cX4_marks 20 = .ok (.istore 5, 2) := by decide +kernel
theorem dX4_marks_22 : decode cX4_marks 22 = .ok (.aload_n 0, 1) := by decide +kernel
theorem dX4_marks_23 : decode cX4_marks 23 = .ok (.iload_n 2, 1) := by decide +kernel
theorem dX4_marks_24 : decode cX4_marks 24 = .ok (.invokevirtual 42, 3) := by decide +kernel
theorem dX4_marks_27 : decode cX4_marks 27 = .ok (.istore 6, 2) := by decide +kernel
theorem dX4_marks_29 : decode cX4_marks 29 = .ok (.iload 6, 2) := by decide +kernel
theorem dX4_marks_31 : decode cX4_marks 31 = .ok (.aload_n 0, 1) := by decide +kernel
theorem dX4_marks_32 : decode cX4_marks 32 = .ok (.iload_n 3, 1) := by decide +kernel
theorem dX4_marks_33 : decode cX4_marks 33 = .ok (.invokevirtual 42, 3) := by decide +kernel
theorem dX4_marks_36 : decode cX4_marks 36 = .ok (.if_icmp .gt 62, 3) := by decide +kernel
theorem dX4_marks_39 : decode cX4_marks 39 = .ok (.aload_n 0, 1) := by decide +kernel
theorem dX4_marks_40 : decode cX4_marks 40 = .ok (.iload 6, 2) := by decide +kernel
theorem dX4_marks_42 : decode cX4_marks 42 = .ok (.iload_n 2, 1) := by decide +kernel
theorem dX4_marks_43 : decode cX4_marks 43 = .ok (.iload_n 3, 1) := by decide +kernel
theorem dX4_marks_44 : decode cX4_marks 44 = .ok (.invokevirtual 49, 3) := by decide +kernel
theorem dX4_marks_47 : decode cX4_marks 47 = .ok (.istore 7, 2) := by decide +kernel
theorem dX4_marks_49 : decode cX4_marks 49 = .ok (.iload 7, 2) := by decide +kernel
theorem dX4_marks_51 : decode cX4_marks 51 = .ok (.aload_n 0, 1) := by decide +kernel
theorem dX4_marks_52 : decode cX4_marks 52 = .ok (.iload 6, 2) := by decide +kernel
theorem dX4_marks_54 : decode cX4_marks 54 = .ok (.invokevirtual 152, 3) := by decide +kernel
theorem dX4_marks_57 : decode cX4_marks 57 = .ok (.if_icmp .eq 13, 3) := by decide +kernel
theorem dX4_marks_60 : decode cX4_marks 60 = .ok (.aload_n 0, 1) := by decide +kernel
theorem dX4_marks_61 : decode cX4_marks 61 = .ok (.aload_n 0, 1) := by decide +kernel
theorem dX4_marks_62 : decode cX4_marks 62 = .ok (.getfield 7, 3) := by decide +kernel
theorem dX4_marks_65 : decode cX4_marks 65 = .ok (.iload 6, 2) := by decide +kernel
theorem dX4_marks_67 : decode cX4_marks 67 = .ok (.invokevirtual 155, 3) := by decide +kernel
theorem dX4_marks_70 : decode cX4_marks 70 = .ok (.iload 5, 2) := by decide +kernel
theorem dX4_marks_72 : decode cX4_marks 72 = .ok (.aload_n 0, 1) := by decide +kernel
theorem dX4_marks_73 : decode cX4_marks 73 = .ok (.getfield 7, 3) := by decide +kernel
theorem dX4_marks_76 : decode cX4_marks 76 = .ok (.iload 6, 2) := by decide +kernel
theorem dX4_marks_78 : decode cX4_marks 78 = .ok (.iload_n 1, 1) := by decide +kernel
theorem dX4_marks_79 : decode cX4_marks 79 = .ok (.invokestatic 53, 3) := by decide +kernel
theorem dX4_marks_82 : decode cX4_marks 82 = .ok (.iaload, 1) := by decide +kernel
theorem dX4_marks_83 : decode cX4_marks 83 = .ok (.iload 7, 2) := by decide +kernel
theorem dX4_marks_85 : decode cX4_marks 85 = .ok (.iand, 1) := by decide +kernel
theorem dX4_marks_86 : decode cX4_marks 86 = .ok (.invokestatic 57, 3) := by decide +kernel
theorem dX4_marks_89 : decode cX4_marks 89 = .ok (.iadd, 1) := by decide +kernel
theorem dX4_marks_90 : decode cX4_marks 90 = .ok (.istore 5, 2) := by decide +kernel
theorem dX4_marks_92 : decode cX4_marks 92 = .ok (.iinc 6 1, 3) := by decide +kernel
theorem dX4_marks_95 : decode cX4_marks 95 = .ok (.goto (-66), 3) := by decide +kernel
theorem dX4_marks_98 : decode cX4_marks 98 = .ok (.iload 5, 2) := by decide +kernel
theorem dX4_marks_100 : decode cX4_marks 100 = .ok (.ireturn, 1) := by decide +kernel
theorem dX4_isMarked_0 : decode cX4_isMarked 0 = .ok (.iload_n 1, 1) := by decide +kernel
theorem dX4_isMarked_1 : decode cX4_isMarked 1 = .ok (.invokestatic 134, 3) := by decide +kernel
theorem dX4_isMarked_4 : decode cX4_isMarked 4 = .ok (.ifCond .eq 10, 3) := by decide +kernel
theorem dX4_isMarked_7 : decode cX4_isMarked 7 = .ok (.iload_n 2, 1) := by decide +kernel
theorem dX4_isMarked_8 : decode cX4_isMarked 8 = .ok (.invokestatic 130, 3) := by decide +kernel
theorem dX4_isMarked_11 : decode cX4_isMarked 11 = .ok (.ifCond .ne 5, 3) := by decide +kernel
theorem dX4_isMarked_14 : decode cX4_isMarked 14 = .ok (.iconst (-1), 1) := by decide +kernel
theorem dX4_isMarked_15 : decode cX4_isMarked 15 = .ok (.ireturn, 1) := by decide +kernel
theorem dX4_isMarked_16 : decode cX4_isMarked 16 = .ok (.aload_n 0, 1) := by decide +kernel
theorem dX4_isMarked_17 : decode cX4_isMarked 17 = .ok (.iload_n 2, 1) := by decide +kernel
theorem dX4_isMarked_18 : decode cX4_isMarked 18 = .ok (.invokevirtual 42, 3) := by decide +kernel
theorem dX4_isMarked_21 : decode cX4_isMarked 21 = .ok (.istore_n 3, 1) := by decide +kernel
theorem dX4_isMarked_22 : decode cX4_isMarked 22 = .ok (.aload_n 0, 1) := by decide +kernel
theorem dX4_isMarked_23 : decode cX4_isMarked 23 = .ok (.aload_n 0, 1) := by decide +kernel
theorem dX4_isMarked_24 : decode cX4_isMarked 24 = .ok (.getfield 7, 3) := by decide +kernel
theorem dX4_isMarked_27 : decode cX4_isMarked 27 = .ok (.iload_n 3, 1) := by decide +kernel
theorem dX4_isMarked_28 : decode cX4_isMarked 28 = .ok (.invokevirtual 155, 3) := by decide +kernel
theorem dX4_isMarked_31 : decode cX4_isMarked 31 = .ok (.aload_n 0, 1) := by decide +kernel
theorem dX4_isMarked_32 : decode cX4_isMarked 32 = .ok (.getfield 7, 3) := by decide +kernel
theorem dX4_isMarked_35 : decode cX4_isMarked 35 = .ok (.iload_n 3, 1) := by decide +kernel
theorem dX4_isMarked_36 : decode cX4_isMarked 36 = .ok (.iload_n 1, 1) := by decide +kernel
theorem dX4_isMarked_37 : decode cX4_isMarked 37 = .ok (.invokestatic 53, 3) := by decide +kernel
theorem dX4_isMarked_40 : decode cX4_isMarked 40 = .ok (.iaload, 1) := by decide +kernel
theorem dX4_isMarked_41 : decode cX4_isMarked 41 = .ok (.iload_n 2, 1) := by decide +kernel
theorem dX4_isMarked_42 : decode cX4_isMarked 42 = .ok (.aload_n 0, 1) := by decide +kernel
theorem dX4_isMarked_43 : decode cX4_isMarked 43 = .ok (.getfield 29, 3) := by decide +kernel
theorem dX4_isMarked_46 : decode cX4_isMarked 46 = .ok (.iload_n 3, 1) := by decide +kernel
theorem dX4_isMarked_47 : decode cX4_isMarked 47 = .ok (.iaload, 1) := by decide +kernel
theorem dX4_isMarked_48 : decode cX4_isMarked 48 = .ok (.isub, 1) := by decide +kernel
theorem dX4_isMarked_49 : decode cX4_isMarked 49 = .ok (.ishr, 1) := by decide +kernel
theorem dX4_isMarked_50 : decode cX4_isMarked 50 = .ok (.iconst 1, 1) := by decide +kernel
theorem dX4_isMarked_51 : decode cX4_isMarked 51 = .ok (.iand, 1) := by decide +kernel
theorem dX4_isMarked_52 : decode cX4_isMarked 52 = .ok (.ireturn, 1) := by decide +kernel
theorem dX4_both_0 : decode cX4_both 0 = .ok (.iload_n 1, 1) := by decide +kernel
theorem dX4_both_1 : decode cX4_both 1 = .ok (.invokestatic 134, 3) := by decide +kernel
theorem dX4_both_4 : decode cX4_both 4 = .ok (.ifCond .eq 14, 3) := by decide +kernel
theorem dX4_both_7 : decode cX4_both 7 = .ok (.iload_n 2, 1) := by decide +kernel
theorem dX4_both_8 : decode cX4_both 8 = .ok (.invokestatic 134, 3) := by decide +kernel
theorem dX4_both_11 : decode cX4_both 11 = .ok (.ifCond .eq 7, 3) := by decide +kernel
theorem dX4_both_14 : decode cX4_both 14 = .ok (.iconst 1, 1) := by decide +kernel
theorem dX4_both_15 : decode cX4_both 15 = .ok (.goto 4, 3) := by decide +kernel
theorem dX4_both_18 : decode cX4_both 18 = .ok (.iconst 0, 1) := by decide +kernel
theorem dX4_both_19 : decode cX4_both 19 = .ok (.iload_n 3, 1) := by decide +kernel
theorem dX4_both_20 : decode cX4_both 20 = .ok (.iload 4, 2) := by decide +kernel
theorem dX4_both_22 : decode cX4_both 22 = .ok (.invokestatic 137, 3) := by decide +kernel
theorem dX4_both_25 : decode cX4_both 25 = .ok (.istore 5, 2) := by decide +kernel
theorem dX4_both_27 : decode cX4_both 27 = .ok (.iload 5, 2) := by decide +kernel
theorem dX4_both_29 : decode cX4_both 29 = .ok (.ifCond .eq 6, 3) := by decide +kernel
theorem dX4_both_32 : decode cX4_both 32 = .ok (.iload 5, 2) := by decide +kernel
theorem dX4_both_34 : decode cX4_both 34 = .ok (.ireturn, 1) := by decide +kernel
theorem dX4_both_35 : decode cX4_both 35 = .ok (.iconst 0, 1) := by decide +kernel
theorem dX4_both_36 : decode cX4_both 36 = .ok (.istore 6, 2) := by decide +kernel
theorem dX4_both_38 : decode cX4_both 38 = .ok (.aload_n 0, 1) := by decide +kernel
theorem dX4_both_39 : decode cX4_both 39 = .ok (.iload_n 3, 1) := by decide +kernel
theorem dX4_both_40 : decode cX4_both 40 = .ok (.invokevirtual 42, 3) := by decide +kernel
theorem dX4_both_43 : decode cX4_both 43 = .ok (.istore 7, 2) := by decide +kernel
theorem dX4_both_45 : decode cX4_both 45 = .ok (.iload 7, 2) := by decide +kernel
theorem dX4_both_47 : decode cX4_both 47 = .ok (.aload_n 0, 1) := by decide +kernel
theorem dX4_both_48 : decode cX4_both 48 = .ok (.iload 4, 2) := by decide +kernel
theorem dX4_both_50 : decode cX4_both 50 = .ok (.invokevirtual 42, 3) := by decide +kernel
theorem dX4_both_53 : decode cX4_both 53 = .ok (.if_icmp .gt 60, 3) := by decide +kernel
theorem dX4_both_56 : decode cX4_both 56 = .ok (.aload_n 0, 1) := by decide +kernel
theorem dX4_both_57 : decode cX4_both 57 = .ok (.aload_n 0, 1) := by decide +kernel
theorem dX4_both_58 : decode cX4_both 58 = .ok (.getfield 7, 3) := by decide +kernel
theorem dX4_both_61 : decode cX4_both 61 = .ok (.iload 7, 2) := by decide +kernel
theorem dX4_both_63 : decode cX4_both 63 = .ok (.invokevirtual 155, 3) := by decide +kernel
theorem dX4_both_66 : decode cX4_both 66 = .ok (.iload 6, 2) := by decide +kernel
theorem dX4_both_68 : decode cX4_both 68 = .ok (.aload_n 0, 1) := by decide +kernel
theorem dX4_both_69 : decode cX4_both 69 = .ok (.getfield 7, 3) := by decide +kernel
theorem dX4_both_72 : decode cX4_both 72 = .ok (.iload 7, 2) := by decide +kernel
theorem dX4_both_74 : decode cX4_both 74 = .ok (.iload_n 1, 1) := by decide +kernel
theorem dX4_both_75 : decode cX4_both 75 = .ok (.invokestatic 53, 3) := by decide +kernel
theorem dX4_both_78 : decode cX4_both 78 = .ok (.iaload, 1) := by decide +kernel
theorem dX4_both_79 : decode cX4_both 79 = .ok (.aload_n 0, 1) := by decide +kernel
theorem dX4_both_80 : decode cX4_both 80 = .ok (.getfield 7, 3) := by decide +kernel
theorem dX4_both_83 : decode cX4_both 83 = .ok (.iload 7, 2) := by decide +kernel
theorem dX4_both_85 : decode cX4_both 85 = .ok (.iload_n 2, 1) := by decide +kernel
theorem dX4_both_86 : decode cX4_both 86 = .ok (.invokestatic 53, 3) := by decide +kernel
theorem dX4_both_89 : decode cX4_both 89 = .ok (.iaload, 1) := by decide +kernel
theorem dX4_both_90 : decode cX4_both 90 = .ok (.iand, 1) := by decide +kernel
theorem dX4_both_91 : decode cX4_both 91 = .ok (.aload_n 0, 1) := by decide +kernel
theorem dX4_both_92 : decode cX4_both 92 = .ok (.iload 7, 2) := by decide +kernel
theorem dX4_both_94 : decode cX4_both 94 = .ok (.iload_n 3, 1) := by decide +kernel
theorem dX4_both_95 : decode cX4_both 95 = .ok (.iload 4, 2) := by decide +kernel
theorem dX4_both_97 : decode cX4_both 97 = .ok (.invokevirtual 49, 3) := by decide +kernel
theorem dX4_both_100 : decode cX4_both 100 = .ok (.iand, 1) := by decide +kernel
theorem dX4_both_101 : decode cX4_both 101 = .ok (.invokestatic 57, 3) := by decide +kernel
theorem dX4_both_104 : decode cX4_both 104 = .ok (.iadd, 1) := by decide +kernel
theorem dX4_both_105 : decode cX4_both 105 = .ok (.istore 6, 2) := by decide +kernel
theorem dX4_both_107 : decode cX4_both 107 = .ok (.iinc 7 1, 3) := by decide +kernel
theorem dX4_both_110 : decode cX4_both 110 = .ok (.goto (-65), 3) := by decide +kernel
theorem dX4_both_113 : decode cX4_both 113 = .ok (.iload 6, 2) := by decide +kernel
theorem dX4_both_115 : decode cX4_both 115 = .ok (.ireturn, 1) := by decide +kernel
theorem dX4_crowded_0 : decode cX4_crowded 0 = .ok (.iload_n 2, 1) := by decide +kernel
theorem dX4_crowded_1 : decode cX4_crowded 1 = .ok (.invokestatic 130, 3) := by decide +kernel
theorem dX4_crowded_4 : decode cX4_crowded 4 = .ok (.ifCond .eq 10, 3) := by decide +kernel
theorem dX4_crowded_7 : decode cX4_crowded 7 = .ok (.iload_n 3, 1) := by decide +kernel
theorem dX4_crowded_8 : decode cX4_crowded 8 = .ok (.invokestatic 130, 3) := by decide +kernel
theorem dX4_crowded_11 : decode cX4_crowded 11 = .ok (.ifCond .ne 5, 3) := by decide +kernel
theorem dX4_crowded_14 : decode cX4_crowded 14 = .ok (.iconst (-1), 1) := by decide +kernel
theorem dX4_crowded_15 : decode cX4_crowded 15 = .ok (.ireturn, 1) := by decide +kernel
theorem dX4_crowded_16 : decode cX4_crowded 16 = .ok (.iload_n 1, 1) := by decide +kernel
theorem dX4_crowded_17 : decode cX4_crowded 17 = .ok (.i2l, 1) := by decide +kernel
theorem dX4_crowded_18 : decode cX4_crowded 18 = .ok (.lconst 1, 1) := by decide +kernel
theorem dX4_crowded_19 : decode cX4_crowded 19 = .ok (.ldc2_w 158, 3) := by decide +kernel
theorem dX4_crowded_22 : decode cX4_crowded 22 = .ok (.invokestatic 34, 3) := by decide +kernel
theorem dX4_crowded_25 : decode cX4_crowded 25 = .ok (.ifCond .eq 8, 3) := by decide +kernel
theorem dX4_crowded_28 : decode cX4_crowded 28 = .ok (.iload_n 3, 1) := by decide +kernel
theorem dX4_crowded_29 : decode cX4_crowded 29 = .ok (.iload_n 2, 1) := by decide +kernel
theorem dX4_crowded_30 : decode cX4_crowded 30 = .ok (.if_icmp .ge 6, 3) := by decide +kernel
theorem dX4_crowded_33 : decode cX4_crowded 33 = .ok (.bipush (-2), 2) := by decide +kernel
theorem dX4_crowded_35 : decode cX4_crowded 35 = .ok (.ireturn, 1) := by decide +kernel
theorem dX4_crowded_36 : decode cX4_crowded 36 = .ok (.iconst 0, 1) := by decide +kernel
theorem dX4_crowded_37 : decode cX4_crowded 37 = .ok (.istore 4, 2) := by decide +kernel
theorem dX4_crowded_39 : decode cX4_crowded 39 = .ok (.aload_n 0, 1) := by decide +kernel
theorem dX4_crowded_40 : decode cX4_crowded 40 = .ok (.iload_n 2, 1) := by decide +kernel
theorem dX4_crowded_41 : decode cX4_crowded 41 = .ok (.invokevirtual 42, 3) := by decide +kernel
theorem dX4_crowded_44 : decode cX4_crowded 44 = .ok (.istore 5, 2) := by decide +kernel
theorem dX4_crowded_46 : decode cX4_crowded 46 = .ok (.iload 5, 2) := by decide +kernel
theorem dX4_crowded_48 : decode cX4_crowded 48 = .ok (.aload_n 0, 1) := by decide +kernel
theorem dX4_crowded_49 : decode cX4_crowded 49 = .ok (.iload_n 3, 1) := by decide +kernel
theorem dX4_crowded_50 : decode cX4_crowded 50 = .ok (.invokevirtual 42, 3) := by decide +kernel
theorem dX4_crowded_53 : decode cX4_crowded 53 = .ok (.if_icmp .gt 117, 3) := by decide +kernel
theorem dX4_crowded_56 : decode cX4_crowded 56 = .ok (.aload_n 0, 1) := by decide +kernel
theorem dX4_crowded_57 : decode cX4_crowded 57 = .ok (.aload_n 0, 1) := by decide +kernel
theorem dX4_crowded_58 : decode cX4_crowded 58 = .ok (.getfield 7, 3) := by decide +kernel
theorem dX4_crowded_61 : decode cX4_crowded 61 = .ok (.iload 5, 2) := by decide +kernel
theorem dX4_crowded_63 : decode cX4_crowded 63 = .ok (.invokevirtual 155, 3) := by decide +kernel
theorem dX4_crowded_66 : decode cX4_crowded 66 = .ok (.aload_n 0, 1) := by decide +kernel
theorem dX4_crowded_67 : decode cX4_crowded 67 = .ok (.iload 5, 2) := by decide +kernel
theorem dX4_crowded_69 : decode cX4_crowded 69 = .ok (.iload_n 2, 1) := by decide +kernel
theorem dX4_crowded_70 : decode cX4_crowded 70 = .ok (.iload_n 3, 1) := by decide +kernel
theorem dX4_crowded_71 : decode cX4_crowded 71 = .ok (.invokevirtual 49, 3) := by decide +kernel
theorem dX4_crowded_74 : decode cX4_crowded 74 = .ok (.istore 6, 2) := by decide +kernel
theorem dX4_crowded_76 : decode cX4_crowded 76 = .ok (.iconst 0, 1) := by decide +kernel
theorem dX4_crowded_77 : decode cX4_crowded 77 = .ok (.istore 7, 2) := by decide +kernel
theorem dX4_crowded_79 : decode cX4_crowded 79 = .ok (.iload 7, 2) := by decide +kernel
theorem dX4_crowded_81 : decode cX4_crowded 81 = .ok (.aload_n 0, 1) := by decide +kernel
theorem dX4_crowded_82 : decode cX4_crowded 82 = .ok (.iload 5, 2) := by decide +kernel
theorem dX4_crowded_84 : decode cX4_crowded 84 = .ok (.invokevirtual 46, 3) := by decide +kernel
theorem dX4_crowded_87 : decode cX4_crowded 87 = .ok (.if_icmp .ge 77, 3) := by decide +kernel
theorem dX4_crowded_90 : decode cX4_crowded 90 = .ok (.iconst 0, 1) := by decide +kernel
theorem dX4_crowded_91 : decode cX4_crowded 91 = .ok (.istore 8, 2) := by decide +kernel
theorem dX4_crowded_93 : decode cX4_crowded 93 = .ok (.iconst 0, 1) := by decide +kernel
theorem dX4_crowded_94 : decode cX4_crowded 94 = .ok (.istore 9, 2) := by decide +kernel
theorem dX4_crowded_96 : decode cX4_crowded 96 = .ok (.iload 9, 2) := by decide +kernel
theorem dX4_crowded_98 : decode cX4_crowded 98 = .ok (.bipush 16, 2) := by decide +kernel
theorem dX4_crowded_100 : decode cX4_crowded 100 = .ok (.if_icmp .ge 31, 3) := by decide +kernel
theorem dX4_crowded_103 : decode cX4_crowded 103 = .ok (.iload 8, 2) := by decide +kernel
theorem dX4_crowded_105 : decode cX4_crowded 105 = .ok (.aload_n 0, 1) := by decide +kernel
theorem dX4_crowded_106 : decode cX4_crowded 106 = .ok (.getfield 7, 3) := by decide +kernel
theorem dX4_crowded_109 : decode cX4_crowded 109 = .ok (.iload 5, 2) := by decide +kernel
theorem dX4_crowded_111 : decode cX4_crowded 111 = .ok (.iload 9, 2) := by decide +kernel
theorem dX4_crowded_113 : decode cX4_crowded 113 = .ok (.invokestatic 53, 3) := by decide +kernel
theorem dX4_crowded_116 : decode cX4_crowded 116 = .ok (.iaload, 1) := by decide +kernel
theorem dX4_crowded_117 : decode cX4_crowded 117 = .ok (.iload 7, 2) := by decide +kernel
theorem dX4_crowded_119 : decode cX4_crowded 119 = .ok (.ishr, 1) := by decide +kernel
theorem dX4_crowded_120 : decode cX4_crowded 120 = .ok (.iconst 1, 1) := by decide +kernel
theorem dX4_crowded_121 : decode cX4_crowded 121 = .ok (.iand, 1) := by decide +kernel
theorem dX4_crowded_122 : decode cX4_crowded 122 = .ok (.iadd, 1) := by decide +kernel
theorem dX4_crowded_123 : decode cX4_crowded 123 = .ok (.istore 8, 2) := by decide +kernel
theorem dX4_crowded_125 : decode cX4_crowded 125 = .ok (.iinc 9 1, 3) := by decide +kernel
theorem dX4_crowded_128 : decode cX4_crowded 128 = .ok (.goto (-32), 3) := by decide +kernel
theorem dX4_crowded_131 : decode cX4_crowded 131 = .ok (.iload 4, 2) := by decide +kernel
theorem dX4_crowded_133 : decode cX4_crowded 133 = .ok (.iload 6, 2) := by decide +kernel
theorem dX4_crowded_135 : decode cX4_crowded 135 = .ok (.iload 7, 2) := by decide +kernel
theorem dX4_crowded_137 : decode cX4_crowded 137 = .ok (.ishr, 1) := by decide +kernel
theorem dX4_crowded_138 : decode cX4_crowded 138 = .ok (.iconst 1, 1) := by decide +kernel
theorem dX4_crowded_139 : decode cX4_crowded 139 = .ok (.iand, 1) := by decide +kernel
theorem dX4_crowded_140 : decode cX4_crowded 140 = .ok (.iconst 1, 1) := by decide +kernel
theorem dX4_crowded_141 : decode cX4_crowded 141 = .ok (.if_icmp .ne 13, 3) := by decide +kernel
theorem dX4_crowded_144 : decode cX4_crowded 144 = .ok (.iload 8, 2) := by decide +kernel
theorem dX4_crowded_146 : decode cX4_crowded 146 = .ok (.iload_n 1, 1) := by decide +kernel
theorem dX4_crowded_147 : decode cX4_crowded 147 = .ok (.if_icmp .lt 7, 3) := by decide +kernel
theorem dX4_crowded_150 : decode cX4_crowded 150 = .ok (.iconst 1, 1) := by decide +kernel
theorem dX4_crowded_151 : decode cX4_crowded 151 = .ok (.goto 4, 3) := by decide +kernel
theorem dX4_crowded_154 : decode cX4_crowded 154 = .ok (.iconst 0, 1) := by decide +kernel
theorem dX4_crowded_155 : decode cX4_crowded 155 = .ok (.iadd, 1) := by decide +kernel
theorem dX4_crowded_156 : decode cX4_crowded 156 = .ok (.istore 4, 2) := by decide +kernel
theorem dX4_crowded_158 : decode cX4_crowded 158 = .ok (.iinc 7 1, 3) := by decide +kernel
theorem dX4_crowded_161 : decode cX4_crowded 161 = .ok (.goto (-82), 3) := by decide +kernel
theorem dX4_crowded_164 : decode cX4_crowded 164 = .ok (.iinc 5 1, 3) := by decide +kernel
theorem dX4_crowded_167 : decode cX4_crowded 167 = .ok (.goto (-121), 3) := by decide +kernel
theorem dX4_crowded_170 : decode cX4_crowded 170 = .ok (.iload 4, 2) := by decide +kernel
theorem dX4_crowded_172 : decode cX4_crowded 172 = .ok (.ireturn, 1) := by decide +kernel
theorem dX4_longest_0 : decode cX4_longest 0 = .ok (.iload_n 1, 1) := by decide +kernel
theorem dX4_longest_1 : decode cX4_longest 1 = .ok (.invokestatic 134, 3) := by decide +kernel
theorem dX4_longest_4 : decode cX4_longest 4 = .ok (.ifCond .eq 17, 3) := by decide +kernel
theorem dX4_longest_7 : decode cX4_longest 7 = .ok (.iload_n 2, 1) := by decide +kernel
theorem dX4_longest_8 : decode cX4_longest 8 = .ok (.invokestatic 130, 3) := by decide +kernel
theorem dX4_longest_11 : decode cX4_longest 11 = .ok (.ifCond .eq 10, 3) := by decide +kernel
theorem dX4_longest_14 : decode cX4_longest 14 = .ok (.iload_n 3, 1) := by decide +kernel
theorem dX4_longest_15 : decode cX4_longest 15 = .ok (.invokestatic 130, 3) := by decide +kernel
theorem dX4_longest_18 : decode cX4_longest 18 = .ok (.ifCond .ne 5, 3) := by decide +kernel
theorem dX4_longest_21 : decode cX4_longest 21 = .ok (.iconst (-1), 1) := by decide +kernel
theorem dX4_longest_22 : decode cX4_longest 22 = .ok (.ireturn, 1) := by decide +kernel
theorem dX4_longest_23 : decode cX4_longest 23 = .ok (.iload 4, 2) := by decide +kernel
theorem dX4_longest_25 : decode cX4_longest 25 = .ok (.i2l, 1) := by decide +kernel
theorem dX4_longest_26 : decode cX4_longest 26 = .ok (.lconst 0, 1) := by decide +kernel
theorem dX4_longest_27 : decode cX4_longest 27 = .ok (.lconst 1, 1) := by decide +kernel
theorem dX4_longest_28 : decode cX4_longest 28 = .ok (.invokestatic 34, 3) := by decide +kernel
theorem dX4_longest_31 : decode cX4_longest 31 = .ok (.ifCond .eq 8, 3) := by decide +kernel
theorem dX4_longest_34 : decode cX4_longest 34 = .ok (.iload_n 3, 1) := by decide +kernel
theorem dX4_longest_35 : decode cX4_longest 35 = .ok (.iload_n 2, 1) := by decide +kernel
theorem dX4_longest_36 : decode cX4_longest 36 = .ok (.if_icmp .ge 6, 3) := by decide +kernel
theorem dX4_longest_39 : decode cX4_longest 39 = .ok (.bipush (-2), 2) := by decide +kernel
theorem dX4_longest_41 : decode cX4_longest 41 = .ok (.ireturn, 1) := by decide +kernel
theorem dX4_longest_42 : decode cX4_longest 42 = .ok (.iconst 0, 1) := by decide +kernel
theorem dX4_longest_43 : decode cX4_longest 43 = .ok (.istore 5, 2) := by decide +kernel
theorem dX4_longest_45 : decode cX4_longest 45 = .ok (.bipush (-6), 2) := by decide +kernel
theorem dX4_longest_47 : decode cX4_longest 47 = .ok (.istore 6, 2) := by decide +kernel
theorem dX4_longest_49 : decode cX4_longest 49 = .ok (.iconst 0, 1) := by decide +kernel
theorem dX4_longest_50 : decode cX4_longest 50 = .ok (.istore 7, 2) := by decide +kernel
theorem dX4_longest_52 : decode cX4_longest 52 = .ok (.aload_n 0, 1) := by decide +kernel
theorem dX4_longest_53 : decode cX4_longest 53 = .ok (.iload_n 2, 1) := by decide +kernel
theorem dX4_longest_54 : decode cX4_longest 54 = .ok (.invokevirtual 42, 3) := by decide +kernel
theorem dX4_longest_57 : decode cX4_longest 57 = .ok (.istore 8, 2) := by decide +kernel
theorem dX4_longest_59 : decode cX4_longest 59 = .ok (.iload 8, 2) := by decide +kernel
theorem dX4_longest_61 : decode cX4_longest 61 = .ok (.aload_n 0, 1) := by decide +kernel
theorem dX4_longest_62 : decode cX4_longest 62 = .ok (.iload_n 3, 1) := by decide +kernel
theorem dX4_longest_63 : decode cX4_longest 63 = .ok (.invokevirtual 42, 3) := by decide +kernel
theorem dX4_longest_66 : decode cX4_longest 66 = .ok (.if_icmp .gt 141, 3) := by decide +kernel
theorem dX4_longest_69 : decode cX4_longest 69 = .ok (.aload_n 0, 1) := by decide +kernel
theorem dX4_longest_70 : decode cX4_longest 70 = .ok (.getfield 7, 3) := by decide +kernel
theorem dX4_longest_73 : decode cX4_longest 73 = .ok (.iload 8, 2) := by decide +kernel
theorem dX4_longest_75 : decode cX4_longest 75 = .ok (.iload_n 1, 1) := by decide +kernel
theorem dX4_longest_76 : decode cX4_longest 76 = .ok (.invokestatic 53, 3) := by decide +kernel
theorem dX4_longest_79 : decode cX4_longest 79 = .ok (.iaload, 1) := by decide +kernel
theorem dX4_longest_80 : decode cX4_longest 80 = .ok (.ifCond .eq 13, 3) := by decide +kernel
theorem dX4_longest_83 : decode cX4_longest 83 = .ok (.aload_n 0, 1) := by decide +kernel
theorem dX4_longest_84 : decode cX4_longest 84 = .ok (.aload_n 0, 1) := by decide +kernel
theorem dX4_longest_85 : decode cX4_longest 85 = .ok (.getfield 7, 3) := by decide +kernel
theorem dX4_longest_88 : decode cX4_longest 88 = .ok (.iload 8, 2) := by decide +kernel
theorem dX4_longest_90 : decode cX4_longest 90 = .ok (.invokevirtual 155, 3) := by decide +kernel
theorem dX4_longest_93 : decode cX4_longest 93 = .ok (.aload_n 0, 1) := by decide +kernel
theorem dX4_longest_94 : decode cX4_longest 94 = .ok (.getfield 7, 3) := by decide +kernel
theorem dX4_longest_97 : decode cX4_longest 97 = .ok (.iload 8, 2) := by decide +kernel
theorem dX4_longest_99 : decode cX4_longest 99 = .ok (.iload_n 1, 1) := by decide +kernel
theorem dX4_longest_100 : decode cX4_longest 100 = .ok (.invokestatic 53, 3) := by decide +kernel
theorem dX4_longest_103 : decode cX4_longest 103 = .ok (.iaload, 1) := by decide +kernel
theorem dX4_longest_104 : decode cX4_longest 104 = .ok (.aload_n 0, 1) := by decide +kernel
theorem dX4_longest_105 : decode cX4_longest 105 = .ok (.iload 8, 2) := by decide +kernel
theorem dX4_longest_107 : decode cX4_longest 107 = .ok (.iload_n 2, 1) := by decide +kernel
theorem dX4_longest_108 : decode cX4_longest 108 = .ok (.iload_n 3, 1) := by decide +kernel
theorem dX4_longest_109 : decode cX4_longest 109 = .ok (.invokevirtual 49, 3) := by decide +kernel
theorem dX4_longest_112 : decode cX4_longest 112 = .ok (.iand, 1) := by decide +kernel
theorem dX4_longest_113 : decode cX4_longest 113 = .ok (.istore 9, 2) := by decide +kernel
theorem dX4_longest_115 : decode cX4_longest 115 = .ok (.iconst 0, 1) := by decide +kernel
theorem dX4_longest_116 : decode cX4_longest 116 = .ok (.istore 10, 2) := by decide +kernel
theorem dX4_longest_118 : decode cX4_longest 118 = .ok (.iload 10, 2) := by decide +kernel
theorem dX4_longest_120 : decode cX4_longest 120 = .ok (.aload_n 0, 1) := by decide +kernel
theorem dX4_longest_121 : decode cX4_longest 121 = .ok (.iload 8, 2) := by decide +kernel
theorem dX4_longest_123 : decode cX4_longest 123 = .ok (.invokevirtual 46, 3) := by decide +kernel
theorem dX4_longest_126 : decode cX4_longest 126 = .ok (.if_icmp .ge 75, 3) := by decide +kernel
theorem dX4_longest_129 : decode cX4_longest 129 = .ok (.iload 9, 2) := by decide +kernel
theorem dX4_longest_131 : decode cX4_longest 131 = .ok (.iload 10, 2) := by decide +kernel
theorem dX4_longest_133 : decode cX4_longest 133 = .ok (.ishr, 1) := by decide +kernel
theorem dX4_longest_134 : decode cX4_longest 134 = .ok (.iconst 1, 1) := by decide +kernel
theorem dX4_longest_135 : decode cX4_longest 135 = .ok (.iand, 1) := by decide +kernel
theorem dX4_longest_136 : decode cX4_longest 136 = .ok (.iconst 1, 1) := by decide +kernel
theorem dX4_longest_137 : decode cX4_longest 137 = .ok (.if_icmp .ne 10, 3) := by decide +kernel
theorem dX4_longest_140 : decode cX4_longest 140 = .ok (.iload 7, 2) := by decide +kernel
theorem dX4_longest_142 : decode cX4_longest 142 = .ok (.iconst 1, 1) := by decide +kernel
theorem dX4_longest_143 : decode cX4_longest 143 = .ok (.iadd, 1) := by decide +kernel
theorem dX4_longest_144 : decode cX4_longest 144 = .ok (.goto 4, 3) := by decide +kernel
theorem dX4_longest_147 : decode cX4_longest 147 = .ok (.iconst 0, 1) := by decide +kernel
theorem dX4_longest_148 : decode cX4_longest 148 = .ok (.istore 7, 2) := by decide +kernel
theorem dX4_longest_150 : decode cX4_longest 150 = .ok (.iload 7, 2) := by decide +kernel
theorem dX4_longest_152 : decode cX4_longest 152 = .ok (.iload 5, 2) := by decide +kernel
theorem dX4_longest_154 : decode cX4_longest 154 = .ok (.if_icmp .le 21, 3) := by decide +kernel
theorem dX4_longest_157 : decode cX4_longest 157 = .ok (.aload_n 0, 1) := by decide +kernel
theorem dX4_longest_158 : decode cX4_longest 158 = .ok (.getfield 29, 3) := by decide +kernel
theorem dX4_longest_161 : decode cX4_longest 161 = .ok (.iload 8, 2) := by decide +kernel
theorem dX4_longest_163 : decode cX4_longest 163 = .ok (.iaload, 1) := by decide +kernel
theorem dX4_longest_164 : decode cX4_longest 164 = .ok (.iload 10, 2) := by decide +kernel
theorem dX4_longest_166 : decode cX4_longest 166 = .ok (.iadd, 1) := by decide +kernel
theorem dX4_longest_167 : decode cX4_longest 167 = .ok (.iload 7, 2) := by decide +kernel
theorem dX4_longest_169 : decode cX4_longest 169 = .ok (.isub, 1) := by decide +kernel
theorem dX4_longest_170 : decode cX4_longest 170 = .ok (.iconst 1, 1) := by decide +kernel
theorem dX4_longest_171 : decode cX4_longest 171 = .ok (.iadd, 1) := by decide +kernel
theorem dX4_longest_172 : decode cX4_longest 172 = .ok (.goto 5, 3) := by decide +kernel
theorem dX4_longest_175 : decode cX4_longest 175 = .ok (.iload 6, 2) := by decide +kernel
theorem dX4_longest_177 : decode cX4_longest 177 = .ok (.istore 6, 2) := by decide +kernel
theorem dX4_longest_179 : decode cX4_longest 179 = .ok (.iload 7, 2) := by decide +kernel
theorem dX4_longest_181 : decode cX4_longest 181 = .ok (.iload 5, 2) := by decide +kernel
theorem dX4_longest_183 : decode cX4_longest 183 = .ok (.if_icmp .le 8, 3) := by decide +kernel
theorem dX4_longest_186 : decode cX4_longest 186 = .ok (.iload 7, 2) := by decide +kernel
theorem dX4_longest_188 : decode cX4_longest 188 = .ok (.goto 5, 3) := by decide +kernel
theorem dX4_longest_191 : decode cX4_longest 191 = .ok (.iload 5, 2) := by decide +kernel
theorem dX4_longest_193 : decode cX4_longest 193 = .ok (.istore 5, 2) := by decide +kernel
theorem dX4_longest_195 : decode cX4_longest 195 = .ok (.iinc 10 1, 3) := by decide +kernel
theorem dX4_longest_198 : decode cX4_longest 198 = .ok (.goto (-80), 3) := by decide +kernel
theorem dX4_longest_201 : decode cX4_longest 201 = .ok (.iinc 8 1, 3) := by decide +kernel
theorem dX4_longest_204 : decode cX4_longest 204 = .ok (.goto (-145), 3) := by decide +kernel
theorem dX4_longest_207 : decode cX4_longest 207 = .ok (.iload 4, 2) := by decide +kernel
theorem dX4_longest_209 : decode cX4_longest 209 = .ok (.ifCond .ne 8, 3) := by decide +kernel
theorem dX4_longest_212 : decode cX4_longest 212 = .ok (.iload 5, 2) := by decide +kernel
theorem dX4_longest_214 : decode cX4_longest 214 = .ok (.goto 5, 3) := by decide +kernel
theorem dX4_longest_217 : decode cX4_longest 217 = .ok (.iload 6, 2) := by decide +kernel
theorem dX4_longest_219 : decode cX4_longest 219 = .ok (.ireturn, 1) := by decide +kernel
theorem dX4_nextMark_0 : decode cX4_nextMark 0 = .ok (.iload_n 1, 1) := by decide +kernel
theorem dX4_nextMark_1 : decode cX4_nextMark 1 = .ok (.invokestatic 134, 3) := by decide +kernel
theorem dX4_nextMark_4 : decode cX4_nextMark 4 = .ok (.ifCond .eq 10, 3) := by decide +kernel
theorem dX4_nextMark_7 : decode cX4_nextMark 7 = .ok (.iload_n 2, 1) := by decide +kernel
theorem dX4_nextMark_8 : decode cX4_nextMark 8 = .ok (.invokestatic 130, 3) := by decide +kernel
theorem dX4_nextMark_11 : decode cX4_nextMark 11 = .ok (.ifCond .ne 5, 3) := by decide +kernel
theorem dX4_nextMark_14 : decode cX4_nextMark 14 = .ok (.iconst (-1), 1) := by decide +kernel
theorem dX4_nextMark_15 : decode cX4_nextMark 15 = .ok (.ireturn, 1) := by decide +kernel
theorem dX4_nextMark_16 : decode cX4_nextMark 16 = .ok (.aload_n 0, 1) := by decide +kernel
theorem dX4_nextMark_17 : decode cX4_nextMark 17 = .ok (.iload_n 2, 1) := by decide +kernel
theorem dX4_nextMark_18 : decode cX4_nextMark 18 = .ok (.invokevirtual 42, 3) := by decide +kernel
theorem dX4_nextMark_21 : decode cX4_nextMark 21 = .ok (.istore_n 3, 1) := by decide +kernel
theorem dX4_nextMark_22 : decode cX4_nextMark 22 = .ok (.iload_n 3, 1) := by decide +kernel
theorem dX4_nextMark_23 : decode cX4_nextMark 23 = .ok (.bipush 120, 2) := by decide +kernel
theorem dX4_nextMark_25 : decode cX4_nextMark 25 = .ok (.if_icmp .ge 93, 3) := by decide +kernel
theorem dX4_nextMark_28 : decode cX4_nextMark 28 = .ok (.aload_n 0, 1) := by decide +kernel
theorem dX4_nextMark_29 : decode cX4_nextMark 29 = .ok (.getfield 7, 3) := by decide +kernel
theorem dX4_nextMark_32 : decode cX4_nextMark 32 = .ok (.iload_n 3, 1) := by decide +kernel
theorem dX4_nextMark_33 : decode cX4_nextMark 33 = .ok (.iload_n 1, 1) := by decide +kernel
theorem dX4_nextMark_34 : decode cX4_nextMark 34 = .ok (.invokestatic 53, 3) := by decide +kernel
theorem dX4_nextMark_37 : decode cX4_nextMark 37 = .ok (.iaload, 1) := by decide +kernel
theorem dX4_nextMark_38 : decode cX4_nextMark 38 = .ok (.ifCond .eq 74, 3) := by decide +kernel
theorem dX4_nextMark_41 : decode cX4_nextMark 41 = .ok (.aload_n 0, 1) := by decide +kernel
theorem dX4_nextMark_42 : decode cX4_nextMark 42 = .ok (.aload_n 0, 1) := by decide +kernel
theorem dX4_nextMark_43 : decode cX4_nextMark 43 = .ok (.getfield 7, 3) := by decide +kernel
theorem dX4_nextMark_46 : decode cX4_nextMark 46 = .ok (.iload_n 3, 1) := by decide +kernel
theorem dX4_nextMark_47 : decode cX4_nextMark 47 = .ok (.invokevirtual 155, 3) := by decide +kernel
theorem dX4_nextMark_50 : decode cX4_nextMark 50 = .ok (.aload_n 0, 1) := by decide +kernel
theorem dX4_nextMark_51 : decode cX4_nextMark 51 = .ok (.getfield 7, 3) := by decide +kernel
theorem dX4_nextMark_54 : decode cX4_nextMark 54 = .ok (.iload_n 3, 1) := by decide +kernel
theorem dX4_nextMark_55 : decode cX4_nextMark 55 = .ok (.iload_n 1, 1) := by decide +kernel
theorem dX4_nextMark_56 : decode cX4_nextMark 56 = .ok (.invokestatic 53, 3) := by decide +kernel
theorem dX4_nextMark_59 : decode cX4_nextMark 59 = .ok (.iaload, 1) := by decide +kernel
theorem dX4_nextMark_60 : decode cX4_nextMark 60 = .ok (.aload_n 0, 1) := by decide +kernel
theorem dX4_nextMark_61 : decode cX4_nextMark 61 = .ok (.iload_n 3, 1) := by decide +kernel
theorem dX4_nextMark_62 : decode cX4_nextMark 62 = .ok (.iload_n 2, 1) := by decide +kernel
theorem dX4_nextMark_63 : decode cX4_nextMark 63 = .ok (.sipush 3649, 3) := by decide +kernel
theorem dX4_nextMark_66 : decode cX4_nextMark 66 = .ok (.invokevirtual 49, 3) := by decide +kernel
theorem dX4_nextMark_69 : decode cX4_nextMark 69 = .ok (.iand, 1) := by decide +kernel
theorem dX4_nextMark_70 : decode cX4_nextMark 70 = .ok (.istore 4, 2) := by decide +kernel
theorem dX4_nextMark_72 : decode cX4_nextMark 72 = .ok (.iconst 0, 1) := by decide +kernel
theorem dX4_nextMark_73 : decode cX4_nextMark 73 = .ok (.istore 5, 2) := by decide +kernel
theorem dX4_nextMark_75 : decode cX4_nextMark 75 = .ok (.iload 5, 2) := by decide +kernel
theorem dX4_nextMark_77 : decode cX4_nextMark 77 = .ok (.aload_n 0, 1) := by decide +kernel
theorem dX4_nextMark_78 : decode cX4_nextMark 78 = .ok (.iload_n 3, 1) := by decide +kernel
theorem dX4_nextMark_79 : decode cX4_nextMark 79 = .ok (.invokevirtual 46, 3) := by decide +kernel
theorem dX4_nextMark_82 : decode cX4_nextMark 82 = .ok (.if_icmp .ge 30, 3) := by decide +kernel
theorem dX4_nextMark_85 : decode cX4_nextMark 85 = .ok (.iload 4, 2) := by decide +kernel
theorem dX4_nextMark_87 : decode cX4_nextMark 87 = .ok (.iload 5, 2) := by decide +kernel
theorem dX4_nextMark_89 : decode cX4_nextMark 89 = .ok (.ishr, 1) := by decide +kernel
theorem dX4_nextMark_90 : decode cX4_nextMark 90 = .ok (.iconst 1, 1) := by decide +kernel
theorem dX4_nextMark_91 : decode cX4_nextMark 91 = .ok (.iand, 1) := by decide +kernel
theorem dX4_nextMark_92 : decode cX4_nextMark 92 = .ok (.iconst 1, 1) := by decide +kernel
theorem dX4_nextMark_93 : decode cX4_nextMark 93 = .ok (.if_icmp .ne 13, 3) := by decide +kernel
theorem dX4_nextMark_96 : decode cX4_nextMark 96 = .ok (.aload_n 0, 1) := by decide +kernel
theorem dX4_nextMark_97 : decode cX4_nextMark 97 = .ok (.getfield 29, 3) := by decide +kernel
theorem dX4_nextMark_100 : decode cX4_nextMark 100 = .ok (.iload_n 3, 1) := by decide +kernel
theorem dX4_nextMark_101 : decode cX4_nextMark 101 = .ok (.iaload, 1) := by decide +kernel
theorem dX4_nextMark_102 : decode cX4_nextMark 102 = .ok (.iload 5, 2) := by decide +kernel
theorem dX4_nextMark_104 : decode cX4_nextMark 104 = .ok (.iadd, 1) := by decide +kernel
theorem dX4_nextMark_105 : decode cX4_nextMark 105 = .ok (.ireturn, 1) := by decide +kernel
theorem dX4_nextMark_106 : decode cX4_nextMark 106 = .ok (.iinc 5 1, 3) := by decide +kernel
theorem dX4_nextMark_109 : decode cX4_nextMark 109 = .ok (.goto (-34), 3) := by decide +kernel
theorem dX4_nextMark_112 : decode cX4_nextMark 112 = .ok (.iinc 3 1, 3) := by decide +kernel
theorem dX4_nextMark_115 : decode cX4_nextMark 115 = .ok (.goto (-93), 3) := by decide +kernel
theorem dX4_nextMark_118 : decode cX4_nextMark 118 = .ok (.bipush (-6), 2) := by decide +kernel
theorem dX4_nextMark_120 : decode cX4_nextMark 120 = .ok (.ireturn, 1) := by decide +kernel
theorem dX4_subjectsIn_0 : decode cX4_subjectsIn 0 = .ok (.iconst 0, 1) := by decide +kernel
theorem dX4_subjectsIn_1 : decode cX4_subjectsIn 1 = .ok (.istore_n 2, 1) := by decide +kernel
theorem dX4_subjectsIn_2 : decode cX4_subjectsIn 2 = .ok (.iconst 0, 1) := by decide +kernel
theorem dX4_subjectsIn_3 : decode cX4_subjectsIn 3 = .ok (.istore_n 3, 1) := by decide +kernel
theorem dX4_subjectsIn_4 : decode cX4_subjectsIn 4 = .ok (.iload_n 3, 1) := by decide +kernel
theorem dX4_subjectsIn_5 : decode cX4_subjectsIn 5 = .ok (.bipush 16, 2) := by decide +kernel
theorem dX4_subjectsIn_7 : decode cX4_subjectsIn 7 = .ok (.if_icmp .ge 29, 3) := by decide +kernel
theorem dX4_subjectsIn_10 : decode cX4_subjectsIn 10 = .ok (.iload_n 2, 1) := by decide +kernel
theorem dX4_subjectsIn_11 : decode cX4_subjectsIn 11 = .ok (.aload_n 0, 1) := by decide +kernel
theorem dX4_subjectsIn_12 : decode cX4_subjectsIn 12 = .ok (.iload_n 1, 1) := by decide +kernel
theorem dX4_subjectsIn_13 : decode cX4_subjectsIn 13 = .ok (.iload_n 3, 1) := by decide +kernel
theorem dX4_subjectsIn_14 : decode cX4_subjectsIn 14 = .ok (.invokestatic 53, 3) := by decide +kernel
theorem dX4_subjectsIn_17 : decode cX4_subjectsIn 17 = .ok (.iaload, 1) := by decide +kernel
theorem dX4_subjectsIn_18 : decode cX4_subjectsIn 18 = .ok (.ifCond .eq 9, 3) := by decide +kernel
theorem dX4_subjectsIn_21 : decode cX4_subjectsIn 21 = .ok (.iconst 1, 1) := by decide +kernel
theorem dX4_subjectsIn_22 : decode cX4_subjectsIn 22 = .ok (.iload_n 3, 1) := by decide +kernel
theorem dX4_subjectsIn_23 : decode cX4_subjectsIn 23 = .ok (.ishl, 1) := by decide +kernel
theorem dX4_subjectsIn_24 : decode cX4_subjectsIn 24 = .ok (.goto 4, 3) := by decide +kernel
theorem dX4_subjectsIn_27 : decode cX4_subjectsIn 27 = .ok (.iconst 0, 1) := by decide +kernel
theorem dX4_subjectsIn_28 : decode cX4_subjectsIn 28 = .ok (.ior, 1) := by decide +kernel
theorem dX4_subjectsIn_29 : decode cX4_subjectsIn 29 = .ok (.istore_n 2, 1) := by decide +kernel
theorem dX4_subjectsIn_30 : decode cX4_subjectsIn 30 = .ok (.iinc 3 1, 3) := by decide +kernel
theorem dX4_subjectsIn_33 : decode cX4_subjectsIn 33 = .ok (.goto (-29), 3) := by decide +kernel
theorem dX4_subjectsIn_36 : decode cX4_subjectsIn 36 = .ok (.iload_n 2, 1) := by decide +kernel
theorem dX4_subjectsIn_37 : decode cX4_subjectsIn 37 = .ok (.ireturn, 1) := by decide +kernel
theorem dX4_ofMonth_0 : decode cX4_ofMonth 0 = .ok (.iload_n 1, 1) := by decide +kernel
theorem dX4_ofMonth_1 : decode cX4_ofMonth 1 = .ok (.invokestatic 160, 3) := by decide +kernel
theorem dX4_ofMonth_4 : decode cX4_ofMonth 4 = .ok (.ifCond .ne 5, 3) := by decide +kernel
theorem dX4_ofMonth_7 : decode cX4_ofMonth 7 = .ok (.iconst (-1), 1) := by decide +kernel
theorem dX4_ofMonth_8 : decode cX4_ofMonth 8 = .ok (.ireturn, 1) := by decide +kernel
theorem dX4_ofMonth_9 : decode cX4_ofMonth 9 = .ok (.iload_n 2, 1) := by decide +kernel
theorem dX4_ofMonth_10 : decode cX4_ofMonth 10 = .ok (.tableswitch 197 0 9 #[54, 61, 67, 85, 104, 132, 141, 170, 179, 188], 54) := by decide +kernel
theorem dX4_ofMonth_64 : decode cX4_ofMonth 64 = .ok (.aload_n 0, 1) := by decide +kernel
theorem dX4_ofMonth_65 : decode cX4_ofMonth 65 = .ok (.getfield 29, 3) := by decide +kernel
theorem dX4_ofMonth_68 : decode cX4_ofMonth 68 = .ok (.iload_n 1, 1) := by decide +kernel
theorem dX4_ofMonth_69 : decode cX4_ofMonth 69 = .ok (.iaload, 1) := by decide +kernel
theorem dX4_ofMonth_70 : decode cX4_ofMonth 70 = .ok (.ireturn, 1) := by decide +kernel
theorem dX4_ofMonth_71 : decode cX4_ofMonth 71 = .ok (.aload_n 0, 1) := by decide +kernel
theorem dX4_ofMonth_72 : decode cX4_ofMonth 72 = .ok (.iload_n 1, 1) := by decide +kernel
theorem dX4_ofMonth_73 : decode cX4_ofMonth 73 = .ok (.invokevirtual 46, 3) := by decide +kernel
theorem dX4_ofMonth_76 : decode cX4_ofMonth 76 = .ok (.ireturn, 1) := by decide +kernel
theorem dX4_ofMonth_77 : decode cX4_ofMonth 77 = .ok (.aload_n 0, 1) := by decide +kernel
theorem dX4_ofMonth_78 : decode cX4_ofMonth 78 = .ok (.aload_n 0, 1) := by decide +kernel
theorem dX4_ofMonth_79 : decode cX4_ofMonth 79 = .ok (.getfield 7, 3) := by decide +kernel
theorem dX4_ofMonth_82 : decode cX4_ofMonth 82 = .ok (.iload_n 1, 1) := by decide +kernel
theorem dX4_ofMonth_83 : decode cX4_ofMonth 83 = .ok (.invokevirtual 93, 3) := by decide +kernel
theorem dX4_ofMonth_86 : decode cX4_ofMonth 86 = .ok (.ifCond .eq 7, 3) := by decide +kernel
theorem dX4_ofMonth_89 : decode cX4_ofMonth 89 = .ok (.iconst 1, 1) := by decide +kernel
theorem dX4_ofMonth_90 : decode cX4_ofMonth 90 = .ok (.goto 4, 3) := by decide +kernel
theorem dX4_ofMonth_93 : decode cX4_ofMonth 93 = .ok (.iconst 0, 1) := by decide +kernel
theorem dX4_ofMonth_94 : decode cX4_ofMonth 94 = .ok (.ireturn, 1) := by decide +kernel
theorem dX4_ofMonth_95 : decode cX4_ofMonth 95 = .ok (.aload_n 0, 1) := by decide +kernel
theorem dX4_ofMonth_96 : decode cX4_ofMonth 96 = .ok (.getfield 7, 3) := by decide +kernel
theorem dX4_ofMonth_99 : decode cX4_ofMonth 99 = .ok (.iload_n 1, 1) := by decide +kernel
theorem dX4_ofMonth_100 : decode cX4_ofMonth 100 = .ok (.invokestatic 90, 3) := by decide +kernel
theorem dX4_ofMonth_103 : decode cX4_ofMonth 103 = .ok (.bipush (-6), 2) := by decide +kernel
theorem dX4_ofMonth_105 : decode cX4_ofMonth 105 = .ok (.if_icmp .eq 7, 3) := by decide +kernel
theorem dX4_ofMonth_108 : decode cX4_ofMonth 108 = .ok (.iconst 1, 1) := by decide +kernel
theorem dX4_ofMonth_109 : decode cX4_ofMonth 109 = .ok (.goto 4, 3) := by decide +kernel
theorem dX4_ofMonth_112 : decode cX4_ofMonth 112 = .ok (.iconst 0, 1) := by decide +kernel
theorem dX4_ofMonth_113 : decode cX4_ofMonth 113 = .ok (.ireturn, 1) := by decide +kernel
theorem dX4_ofMonth_114 : decode cX4_ofMonth 114 = .ok (.aload_n 0, 1) := by decide +kernel
theorem dX4_ofMonth_115 : decode cX4_ofMonth 115 = .ok (.getfield 7, 3) := by decide +kernel
theorem dX4_ofMonth_118 : decode cX4_ofMonth 118 = .ok (.bipush 15, 2) := by decide +kernel
theorem dX4_ofMonth_120 : decode cX4_ofMonth 120 = .ok (.iload_n 1, 1) := by decide +kernel
theorem dX4_ofMonth_121 : decode cX4_ofMonth 121 = .ok (.iadd, 1) := by decide +kernel
theorem dX4_ofMonth_122 : decode cX4_ofMonth 122 = .ok (.iaload, 1) := by decide +kernel
theorem dX4_ofMonth_123 : decode cX4_ofMonth 123 = .ok (.ifCond .ne 7, 3) := by decide +kernel
theorem dX4_ofMonth_126 : decode cX4_ofMonth 126 = .ok (.iconst 4, 1) := by decide +kernel
theorem dX4_ofMonth_127 : decode cX4_ofMonth 127 = .ok (.goto 14, 3) := by decide +kernel
theorem dX4_ofMonth_130 : decode cX4_ofMonth 130 = .ok (.aload_n 0, 1) := by decide +kernel
theorem dX4_ofMonth_131 : decode cX4_ofMonth 131 = .ok (.getfield 7, 3) := by decide +kernel
theorem dX4_ofMonth_134 : decode cX4_ofMonth 134 = .ok (.bipush 15, 2) := by decide +kernel
theorem dX4_ofMonth_136 : decode cX4_ofMonth 136 = .ok (.iload_n 1, 1) := by decide +kernel
theorem dX4_ofMonth_137 : decode cX4_ofMonth 137 = .ok (.iadd, 1) := by decide +kernel
theorem dX4_ofMonth_138 : decode cX4_ofMonth 138 = .ok (.iaload, 1) := by decide +kernel
theorem dX4_ofMonth_139 : decode cX4_ofMonth 139 = .ok (.iconst 1, 1) := by decide +kernel
theorem dX4_ofMonth_140 : decode cX4_ofMonth 140 = .ok (.isub, 1) := by decide +kernel
theorem dX4_ofMonth_141 : decode cX4_ofMonth 141 = .ok (.ireturn, 1) := by decide +kernel
theorem dX4_ofMonth_142 : decode cX4_ofMonth 142 = .ok (.aload_n 0, 1) := by decide +kernel
theorem dX4_ofMonth_143 : decode cX4_ofMonth 143 = .ok (.getfield 7, 3) := by decide +kernel
theorem dX4_ofMonth_146 : decode cX4_ofMonth 146 = .ok (.iload_n 1, 1) := by decide +kernel
theorem dX4_ofMonth_147 : decode cX4_ofMonth 147 = .ok (.invokestatic 79, 3) := by decide +kernel
theorem dX4_ofMonth_150 : decode cX4_ofMonth 150 = .ok (.ireturn, 1) := by decide +kernel
theorem dX4_ofMonth_151 : decode cX4_ofMonth 151 = .ok (.aload_n 0, 1) := by decide +kernel
theorem dX4_ofMonth_152 : decode cX4_ofMonth 152 = .ok (.getfield 7, 3) := by decide +kernel
theorem dX4_ofMonth_155 : decode cX4_ofMonth 155 = .ok (.bipush 15, 2) := by decide +kernel
theorem dX4_ofMonth_157 : decode cX4_ofMonth 157 = .ok (.iload_n 1, 1) := by decide +kernel
theorem dX4_ofMonth_158 : decode cX4_ofMonth 158 = .ok (.iadd, 1) := by decide +kernel
theorem dX4_ofMonth_159 : decode cX4_ofMonth 159 = .ok (.iaload, 1) := by decide +kernel
theorem dX4_ofMonth_160 : decode cX4_ofMonth 160 = .ok (.iconst 2, 1) := by decide +kernel
theorem dX4_ofMonth_161 : decode cX4_ofMonth 161 = .ok (.if_icmp .ne 16, 3) := by decide +kernel
theorem dX4_ofMonth_164 : decode cX4_ofMonth 164 = .ok (.aload_n 0, 1) := by decide +kernel
theorem dX4_ofMonth_165 : decode cX4_ofMonth 165 = .ok (.getfield 7, 3) := by decide +kernel
theorem dX4_ofMonth_168 : decode cX4_ofMonth 168 = .ok (.sipush 135, 3) := by decide +kernel
theorem dX4_ofMonth_171 : decode cX4_ofMonth 171 = .ok (.iload_n 1, 1) := by decide +kernel
theorem dX4_ofMonth_172 : decode cX4_ofMonth 172 = .ok (.iadd, 1) := by decide +kernel
theorem dX4_ofMonth_173 : decode cX4_ofMonth 173 = .ok (.iaload, 1) := by decide +kernel
theorem dX4_ofMonth_174 : decode cX4_ofMonth 174 = .ok (.goto 5, 3) := by decide +kernel
theorem dX4_ofMonth_177 : decode cX4_ofMonth 177 = .ok (.bipush (-6), 2) := by decide +kernel
theorem dX4_ofMonth_179 : decode cX4_ofMonth 179 = .ok (.ireturn, 1) := by decide +kernel
theorem dX4_ofMonth_180 : decode cX4_ofMonth 180 = .ok (.aload_n 0, 1) := by decide +kernel
theorem dX4_ofMonth_181 : decode cX4_ofMonth 181 = .ok (.getfield 7, 3) := by decide +kernel
theorem dX4_ofMonth_184 : decode cX4_ofMonth 184 = .ok (.iload_n 1, 1) := by decide +kernel
theorem dX4_ofMonth_185 : decode cX4_ofMonth 185 = .ok (.invokestatic 64, 3) := by decide +kernel
theorem dX4_ofMonth_188 : decode cX4_ofMonth 188 = .ok (.ireturn, 1) := by decide +kernel
theorem dX4_ofMonth_189 : decode cX4_ofMonth 189 = .ok (.aload_n 0, 1) := by decide +kernel
theorem dX4_ofMonth_190 : decode cX4_ofMonth 190 = .ok (.getfield 7, 3) := by decide +kernel
theorem dX4_ofMonth_193 : decode cX4_ofMonth 193 = .ok (.iload_n 1, 1) := by decide +kernel
theorem dX4_ofMonth_194 : decode cX4_ofMonth 194 = .ok (.invokestatic 163, 3) := by decide +kernel
theorem dX4_ofMonth_197 : decode cX4_ofMonth 197 = .ok (.ireturn, 1) := by decide +kernel
theorem dX4_ofMonth_198 : decode cX4_ofMonth 198 = .ok (.aload_n 0, 1) := by decide +kernel
theorem dX4_ofMonth_199 : decode cX4_ofMonth 199 = .ok (.getfield 7, 3) := by decide +kernel
theorem dX4_ofMonth_202 : decode cX4_ofMonth 202 = .ok (.iload_n 1, 1) := by decide +kernel
theorem dX4_ofMonth_203 : decode cX4_ofMonth 203 = .ok (.invokestatic 90, 3) := by decide +kernel
theorem dX4_ofMonth_206 : decode cX4_ofMonth 206 = .ok (.ireturn, 1) := by decide +kernel
theorem dX4_ofMonth_207 : decode cX4_ofMonth 207 = .ok (.bipush (-2), 2) := by decide +kernel
theorem dX4_ofMonth_209 : decode cX4_ofMonth 209 = .ok (.ireturn, 1) := by decide +kernel
theorem dX4_inMonth_0 : decode cX4_inMonth 0 = .ok (.iload_n 1, 1) := by decide +kernel
theorem dX4_inMonth_1 : decode cX4_inMonth 1 = .ok (.invokestatic 134, 3) := by decide +kernel
theorem dX4_inMonth_4 : decode cX4_inMonth 4 = .ok (.ifCond .eq 26, 3) := by decide +kernel
theorem dX4_inMonth_7 : decode cX4_inMonth 7 = .ok (.iload_n 2, 1) := by decide +kernel
theorem dX4_inMonth_8 : decode cX4_inMonth 8 = .ok (.invokestatic 160, 3) := by decide +kernel
theorem dX4_inMonth_11 : decode cX4_inMonth 11 = .ok (.ifCond .eq 19, 3) := by decide +kernel
theorem dX4_inMonth_14 : decode cX4_inMonth 14 = .ok (.aload_n 0, 1) := by decide +kernel
theorem dX4_inMonth_15 : decode cX4_inMonth 15 = .ok (.getfield 7, 3) := by decide +kernel
theorem dX4_inMonth_18 : decode cX4_inMonth 18 = .ok (.iload_n 2, 1) := by decide +kernel
theorem dX4_inMonth_19 : decode cX4_inMonth 19 = .ok (.iload_n 1, 1) := by decide +kernel
theorem dX4_inMonth_20 : decode cX4_inMonth 20 = .ok (.invokestatic 53, 3) := by decide +kernel
theorem dX4_inMonth_23 : decode cX4_inMonth 23 = .ok (.iaload, 1) := by decide +kernel
theorem dX4_inMonth_24 : decode cX4_inMonth 24 = .ok (.invokestatic 57, 3) := by decide +kernel
theorem dX4_inMonth_27 : decode cX4_inMonth 27 = .ok (.goto 4, 3) := by decide +kernel
theorem dX4_inMonth_30 : decode cX4_inMonth 30 = .ok (.iconst (-1), 1) := by decide +kernel
theorem dX4_inMonth_31 : decode cX4_inMonth 31 = .ok (.ireturn, 1) := by decide +kernel
theorem dX4_dayOf_0 : decode cX4_dayOf 0 = .ok (.iload_n 1, 1) := by decide +kernel
theorem dX4_dayOf_1 : decode cX4_dayOf 1 = .ok (.i2l, 1) := by decide +kernel
theorem dX4_dayOf_2 : decode cX4_dayOf 2 = .ok (.lconst 0, 1) := by decide +kernel
theorem dX4_dayOf_3 : decode cX4_dayOf 3 = .ok (.ldc2_w 166, 3) := by decide +kernel
theorem dX4_dayOf_6 : decode cX4_dayOf 6 = .ok (.invokestatic 34, 3) := by decide +kernel
theorem dX4_dayOf_9 : decode cX4_dayOf 9 = .ok (.ifCond .eq 15, 3) := by decide +kernel
theorem dX4_dayOf_12 : decode cX4_dayOf 12 = .ok (.iload_n 2, 1) := by decide +kernel
theorem dX4_dayOf_13 : decode cX4_dayOf 13 = .ok (.i2l, 1) := by decide +kernel
theorem dX4_dayOf_14 : decode cX4_dayOf 14 = .ok (.lconst 1, 1) := by decide +kernel
theorem dX4_dayOf_15 : decode cX4_dayOf 15 = .ok (.ldc2_w 115, 3) := by decide +kernel
theorem dX4_dayOf_18 : decode cX4_dayOf 18 = .ok (.invokestatic 34, 3) := by decide +kernel
theorem dX4_dayOf_21 : decode cX4_dayOf 21 = .ok (.ifCond .ne 5, 3) := by decide +kernel
theorem dX4_dayOf_24 : decode cX4_dayOf 24 = .ok (.iconst (-1), 1) := by decide +kernel
theorem dX4_dayOf_25 : decode cX4_dayOf 25 = .ok (.ireturn, 1) := by decide +kernel
theorem dX4_dayOf_26 : decode cX4_dayOf 26 = .ok (.bipush 12, 2) := by decide +kernel
theorem dX4_dayOf_28 : decode cX4_dayOf 28 = .ok (.iload_n 1, 1) := by decide +kernel
theorem dX4_dayOf_29 : decode cX4_dayOf 29 = .ok (.imul, 1) := by decide +kernel
theorem dX4_dayOf_30 : decode cX4_dayOf 30 = .ok (.iload_n 2, 1) := by decide +kernel
theorem dX4_dayOf_31 : decode cX4_dayOf 31 = .ok (.iadd, 1) := by decide +kernel
theorem dX4_dayOf_32 : decode cX4_dayOf 32 = .ok (.iconst 1, 1) := by decide +kernel
theorem dX4_dayOf_33 : decode cX4_dayOf 33 = .ok (.isub, 1) := by decide +kernel
theorem dX4_dayOf_34 : decode cX4_dayOf 34 = .ok (.istore 4, 2) := by decide +kernel
theorem dX4_dayOf_36 : decode cX4_dayOf 36 = .ok (.iload_n 3, 1) := by decide +kernel
theorem dX4_dayOf_37 : decode cX4_dayOf 37 = .ok (.i2l, 1) := by decide +kernel
theorem dX4_dayOf_38 : decode cX4_dayOf 38 = .ok (.lconst 1, 1) := by decide +kernel
theorem dX4_dayOf_39 : decode cX4_dayOf 39 = .ok (.aload_n 0, 1) := by decide +kernel
theorem dX4_dayOf_40 : decode cX4_dayOf 40 = .ok (.iload 4, 2) := by decide +kernel
theorem dX4_dayOf_42 : decode cX4_dayOf 42 = .ok (.invokevirtual 46, 3) := by decide +kernel
theorem dX4_dayOf_45 : decode cX4_dayOf 45 = .ok (.i2l, 1) := by decide +kernel
theorem dX4_dayOf_46 : decode cX4_dayOf 46 = .ok (.invokestatic 34, 3) := by decide +kernel
theorem dX4_dayOf_49 : decode cX4_dayOf 49 = .ok (.ifCond .eq 17, 3) := by decide +kernel
theorem dX4_dayOf_52 : decode cX4_dayOf 52 = .ok (.aload_n 0, 1) := by decide +kernel
theorem dX4_dayOf_53 : decode cX4_dayOf 53 = .ok (.getfield 29, 3) := by decide +kernel
theorem dX4_dayOf_56 : decode cX4_dayOf 56 = .ok (.iload 4, 2) := by decide +kernel
theorem dX4_dayOf_58 : decode cX4_dayOf 58 = .ok (.iaload, 1) := by decide +kernel
theorem dX4_dayOf_59 : decode cX4_dayOf 59 = .ok (.iload_n 3, 1) := by decide +kernel
theorem dX4_dayOf_60 : decode cX4_dayOf 60 = .ok (.iadd, 1) := by decide +kernel
theorem dX4_dayOf_61 : decode cX4_dayOf 61 = .ok (.iconst 1, 1) := by decide +kernel
theorem dX4_dayOf_62 : decode cX4_dayOf 62 = .ok (.isub, 1) := by decide +kernel
theorem dX4_dayOf_63 : decode cX4_dayOf 63 = .ok (.goto 4, 3) := by decide +kernel
theorem dX4_dayOf_66 : decode cX4_dayOf 66 = .ok (.iconst (-1), 1) := by decide +kernel
theorem dX4_dayOf_67 : decode cX4_dayOf 67 = .ok (.ireturn, 1) := by decide +kernel
theorem dX4_dateOf_0 : decode cX4_dateOf 0 = .ok (.iload_n 1, 1) := by decide +kernel
theorem dX4_dateOf_1 : decode cX4_dateOf 1 = .ok (.invokestatic 130, 3) := by decide +kernel
theorem dX4_dateOf_4 : decode cX4_dateOf 4 = .ok (.ifCond .ne 5, 3) := by decide +kernel
theorem dX4_dateOf_7 : decode cX4_dateOf 7 = .ok (.iconst (-1), 1) := by decide +kernel
theorem dX4_dateOf_8 : decode cX4_dateOf 8 = .ok (.ireturn, 1) := by decide +kernel
theorem dX4_dateOf_9 : decode cX4_dateOf 9 = .ok (.aload_n 0, 1) := by decide +kernel
theorem dX4_dateOf_10 : decode cX4_dateOf 10 = .ok (.iload_n 1, 1) := by decide +kernel
theorem dX4_dateOf_11 : decode cX4_dateOf 11 = .ok (.invokevirtual 42, 3) := by decide +kernel
theorem dX4_dateOf_14 : decode cX4_dateOf 14 = .ok (.istore_n 3, 1) := by decide +kernel
theorem dX4_dateOf_15 : decode cX4_dateOf 15 = .ok (.iload_n 2, 1) := by decide +kernel
theorem dX4_dateOf_16 : decode cX4_dateOf 16 = .ok (.i2l, 1) := by decide +kernel
theorem dX4_dateOf_17 : decode cX4_dateOf 17 = .ok (.lconst 0, 1) := by decide +kernel
theorem dX4_dateOf_18 : decode cX4_dateOf 18 = .ok (.ldc2_w 168, 3) := by decide +kernel
theorem dX4_dateOf_21 : decode cX4_dateOf 21 = .ok (.invokestatic 34, 3) := by decide +kernel
theorem dX4_dateOf_24 : decode cX4_dateOf 24 = .ok (.ifCond .ne 8, 3) := by decide +kernel
theorem dX4_dateOf_27 : decode cX4_dateOf 27 = .ok (.bipush (-2), 2) := by decide +kernel
theorem dX4_dateOf_29 : decode cX4_dateOf 29 = .ok (.goto 48, 3) := by decide +kernel
theorem dX4_dateOf_32 : decode cX4_dateOf 32 = .ok (.iload_n 2, 1) := by decide +kernel
theorem dX4_dateOf_33 : decode cX4_dateOf 33 = .ok (.ifCond .ne 11, 3) := by decide +kernel
theorem dX4_dateOf_36 : decode cX4_dateOf 36 = .ok (.iload_n 1, 1) := by decide +kernel
theorem dX4_dateOf_37 : decode cX4_dateOf 37 = .ok (.sipush 365, 3) := by decide +kernel
theorem dX4_dateOf_40 : decode cX4_dateOf 40 = .ok (.idiv, 1) := by decide +kernel
theorem dX4_dateOf_41 : decode cX4_dateOf 41 = .ok (.goto 36, 3) := by decide +kernel
theorem dX4_dateOf_44 : decode cX4_dateOf 44 = .ok (.iload_n 2, 1) := by decide +kernel
theorem dX4_dateOf_45 : decode cX4_dateOf 45 = .ok (.iconst 1, 1) := by decide +kernel
theorem dX4_dateOf_46 : decode cX4_dateOf 46 = .ok (.if_icmp .ne 12, 3) := by decide +kernel
theorem dX4_dateOf_49 : decode cX4_dateOf 49 = .ok (.iconst 1, 1) := by decide +kernel
theorem dX4_dateOf_50 : decode cX4_dateOf 50 = .ok (.iload_n 3, 1) := by decide +kernel
theorem dX4_dateOf_51 : decode cX4_dateOf 51 = .ok (.bipush 12, 2) := by decide +kernel
theorem dX4_dateOf_53 : decode cX4_dateOf 53 = .ok (.irem, 1) := by decide +kernel
theorem dX4_dateOf_54 : decode cX4_dateOf 54 = .ok (.iadd, 1) := by decide +kernel
theorem dX4_dateOf_55 : decode cX4_dateOf 55 = .ok (.goto 22, 3) := by decide +kernel
theorem dX4_dateOf_58 : decode cX4_dateOf 58 = .ok (.iload_n 2, 1) := by decide +kernel
theorem dX4_dateOf_59 : decode cX4_dateOf 59 = .ok (.iconst 2, 1) := by decide +kernel
theorem dX4_dateOf_60 : decode cX4_dateOf 60 = .ok (.if_icmp .ne 16, 3) := by decide +kernel
theorem dX4_dateOf_63 : decode cX4_dateOf 63 = .ok (.iconst 1, 1) := by decide +kernel
theorem dX4_dateOf_64 : decode cX4_dateOf 64 = .ok (.iload_n 1, 1) := by decide +kernel
theorem dX4_dateOf_65 : decode cX4_dateOf 65 = .ok (.iadd, 1) := by decide +kernel
theorem dX4_dateOf_66 : decode cX4_dateOf 66 = .ok (.aload_n 0, 1) := by decide +kernel
theorem dX4_dateOf_67 : decode cX4_dateOf 67 = .ok (.getfield 29, 3) := by decide +kernel
theorem dX4_dateOf_70 : decode cX4_dateOf 70 = .ok (.iload_n 3, 1) := by decide +kernel
theorem dX4_dateOf_71 : decode cX4_dateOf 71 = .ok (.iaload, 1) := by decide +kernel
theorem dX4_dateOf_72 : decode cX4_dateOf 72 = .ok (.isub, 1) := by decide +kernel
theorem dX4_dateOf_73 : decode cX4_dateOf 73 = .ok (.goto 4, 3) := by decide +kernel
theorem dX4_dateOf_76 : decode cX4_dateOf 76 = .ok (.iload_n 3, 1) := by decide +kernel
theorem dX4_dateOf_77 : decode cX4_dateOf 77 = .ok (.ireturn, 1) := by decide +kernel
theorem dX4_count_0 : decode cX4_count 0 = .ok (.iconst 0, 1) := by decide +kernel
theorem dX4_count_1 : decode cX4_count 1 = .ok (.istore_n 2, 1) := by decide +kernel
theorem dX4_count_2 : decode cX4_count 2 = .ok (.aload_n 0, 1) := by decide +kernel
theorem dX4_count_3 : decode cX4_count 3 = .ok (.aload_n 0, 1) := by decide +kernel
theorem dX4_count_4 : decode cX4_count 4 = .ok (.getfield 7, 3) := by decide +kernel
theorem dX4_count_7 : decode cX4_count 7 = .ok (.iconst 0, 1) := by decide +kernel
theorem dX4_count_8 : decode cX4_count 8 = .ok (.iaload, 1) := by decide +kernel
theorem dX4_count_9 : decode cX4_count 9 = .ok (.invokevirtual 42, 3) := by decide +kernel
theorem dX4_count_12 : decode cX4_count 12 = .ok (.istore_n 3, 1) := by decide +kernel
theorem dX4_count_13 : decode cX4_count 13 = .ok (.iload_n 1, 1) := by decide +kernel
theorem dX4_count_14 : decode cX4_count 14 = .ok (.tableswitch 215 0 12 #[66, 73, 75, 103, 111, 140, 147, 154, 161, 191, 198, 205, 210], 66) := by decide +kernel
theorem dX4_count_80 : decode cX4_count 80 = .ok (.aload_n 0, 1) := by decide +kernel
theorem dX4_count_81 : decode cX4_count 81 = .ok (.getfield 7, 3) := by decide +kernel
theorem dX4_count_84 : decode cX4_count 84 = .ok (.iconst 0, 1) := by decide +kernel
theorem dX4_count_85 : decode cX4_count 85 = .ok (.iaload, 1) := by decide +kernel
theorem dX4_count_86 : decode cX4_count 86 = .ok (.ireturn, 1) := by decide +kernel
theorem dX4_count_87 : decode cX4_count 87 = .ok (.iload_n 3, 1) := by decide +kernel
theorem dX4_count_88 : decode cX4_count 88 = .ok (.ireturn, 1) := by decide +kernel
theorem dX4_count_89 : decode cX4_count 89 = .ok (.iload_n 3, 1) := by decide +kernel
theorem dX4_count_90 : decode cX4_count 90 = .ok (.aload_n 0, 1) := by decide +kernel
theorem dX4_count_91 : decode cX4_count 91 = .ok (.getfield 7, 3) := by decide +kernel
theorem dX4_count_94 : decode cX4_count 94 = .ok (.iconst 1, 1) := by decide +kernel
theorem dX4_count_95 : decode cX4_count 95 = .ok (.iaload, 1) := by decide +kernel
theorem dX4_count_96 : decode cX4_count 96 = .ok (.isub, 1) := by decide +kernel
theorem dX4_count_97 : decode cX4_count 97 = .ok (.iconst 1, 1) := by decide +kernel
theorem dX4_count_98 : decode cX4_count 98 = .ok (.iadd, 1) := by decide +kernel
theorem dX4_count_99 : decode cX4_count 99 = .ok (.ifCond .le 16, 3) := by decide +kernel
theorem dX4_count_102 : decode cX4_count 102 = .ok (.iload_n 3, 1) := by decide +kernel
theorem dX4_count_103 : decode cX4_count 103 = .ok (.aload_n 0, 1) := by decide +kernel
theorem dX4_count_104 : decode cX4_count 104 = .ok (.getfield 7, 3) := by decide +kernel
theorem dX4_count_107 : decode cX4_count 107 = .ok (.iconst 1, 1) := by decide +kernel
theorem dX4_count_108 : decode cX4_count 108 = .ok (.iaload, 1) := by decide +kernel
theorem dX4_count_109 : decode cX4_count 109 = .ok (.isub, 1) := by decide +kernel
theorem dX4_count_110 : decode cX4_count 110 = .ok (.iconst 1, 1) := by decide +kernel
theorem dX4_count_111 : decode cX4_count 111 = .ok (.iadd, 1) := by decide +kernel
theorem dX4_count_112 : decode cX4_count 112 = .ok (.goto 4, 3) := by decide +kernel
theorem dX4_count_115 : decode cX4_count 115 = .ok (.iconst 0, 1) := by decide +kernel
theorem dX4_count_116 : decode cX4_count 116 = .ok (.ireturn, 1) := by decide +kernel
theorem dX4_count_117 : decode cX4_count 117 = .ok (.aload_n 0, 1) := by decide +kernel
theorem dX4_count_118 : decode cX4_count 118 = .ok (.getfield 7, 3) := by decide +kernel
theorem dX4_count_121 : decode cX4_count 121 = .ok (.bipush 6, 2) := by decide +kernel
theorem dX4_count_123 : decode cX4_count 123 = .ok (.iaload, 1) := by decide +kernel
theorem dX4_count_124 : decode cX4_count 124 = .ok (.ireturn, 1) := by decide +kernel
theorem dX4_count_125 : decode cX4_count 125 = .ok (.iconst 0, 1) := by decide +kernel
theorem dX4_count_126 : decode cX4_count 126 = .ok (.istore 4, 2) := by decide +kernel
theorem dX4_count_128 : decode cX4_count 128 = .ok (.iload 4, 2) := by decide +kernel
theorem dX4_count_130 : decode cX4_count 130 = .ok (.iload_n 3, 1) := by decide +kernel
theorem dX4_count_131 : decode cX4_count 131 = .ok (.if_icmp .gt 21, 3) := by decide +kernel
theorem dX4_count_134 : decode cX4_count 134 = .ok (.iload_n 2, 1) := by decide +kernel
theorem dX4_count_135 : decode cX4_count 135 = .ok (.aload_n 0, 1) := by decide +kernel
theorem dX4_count_136 : decode cX4_count 136 = .ok (.getfield 7, 3) := by decide +kernel
theorem dX4_count_139 : decode cX4_count 139 = .ok (.iload 4, 2) := by decide +kernel
theorem dX4_count_141 : decode cX4_count 141 = .ok (.invokestatic 79, 3) := by decide +kernel
theorem dX4_count_144 : decode cX4_count 144 = .ok (.iadd, 1) := by decide +kernel
theorem dX4_count_145 : decode cX4_count 145 = .ok (.istore_n 2, 1) := by decide +kernel
theorem dX4_count_146 : decode cX4_count 146 = .ok (.iinc 4 1, 3) := by decide +kernel
theorem dX4_count_149 : decode cX4_count 149 = .ok (.goto (-21), 3) := by decide +kernel
theorem dX4_count_152 : decode cX4_count 152 = .ok (.iload_n 2, 1) := by decide +kernel
theorem dX4_count_153 : decode cX4_count 153 = .ok (.ireturn, 1) := by decide +kernel
theorem dX4_count_154 : decode cX4_count 154 = .ok (.aload_n 0, 1) := by decide +kernel
theorem dX4_count_155 : decode cX4_count 155 = .ok (.getfield 7, 3) := by decide +kernel
theorem dX4_count_158 : decode cX4_count 158 = .ok (.iconst 3, 1) := by decide +kernel
theorem dX4_count_159 : decode cX4_count 159 = .ok (.iaload, 1) := by decide +kernel
theorem dX4_count_160 : decode cX4_count 160 = .ok (.ireturn, 1) := by decide +kernel
theorem dX4_count_161 : decode cX4_count 161 = .ok (.aload_n 0, 1) := by decide +kernel
theorem dX4_count_162 : decode cX4_count 162 = .ok (.getfield 7, 3) := by decide +kernel
theorem dX4_count_165 : decode cX4_count 165 = .ok (.iconst 4, 1) := by decide +kernel
theorem dX4_count_166 : decode cX4_count 166 = .ok (.iaload, 1) := by decide +kernel
theorem dX4_count_167 : decode cX4_count 167 = .ok (.ireturn, 1) := by decide +kernel
theorem dX4_count_168 : decode cX4_count 168 = .ok (.aload_n 0, 1) := by decide +kernel
theorem dX4_count_169 : decode cX4_count 169 = .ok (.getfield 7, 3) := by decide +kernel
theorem dX4_count_172 : decode cX4_count 172 = .ok (.iconst 5, 1) := by decide +kernel
theorem dX4_count_173 : decode cX4_count 173 = .ok (.iaload, 1) := by decide +kernel
theorem dX4_count_174 : decode cX4_count 174 = .ok (.ireturn, 1) := by decide +kernel
theorem dX4_count_175 : decode cX4_count 175 = .ok (.iconst 0, 1) := by decide +kernel
theorem dX4_count_176 : decode cX4_count 176 = .ok (.istore 4, 2) := by decide +kernel
theorem dX4_count_178 : decode cX4_count 178 = .ok (.iload 4, 2) := by decide +kernel
theorem dX4_count_180 : decode cX4_count 180 = .ok (.bipush 120, 2) := by decide +kernel
theorem dX4_count_182 : decode cX4_count 182 = .ok (.if_icmp .ge 21, 3) := by decide +kernel
theorem dX4_count_185 : decode cX4_count 185 = .ok (.iload_n 2, 1) := by decide +kernel
theorem dX4_count_186 : decode cX4_count 186 = .ok (.aload_n 0, 1) := by decide +kernel
theorem dX4_count_187 : decode cX4_count 187 = .ok (.getfield 7, 3) := by decide +kernel
theorem dX4_count_190 : decode cX4_count 190 = .ok (.iload 4, 2) := by decide +kernel
theorem dX4_count_192 : decode cX4_count 192 = .ok (.invokestatic 64, 3) := by decide +kernel
theorem dX4_count_195 : decode cX4_count 195 = .ok (.iadd, 1) := by decide +kernel
theorem dX4_count_196 : decode cX4_count 196 = .ok (.istore_n 2, 1) := by decide +kernel
theorem dX4_count_197 : decode cX4_count 197 = .ok (.iinc 4 1, 3) := by decide +kernel
theorem dX4_count_200 : decode cX4_count 200 = .ok (.goto (-22), 3) := by decide +kernel
theorem dX4_count_203 : decode cX4_count 203 = .ok (.iload_n 2, 1) := by decide +kernel
theorem dX4_count_204 : decode cX4_count 204 = .ok (.ireturn, 1) := by decide +kernel
theorem dX4_count_205 : decode cX4_count 205 = .ok (.aload_n 0, 1) := by decide +kernel
theorem dX4_count_206 : decode cX4_count 206 = .ok (.getfield 7, 3) := by decide +kernel
theorem dX4_count_209 : decode cX4_count 209 = .ok (.iconst 1, 1) := by decide +kernel
theorem dX4_count_210 : decode cX4_count 210 = .ok (.iaload, 1) := by decide +kernel
theorem dX4_count_211 : decode cX4_count 211 = .ok (.ireturn, 1) := by decide +kernel
theorem dX4_count_212 : decode cX4_count 212 = .ok (.aload_n 0, 1) := by decide +kernel
theorem dX4_count_213 : decode cX4_count 213 = .ok (.getfield 7, 3) := by decide +kernel
theorem dX4_count_216 : decode cX4_count 216 = .ok (.iconst 2, 1) := by decide +kernel
theorem dX4_count_217 : decode cX4_count 217 = .ok (.iaload, 1) := by decide +kernel
theorem dX4_count_218 : decode cX4_count 218 = .ok (.ireturn, 1) := by decide +kernel
theorem dX4_count_219 : decode cX4_count 219 = .ok (.aload_n 0, 1) := by decide +kernel
theorem dX4_count_220 : decode cX4_count 220 = .ok (.getfield 170, 3) := by decide +kernel
theorem dX4_count_223 : decode cX4_count 223 = .ok (.ireturn, 1) := by decide +kernel
theorem dX4_count_224 : decode cX4_count 224 = .ok (.aload_n 0, 1) := by decide +kernel
theorem dX4_count_225 : decode cX4_count 225 = .ok (.getfield 107, 3) := by decide +kernel
theorem dX4_count_228 : decode cX4_count 228 = .ok (.ireturn, 1) := by decide +kernel
theorem dX4_count_229 : decode cX4_count 229 = .ok (.bipush (-2), 2) := by decide +kernel
theorem dX4_count_231 : decode cX4_count 231 = .ok (.ireturn, 1) := by decide +kernel
theorem dX4_sizeAs_0 : decode cX4_sizeAs 0 = .ok (.iload_n 1, 1) := by decide +kernel
theorem dX4_sizeAs_1 : decode cX4_sizeAs 1 = .ok (.invokestatic 160, 3) := by decide +kernel
theorem dX4_sizeAs_4 : decode cX4_sizeAs 4 = .ok (.ifCond .ne 5, 3) := by decide +kernel
theorem dX4_sizeAs_7 : decode cX4_sizeAs 7 = .ok (.iconst (-1), 1) := by decide +kernel
theorem dX4_sizeAs_8 : decode cX4_sizeAs 8 = .ok (.ireturn, 1) := by decide +kernel
theorem dX4_sizeAs_9 : decode cX4_sizeAs 9 = .ok (.iload_n 2, 1) := by decide +kernel
theorem dX4_sizeAs_10 : decode cX4_sizeAs 10 = .ok (.i2l, 1) := by decide +kernel
theorem dX4_sizeAs_11 : decode cX4_sizeAs 11 = .ok (.lconst 0, 1) := by decide +kernel
theorem dX4_sizeAs_12 : decode cX4_sizeAs 12 = .ok (.ldc2_w 173, 3) := by decide +kernel
theorem dX4_sizeAs_15 : decode cX4_sizeAs 15 = .ok (.invokestatic 34, 3) := by decide +kernel
theorem dX4_sizeAs_18 : decode cX4_sizeAs 18 = .ok (.ifCond .eq 17, 3) := by decide +kernel
theorem dX4_sizeAs_21 : decode cX4_sizeAs 21 = .ok (.aload_n 0, 1) := by decide +kernel
theorem dX4_sizeAs_22 : decode cX4_sizeAs 22 = .ok (.getfield 7, 3) := by decide +kernel
theorem dX4_sizeAs_25 : decode cX4_sizeAs 25 = .ok (.iload_n 1, 1) := by decide +kernel
theorem dX4_sizeAs_26 : decode cX4_sizeAs 26 = .ok (.iload_n 2, 1) := by decide +kernel
theorem dX4_sizeAs_27 : decode cX4_sizeAs 27 = .ok (.bipush (-6), 2) := by decide +kernel
theorem dX4_sizeAs_29 : decode cX4_sizeAs 29 = .ok (.invokestatic 75, 3) := by decide +kernel
theorem dX4_sizeAs_32 : decode cX4_sizeAs 32 = .ok (.goto 5, 3) := by decide +kernel
theorem dX4_sizeAs_35 : decode cX4_sizeAs 35 = .ok (.bipush (-2), 2) := by decide +kernel
theorem dX4_sizeAs_37 : decode cX4_sizeAs 37 = .ok (.ireturn, 1) := by decide +kernel
theorem dX4_lookAll_0 : decode cX4_lookAll 0 = .ok (.aload_n 0, 1) := by decide +kernel
theorem dX4_lookAll_1 : decode cX4_lookAll 1 = .ok (.iload_n 1, 1) := by decide +kernel
theorem dX4_lookAll_2 : decode cX4_lookAll 2 = .ok (.invokevirtual 42, 3) := by decide +kernel
theorem dX4_lookAll_5 : decode cX4_lookAll 5 = .ok (.istore_n 3, 1) := by decide +kernel
theorem dX4_lookAll_6 : decode cX4_lookAll 6 = .ok (.iload_n 3, 1) := by decide +kernel
theorem dX4_lookAll_7 : decode cX4_lookAll 7 = .ok (.aload_n 0, 1) := by decide +kernel
theorem dX4_lookAll_8 : decode cX4_lookAll 8 = .ok (.iload_n 2, 1) := by decide +kernel
theorem dX4_lookAll_9 : decode cX4_lookAll 9 = .ok (.invokevirtual 42, 3) := by decide +kernel
theorem dX4_lookAll_12 : decode cX4_lookAll 12 = .ok (.if_icmp .gt 18, 3) := by decide +kernel
theorem dX4_lookAll_15 : decode cX4_lookAll 15 = .ok (.aload_n 0, 1) := by decide +kernel
theorem dX4_lookAll_16 : decode cX4_lookAll 16 = .ok (.aload_n 0, 1) := by decide +kernel
theorem dX4_lookAll_17 : decode cX4_lookAll 17 = .ok (.getfield 13, 3) := by decide +kernel
theorem dX4_lookAll_20 : decode cX4_lookAll 20 = .ok (.iload_n 3, 1) := by decide +kernel
theorem dX4_lookAll_21 : decode cX4_lookAll 21 = .ok (.invokevirtual 155, 3) := by decide +kernel
theorem dX4_lookAll_24 : decode cX4_lookAll 24 = .ok (.iinc 3 1, 3) := by decide +kernel
theorem dX4_lookAll_27 : decode cX4_lookAll 27 = .ok (.goto (-21), 3) := by decide +kernel
theorem dX4_lookAll_30 : decode cX4_lookAll 30 = .ok (.return_, 1) := by decide +kernel
theorem dX4_workOf_0 : decode cX4_workOf 0 = .ok (.iconst 1, 1) := by decide +kernel
theorem dX4_workOf_1 : decode cX4_workOf 1 = .ok (.iload_n 1, 1) := by decide +kernel
theorem dX4_workOf_2 : decode cX4_workOf 2 = .ok (.iload_n 2, 1) := by decide +kernel
theorem dX4_workOf_3 : decode cX4_workOf 3 = .ok (.invokestatic 137, 3) := by decide +kernel
theorem dX4_workOf_6 : decode cX4_workOf 6 = .ok (.istore_n 3, 1) := by decide +kernel
theorem dX4_workOf_7 : decode cX4_workOf 7 = .ok (.iload_n 3, 1) := by decide +kernel
theorem dX4_workOf_8 : decode cX4_workOf 8 = .ok (.ifCond .eq 5, 3) := by decide +kernel
theorem dX4_workOf_11 : decode cX4_workOf 11 = .ok (.iload_n 3, 1) := by decide +kernel
theorem dX4_workOf_12 : decode cX4_workOf 12 = .ok (.ireturn, 1) := by decide +kernel
theorem dX4_workOf_13 : decode cX4_workOf 13 = .ok (.aload_n 0, 1) := by decide +kernel
theorem dX4_workOf_14 : decode cX4_workOf 14 = .ok (.getfield 7, 3) := by decide +kernel
theorem dX4_workOf_17 : decode cX4_workOf 17 = .ok (.iconst 0, 1) := by decide +kernel
theorem dX4_workOf_18 : decode cX4_workOf 18 = .ok (.aload_n 0, 1) := by decide +kernel
theorem dX4_workOf_19 : decode cX4_workOf 19 = .ok (.getfield 13, 3) := by decide +kernel
theorem dX4_workOf_22 : decode cX4_workOf 22 = .ok (.iconst 0, 1) := by decide +kernel
theorem dX4_workOf_23 : decode cX4_workOf 23 = .ok (.invokestatic 111, 3) := by decide +kernel
theorem dX4_workOf_26 : decode cX4_workOf 26 = .ok (.aload_n 0, 1) := by decide +kernel
theorem dX4_workOf_27 : decode cX4_workOf 27 = .ok (.iload_n 1, 1) := by decide +kernel
theorem dX4_workOf_28 : decode cX4_workOf 28 = .ok (.iload_n 2, 1) := by decide +kernel
theorem dX4_workOf_29 : decode cX4_workOf 29 = .ok (.invokevirtual 175, 3) := by decide +kernel
theorem dX4_workOf_32 : decode cX4_workOf 32 = .ok (.aload_n 0, 1) := by decide +kernel
theorem dX4_workOf_33 : decode cX4_workOf 33 = .ok (.getfield 13, 3) := by decide +kernel
theorem dX4_workOf_36 : decode cX4_workOf 36 = .ok (.iconst 3, 1) := by decide +kernel
theorem dX4_workOf_37 : decode cX4_workOf 37 = .ok (.iaload, 1) := by decide +kernel
theorem dX4_workOf_38 : decode cX4_workOf 38 = .ok (.aload_n 0, 1) := by decide +kernel
theorem dX4_workOf_39 : decode cX4_workOf 39 = .ok (.getfield 7, 3) := by decide +kernel
theorem dX4_workOf_42 : decode cX4_workOf 42 = .ok (.iconst 3, 1) := by decide +kernel
theorem dX4_workOf_43 : decode cX4_workOf 43 = .ok (.iaload, 1) := by decide +kernel
theorem dX4_workOf_44 : decode cX4_workOf 44 = .ok (.isub, 1) := by decide +kernel
theorem dX4_workOf_45 : decode cX4_workOf 45 = .ok (.ireturn, 1) := by decide +kernel
theorem dX4_bestOpen_0 : decode cX4_bestOpen 0 = .ok (.iconst 1, 1) := by decide +kernel
theorem dX4_bestOpen_1 : decode cX4_bestOpen 1 = .ok (.iload_n 1, 1) := by decide +kernel
theorem dX4_bestOpen_2 : decode cX4_bestOpen 2 = .ok (.iload_n 2, 1) := by decide +kernel
theorem dX4_bestOpen_3 : decode cX4_bestOpen 3 = .ok (.invokestatic 137, 3) := by decide +kernel
theorem dX4_bestOpen_6 : decode cX4_bestOpen 6 = .ok (.istore_n 3, 1) := by decide +kernel
theorem dX4_bestOpen_7 : decode cX4_bestOpen 7 = .ok (.iload_n 3, 1) := by decide +kernel
theorem dX4_bestOpen_8 : decode cX4_bestOpen 8 = .ok (.ifCond .eq 5, 3) := by decide +kernel
theorem dX4_bestOpen_11 : decode cX4_bestOpen 11 = .ok (.iload_n 3, 1) := by decide +kernel
theorem dX4_bestOpen_12 : decode cX4_bestOpen 12 = .ok (.ireturn, 1) := by decide +kernel
theorem dX4_bestOpen_13 : decode cX4_bestOpen 13 = .ok (.bipush (-6), 2) := by decide +kernel
theorem dX4_bestOpen_15 : decode cX4_bestOpen 15 = .ok (.istore 4, 2) := by decide +kernel
theorem dX4_bestOpen_17 : decode cX4_bestOpen 17 = .ok (.iconst 0, 1) := by decide +kernel
theorem dX4_bestOpen_18 : decode cX4_bestOpen 18 = .ok (.istore 5, 2) := by decide +kernel
theorem dX4_bestOpen_20 : decode cX4_bestOpen 20 = .ok (.iconst 0, 1) := by decide +kernel
theorem dX4_bestOpen_21 : decode cX4_bestOpen 21 = .ok (.istore 6, 2) := by decide +kernel
theorem dX4_bestOpen_23 : decode cX4_bestOpen 23 = .ok (.iload 6, 2) := by decide +kernel
theorem dX4_bestOpen_25 : decode cX4_bestOpen 25 = .ok (.bipush 6, 2) := by decide +kernel
theorem dX4_bestOpen_27 : decode cX4_bestOpen 27 = .ok (.if_icmp .gt 113, 3) := by decide +kernel
theorem dX4_bestOpen_30 : decode cX4_bestOpen 30 = .ok (.aload_n 0, 1) := by decide +kernel
theorem dX4_bestOpen_31 : decode cX4_bestOpen 31 = .ok (.getfield 7, 3) := by decide +kernel
theorem dX4_bestOpen_34 : decode cX4_bestOpen 34 = .ok (.iconst 0, 1) := by decide +kernel
theorem dX4_bestOpen_35 : decode cX4_bestOpen 35 = .ok (.aload_n 0, 1) := by decide +kernel
theorem dX4_bestOpen_36 : decode cX4_bestOpen 36 = .ok (.getfield 13, 3) := by decide +kernel
theorem dX4_bestOpen_39 : decode cX4_bestOpen 39 = .ok (.iconst 0, 1) := by decide +kernel
theorem dX4_bestOpen_40 : decode cX4_bestOpen 40 = .ok (.invokestatic 111, 3) := by decide +kernel
theorem dX4_bestOpen_43 : decode cX4_bestOpen 43 = .ok (.aload_n 0, 1) := by decide +kernel
theorem dX4_bestOpen_44 : decode cX4_bestOpen 44 = .ok (.getfield 13, 3) := by decide +kernel
theorem dX4_bestOpen_47 : decode cX4_bestOpen 47 = .ok (.iconst 2, 1) := by decide +kernel
theorem dX4_bestOpen_48 : decode cX4_bestOpen 48 = .ok (.iload 6, 2) := by decide +kernel
theorem dX4_bestOpen_50 : decode cX4_bestOpen 50 = .ok (.iastore, 1) := by decide +kernel
theorem dX4_bestOpen_51 : decode cX4_bestOpen 51 = .ok (.aload_n 0, 1) := by decide +kernel
theorem dX4_bestOpen_52 : decode cX4_bestOpen 52 = .ok (.getfield 13, 3) := by decide +kernel
theorem dX4_bestOpen_55 : decode cX4_bestOpen 55 = .ok (.invokestatic 103, 3) := by decide +kernel
theorem dX4_bestOpen_58 : decode cX4_bestOpen 58 = .ok (.aload_n 0, 1) := by decide +kernel
theorem dX4_bestOpen_59 : decode cX4_bestOpen 59 = .ok (.iload_n 1, 1) := by decide +kernel
theorem dX4_bestOpen_60 : decode cX4_bestOpen 60 = .ok (.iload_n 2, 1) := by decide +kernel
theorem dX4_bestOpen_61 : decode cX4_bestOpen 61 = .ok (.invokevirtual 175, 3) := by decide +kernel
theorem dX4_bestOpen_64 : decode cX4_bestOpen 64 = .ok (.aload_n 0, 1) := by decide +kernel
theorem dX4_bestOpen_65 : decode cX4_bestOpen 65 = .ok (.iload_n 1, 1) := by decide +kernel
theorem dX4_bestOpen_66 : decode cX4_bestOpen 66 = .ok (.iload_n 2, 1) := by decide +kernel
theorem dX4_bestOpen_67 : decode cX4_bestOpen 67 = .ok (.invokevirtual 175, 3) := by decide +kernel
theorem dX4_bestOpen_70 : decode cX4_bestOpen 70 = .ok (.aload_n 0, 1) := by decide +kernel
theorem dX4_bestOpen_71 : decode cX4_bestOpen 71 = .ok (.getfield 13, 3) := by decide +kernel
theorem dX4_bestOpen_74 : decode cX4_bestOpen 74 = .ok (.iconst 3, 1) := by decide +kernel
theorem dX4_bestOpen_75 : decode cX4_bestOpen 75 = .ok (.iaload, 1) := by decide +kernel
theorem dX4_bestOpen_76 : decode cX4_bestOpen 76 = .ok (.aload_n 0, 1) := by decide +kernel
theorem dX4_bestOpen_77 : decode cX4_bestOpen 77 = .ok (.getfield 7, 3) := by decide +kernel
theorem dX4_bestOpen_80 : decode cX4_bestOpen 80 = .ok (.iconst 3, 1) := by decide +kernel
theorem dX4_bestOpen_81 : decode cX4_bestOpen 81 = .ok (.iaload, 1) := by decide +kernel
theorem dX4_bestOpen_82 : decode cX4_bestOpen 82 = .ok (.isub, 1) := by decide +kernel
theorem dX4_bestOpen_83 : decode cX4_bestOpen 83 = .ok (.istore 7, 2) := by decide +kernel
theorem dX4_bestOpen_85 : decode cX4_bestOpen 85 = .ok (.iload 4, 2) := by decide +kernel
theorem dX4_bestOpen_87 : decode cX4_bestOpen 87 = .ok (.bipush (-6), 2) := by decide +kernel
theorem dX4_bestOpen_89 : decode cX4_bestOpen 89 = .ok (.if_icmp .eq 10, 3) := by decide +kernel
theorem dX4_bestOpen_92 : decode cX4_bestOpen 92 = .ok (.iload 7, 2) := by decide +kernel
theorem dX4_bestOpen_94 : decode cX4_bestOpen 94 = .ok (.iload 5, 2) := by decide +kernel
theorem dX4_bestOpen_96 : decode cX4_bestOpen 96 = .ok (.if_icmp .ge 7, 3) := by decide +kernel
theorem dX4_bestOpen_99 : decode cX4_bestOpen 99 = .ok (.iconst 1, 1) := by decide +kernel
theorem dX4_bestOpen_100 : decode cX4_bestOpen 100 = .ok (.goto 4, 3) := by decide +kernel
theorem dX4_bestOpen_103 : decode cX4_bestOpen 103 = .ok (.iconst 0, 1) := by decide +kernel
theorem dX4_bestOpen_104 : decode cX4_bestOpen 104 = .ok (.istore 8, 2) := by decide +kernel
theorem dX4_bestOpen_106 : decode cX4_bestOpen 106 = .ok (.iload 8, 2) := by decide +kernel
theorem dX4_bestOpen_108 : decode cX4_bestOpen 108 = .ok (.ifCond .eq 8, 3) := by decide +kernel
theorem dX4_bestOpen_111 : decode cX4_bestOpen 111 = .ok (.iload 6, 2) := by decide +kernel
theorem dX4_bestOpen_113 : decode cX4_bestOpen 113 = .ok (.goto 5, 3) := by decide +kernel
theorem dX4_bestOpen_116 : decode cX4_bestOpen 116 = .ok (.iload 4, 2) := by decide +kernel
theorem dX4_bestOpen_118 : decode cX4_bestOpen 118 = .ok (.istore 4, 2) := by decide +kernel
theorem dX4_bestOpen_120 : decode cX4_bestOpen 120 = .ok (.iload 8, 2) := by decide +kernel
theorem dX4_bestOpen_122 : decode cX4_bestOpen 122 = .ok (.ifCond .eq 8, 3) := by decide +kernel
theorem dX4_bestOpen_125 : decode cX4_bestOpen 125 = .ok (.iload 7, 2) := by decide +kernel
theorem dX4_bestOpen_127 : decode cX4_bestOpen 127 = .ok (.goto 5, 3) := by decide +kernel
theorem dX4_bestOpen_130 : decode cX4_bestOpen 130 = .ok (.iload 5, 2) := by decide +kernel
theorem dX4_bestOpen_132 : decode cX4_bestOpen 132 = .ok (.istore 5, 2) := by decide +kernel
theorem dX4_bestOpen_134 : decode cX4_bestOpen 134 = .ok (.iinc 6 1, 3) := by decide +kernel
theorem dX4_bestOpen_137 : decode cX4_bestOpen 137 = .ok (.goto (-114), 3) := by decide +kernel
theorem dX4_bestOpen_140 : decode cX4_bestOpen 140 = .ok (.iload 4, 2) := by decide +kernel
theorem dX4_bestOpen_142 : decode cX4_bestOpen 142 = .ok (.ireturn, 1) := by decide +kernel
theorem dX4_put_0 : decode cX4_put 0 = .ok (.iconst 0, 1) := by decide +kernel
theorem dX4_put_1 : decode cX4_put 1 = .ok (.istore_n 3, 1) := by decide +kernel
theorem dX4_put_2 : decode cX4_put 2 = .ok (.lload_n 1, 1) := by decide +kernel
theorem dX4_put_3 : decode cX4_put 3 = .ok (.lstore 4, 2) := by decide +kernel
theorem dX4_put_5 : decode cX4_put 5 = .ok (.iload_n 3, 1) := by decide +kernel
theorem dX4_put_6 : decode cX4_put 6 = .ok (.bipush 8, 2) := by decide +kernel
theorem dX4_put_8 : decode cX4_put 8 = .ok (.if_icmp .ge 48, 3) := by decide +kernel
theorem dX4_put_11 : decode cX4_put 11 = .ok (.lload 4, 2) := by decide +kernel
theorem dX4_put_13 : decode cX4_put 13 = .ok (.ldc2_w 179, 3) := by decide +kernel
theorem dX4_put_16 : decode cX4_put 16 = .ok (.land, 1) := by decide +kernel
theorem dX4_put_17 : decode cX4_put 17 = .ok (.lconst 0, 1) := by decide +kernel
theorem dX4_put_18 : decode cX4_put 18 = .ok (.lcmp, 1) := by decide +kernel
theorem dX4_put_19 : decode cX4_put 19 = .ok (.ifCond .eq 37, 3) := by decide +kernel
theorem dX4_put_22 : decode cX4_put 22 = .ok (.lload 4, 2) := by decide +kernel
theorem dX4_put_24 : decode cX4_put 24 = .ok (.ldc2_w 179, 3) := by decide +kernel
theorem dX4_put_27 : decode cX4_put 27 = .ok (.land, 1) := by decide +kernel
theorem dX4_put_28 : decode cX4_put 28 = .ok (.ldc2_w 181, 3) := by decide +kernel
theorem dX4_put_31 : decode cX4_put 31 = .ok (.ldc2_w 183, 3) := by decide +kernel
theorem dX4_put_34 : decode cX4_put 34 = .ok (.invokestatic 34, 3) := by decide +kernel
theorem dX4_put_37 : decode cX4_put 37 = .ok (.ifCond .ne 6, 3) := by decide +kernel
theorem dX4_put_40 : decode cX4_put 40 = .ok (.bipush (-2), 2) := by decide +kernel
theorem dX4_put_42 : decode cX4_put 42 = .ok (.ireturn, 1) := by decide +kernel
theorem dX4_put_43 : decode cX4_put 43 = .ok (.iinc 3 1, 3) := by decide +kernel
theorem dX4_put_46 : decode cX4_put 46 = .ok (.lload 4, 2) := by decide +kernel
theorem dX4_put_48 : decode cX4_put 48 = .ok (.bipush 8, 2) := by decide +kernel
theorem dX4_put_50 : decode cX4_put 50 = .ok (.lushr, 1) := by decide +kernel
theorem dX4_put_51 : decode cX4_put 51 = .ok (.lstore 4, 2) := by decide +kernel
theorem dX4_put_53 : decode cX4_put 53 = .ok (.goto (-48), 3) := by decide +kernel
theorem dX4_put_56 : decode cX4_put 56 = .ok (.iload_n 3, 1) := by decide +kernel
theorem dX4_put_57 : decode cX4_put 57 = .ok (.ifCond .eq 10, 3) := by decide +kernel
theorem dX4_put_60 : decode cX4_put 60 = .ok (.lload 4, 2) := by decide +kernel
theorem dX4_put_62 : decode cX4_put 62 = .ok (.lconst 0, 1) := by decide +kernel
theorem dX4_put_63 : decode cX4_put 63 = .ok (.lcmp, 1) := by decide +kernel
theorem dX4_put_64 : decode cX4_put 64 = .ok (.ifCond .eq 6, 3) := by decide +kernel
theorem dX4_put_67 : decode cX4_put 67 = .ok (.bipush (-2), 2) := by decide +kernel
theorem dX4_put_69 : decode cX4_put 69 = .ok (.ireturn, 1) := by decide +kernel
theorem dX4_put_70 : decode cX4_put 70 = .ok (.aload_n 0, 1) := by decide +kernel
theorem dX4_put_71 : decode cX4_put 71 = .ok (.getfield 170, 3) := by decide +kernel
theorem dX4_put_74 : decode cX4_put 74 = .ok (.iload_n 3, 1) := by decide +kernel
theorem dX4_put_75 : decode cX4_put 75 = .ok (.iadd, 1) := by decide +kernel
theorem dX4_put_76 : decode cX4_put 76 = .ok (.bipush 80, 2) := by decide +kernel
theorem dX4_put_78 : decode cX4_put 78 = .ok (.if_icmp .le 6, 3) := by decide +kernel
theorem dX4_put_81 : decode cX4_put 81 = .ok (.bipush (-4), 2) := by decide +kernel
theorem dX4_put_83 : decode cX4_put 83 = .ok (.ireturn, 1) := by decide +kernel
theorem dX4_put_84 : decode cX4_put 84 = .ok (.iload_n 3, 1) := by decide +kernel
theorem dX4_put_85 : decode cX4_put 85 = .ok (.iconst 1, 1) := by decide +kernel
theorem dX4_put_86 : decode cX4_put 86 = .ok (.isub, 1) := by decide +kernel
theorem dX4_put_87 : decode cX4_put 87 = .ok (.istore 6, 2) := by decide +kernel
theorem dX4_put_89 : decode cX4_put 89 = .ok (.iload 6, 2) := by decide +kernel
theorem dX4_put_91 : decode cX4_put 91 = .ok (.ifCond .lt 40, 3) := by decide +kernel
theorem dX4_put_94 : decode cX4_put 94 = .ok (.aload_n 0, 1) := by decide +kernel
theorem dX4_put_95 : decode cX4_put 95 = .ok (.getfield 26, 3) := by decide +kernel
theorem dX4_put_98 : decode cX4_put 98 = .ok (.aload_n 0, 1) := by decide +kernel
theorem dX4_put_99 : decode cX4_put 99 = .ok (.getfield 170, 3) := by decide +kernel
theorem dX4_put_102 : decode cX4_put 102 = .ok (.lload_n 1, 1) := by decide +kernel
theorem dX4_put_103 : decode cX4_put 103 = .ok (.bipush 8, 2) := by decide +kernel
theorem dX4_put_105 : decode cX4_put 105 = .ok (.iload 6, 2) := by decide +kernel
theorem dX4_put_107 : decode cX4_put 107 = .ok (.imul, 1) := by decide +kernel
theorem dX4_put_108 : decode cX4_put 108 = .ok (.lushr, 1) := by decide +kernel
theorem dX4_put_109 : decode cX4_put 109 = .ok (.ldc2_w 179, 3) := by decide +kernel
theorem dX4_put_112 : decode cX4_put 112 = .ok (.land, 1) := by decide +kernel
theorem dX4_put_113 : decode cX4_put 113 = .ok (.l2i, 1) := by decide +kernel
theorem dX4_put_114 : decode cX4_put 114 = .ok (.iastore, 1) := by decide +kernel
theorem dX4_put_115 : decode cX4_put 115 = .ok (.aload_n 0, 1) := by decide +kernel
theorem dX4_put_116 : decode cX4_put 116 = .ok (.dup, 1) := by decide +kernel
theorem dX4_put_117 : decode cX4_put 117 = .ok (.getfield 170, 3) := by decide +kernel
theorem dX4_put_120 : decode cX4_put 120 = .ok (.iconst 1, 1) := by decide +kernel
theorem dX4_put_121 : decode cX4_put 121 = .ok (.iadd, 1) := by decide +kernel
theorem dX4_put_122 : decode cX4_put 122 = .ok (.putfield 170, 3) := by decide +kernel
theorem dX4_put_125 : decode cX4_put 125 = .ok (.iinc 6 (-1), 3) := by decide +kernel
theorem dX4_put_128 : decode cX4_put 128 = .ok (.goto (-39), 3) := by decide +kernel
theorem dX4_put_131 : decode cX4_put 131 = .ok (.aload_n 0, 1) := by decide +kernel
theorem dX4_put_132 : decode cX4_put 132 = .ok (.getfield 170, 3) := by decide +kernel
theorem dX4_put_135 : decode cX4_put 135 = .ok (.ireturn, 1) := by decide +kernel
theorem dX4_wipe_0 : decode cX4_wipe 0 = .ok (.aload_n 0, 1) := by decide +kernel
theorem dX4_wipe_1 : decode cX4_wipe 1 = .ok (.getfield 170, 3) := by decide +kernel
theorem dX4_wipe_4 : decode cX4_wipe 4 = .ok (.istore_n 1, 1) := by decide +kernel
theorem dX4_wipe_5 : decode cX4_wipe 5 = .ok (.aload_n 0, 1) := by decide +kernel
theorem dX4_wipe_6 : decode cX4_wipe 6 = .ok (.iconst 0, 1) := by decide +kernel
theorem dX4_wipe_7 : decode cX4_wipe 7 = .ok (.putfield 170, 3) := by decide +kernel
theorem dX4_wipe_10 : decode cX4_wipe 10 = .ok (.iload_n 1, 1) := by decide +kernel
theorem dX4_wipe_11 : decode cX4_wipe 11 = .ok (.ireturn, 1) := by decide +kernel
theorem dX4_sign_0 : decode cX4_sign 0 = .ok (.aload_n 0, 1) := by decide +kernel
theorem dX4_sign_1 : decode cX4_sign 1 = .ok (.getfield 185, 3) := by decide +kernel
theorem dX4_sign_4 : decode cX4_sign 4 = .ok (.aload_n 0, 1) := by decide +kernel
theorem dX4_sign_5 : decode cX4_sign 5 = .ok (.getfield 170, 3) := by decide +kernel
theorem dX4_sign_8 : decode cX4_sign 8 = .ok (.if_icmp .ge 15, 3) := by decide +kernel
theorem dX4_sign_11 : decode cX4_sign 11 = .ok (.aload_n 0, 1) := by decide +kernel
theorem dX4_sign_12 : decode cX4_sign 12 = .ok (.getfield 26, 3) := by decide +kernel
theorem dX4_sign_15 : decode cX4_sign 15 = .ok (.aload_n 0, 1) := by decide +kernel
theorem dX4_sign_16 : decode cX4_sign 16 = .ok (.getfield 185, 3) := by decide +kernel
theorem dX4_sign_19 : decode cX4_sign 19 = .ok (.iaload, 1) := by decide +kernel
theorem dX4_sign_20 : decode cX4_sign 20 = .ok (.goto 5, 3) := by decide +kernel
theorem dX4_sign_23 : decode cX4_sign 23 = .ok (.bipush (-6), 2) := by decide +kernel
theorem dX4_sign_25 : decode cX4_sign 25 = .ok (.ireturn, 1) := by decide +kernel
theorem dX4_number_0 : decode cX4_number 0 = .ok (.aload_n 0, 1) := by decide +kernel
theorem dX4_number_1 : decode cX4_number 1 = .ok (.invokevirtual 188, 3) := by decide +kernel
theorem dX4_number_4 : decode cX4_number 4 = .ok (.i2l, 1) := by decide +kernel
theorem dX4_number_5 : decode cX4_number 5 = .ok (.ldc2_w 192, 3) := by decide +kernel
theorem dX4_number_8 : decode cX4_number 8 = .ok (.ldc2_w 194, 3) := by decide +kernel
theorem dX4_number_11 : decode cX4_number 11 = .ok (.invokestatic 34, 3) := by decide +kernel
theorem dX4_number_14 : decode cX4_number 14 = .ok (.ifCond .ne 6, 3) := by decide +kernel
theorem dX4_number_17 : decode cX4_number 17 = .ok (.bipush (-6), 2) := by decide +kernel
theorem dX4_number_19 : decode cX4_number 19 = .ok (.ireturn, 1) := by decide +kernel
theorem dX4_number_20 : decode cX4_number 20 = .ok (.aload_n 0, 1) := by decide +kernel
theorem dX4_number_21 : decode cX4_number 21 = .ok (.invokevirtual 188, 3) := by decide +kernel
theorem dX4_number_24 : decode cX4_number 24 = .ok (.bipush 48, 2) := by decide +kernel
theorem dX4_number_26 : decode cX4_number 26 = .ok (.isub, 1) := by decide +kernel
theorem dX4_number_27 : decode cX4_number 27 = .ok (.istore_n 1, 1) := by decide +kernel
theorem dX4_number_28 : decode cX4_number 28 = .ok (.aload_n 0, 1) := by decide +kernel
theorem dX4_number_29 : decode cX4_number 29 = .ok (.dup, 1) := by decide +kernel
theorem dX4_number_30 : decode cX4_number 30 = .ok (.getfield 185, 3) := by decide +kernel
theorem dX4_number_33 : decode cX4_number 33 = .ok (.iconst 1, 1) := by decide +kernel
theorem dX4_number_34 : decode cX4_number 34 = .ok (.iadd, 1) := by decide +kernel
theorem dX4_number_35 : decode cX4_number 35 = .ok (.putfield 185, 3) := by decide +kernel
theorem dX4_number_38 : decode cX4_number 38 = .ok (.iload_n 1, 1) := by decide +kernel
theorem dX4_number_39 : decode cX4_number 39 = .ok (.ifCond .ne 27, 3) := by decide +kernel
theorem dX4_number_42 : decode cX4_number 42 = .ok (.aload_n 0, 1) := by decide +kernel
theorem dX4_number_43 : decode cX4_number 43 = .ok (.invokevirtual 188, 3) := by decide +kernel
theorem dX4_number_46 : decode cX4_number 46 = .ok (.i2l, 1) := by decide +kernel
theorem dX4_number_47 : decode cX4_number 47 = .ok (.ldc2_w 192, 3) := by decide +kernel
theorem dX4_number_50 : decode cX4_number 50 = .ok (.ldc2_w 194, 3) := by decide +kernel
theorem dX4_number_53 : decode cX4_number 53 = .ok (.invokestatic 34, 3) := by decide +kernel
theorem dX4_number_56 : decode cX4_number 56 = .ok (.ifCond .eq 8, 3) := by decide +kernel
theorem dX4_number_59 : decode cX4_number 59 = .ok (.bipush (-6), 2) := by decide +kernel
theorem dX4_number_61 : decode cX4_number 61 = .ok (.goto 4, 3) := by decide +kernel
theorem dX4_number_64 : decode cX4_number 64 = .ok (.iconst 0, 1) := by decide +kernel
theorem dX4_number_65 : decode cX4_number 65 = .ok (.ireturn, 1) := by decide +kernel
theorem dX4_number_66 : decode cX4_number 66 = .ok (.aload_n 0, 1) := by decide +kernel
theorem dX4_number_67 : decode cX4_number 67 = .ok (.invokevirtual 188, 3) := by decide +kernel
theorem dX4_number_70 : decode cX4_number 70 = .ok (.i2l, 1) := by decide +kernel
theorem dX4_number_71 : decode cX4_number 71 = .ok (.ldc2_w 192, 3) := by decide +kernel
theorem dX4_number_74 : decode cX4_number 74 = .ok (.ldc2_w 194, 3) := by decide +kernel
theorem dX4_number_77 : decode cX4_number 77 = .ok (.invokestatic 34, 3) := by decide +kernel
theorem dX4_number_80 : decode cX4_number 80 = .ok (.ifCond .eq 50, 3) := by decide +kernel
theorem dX4_number_83 : decode cX4_number 83 = .ok (.bipush 10, 2) := by decide +kernel
theorem dX4_number_85 : decode cX4_number 85 = .ok (.iload_n 1, 1) := by decide +kernel
theorem dX4_number_86 : decode cX4_number 86 = .ok (.imul, 1) := by decide +kernel
theorem dX4_number_87 : decode cX4_number 87 = .ok (.aload_n 0, 1) := by decide +kernel
theorem dX4_number_88 : decode cX4_number 88 = .ok (.invokevirtual 188, 3) := by decide +kernel
theorem dX4_number_91 : decode cX4_number 91 = .ok (.iadd, 1) := by decide +kernel
theorem dX4_number_92 : decode cX4_number 92 = .ok (.bipush 48, 2) := by decide +kernel
theorem dX4_number_94 : decode cX4_number 94 = .ok (.isub, 1) := by decide +kernel
theorem dX4_number_95 : decode cX4_number 95 = .ok (.sipush 3650, 3) := by decide +kernel
theorem dX4_number_98 : decode cX4_number 98 = .ok (.if_icmp .lt 6, 3) := by decide +kernel
theorem dX4_number_101 : decode cX4_number 101 = .ok (.bipush (-6), 2) := by decide +kernel
theorem dX4_number_103 : decode cX4_number 103 = .ok (.ireturn, 1) := by decide +kernel
theorem dX4_number_104 : decode cX4_number 104 = .ok (.bipush 10, 2) := by decide +kernel
theorem dX4_number_106 : decode cX4_number 106 = .ok (.iload_n 1, 1) := by decide +kernel
theorem dX4_number_107 : decode cX4_number 107 = .ok (.imul, 1) := by decide +kernel
theorem dX4_number_108 : decode cX4_number 108 = .ok (.aload_n 0, 1) := by decide +kernel
theorem dX4_number_109 : decode cX4_number 109 = .ok (.invokevirtual 188, 3) := by decide +kernel
theorem dX4_number_112 : decode cX4_number 112 = .ok (.iadd, 1) := by decide +kernel
theorem dX4_number_113 : decode cX4_number 113 = .ok (.bipush 48, 2) := by decide +kernel
theorem dX4_number_115 : decode cX4_number 115 = .ok (.isub, 1) := by decide +kernel
theorem dX4_number_116 : decode cX4_number 116 = .ok (.istore_n 1, 1) := by decide +kernel
theorem dX4_number_117 : decode cX4_number 117 = .ok (.aload_n 0, 1) := by decide +kernel
theorem dX4_number_118 : decode cX4_number 118 = .ok (.dup, 1) := by decide +kernel
theorem dX4_number_119 : decode cX4_number 119 = .ok (.getfield 185, 3) := by decide +kernel
theorem dX4_number_122 : decode cX4_number 122 = .ok (.iconst 1, 1) := by decide +kernel
theorem dX4_number_123 : decode cX4_number 123 = .ok (.iadd, 1) := by decide +kernel
theorem dX4_number_124 : decode cX4_number 124 = .ok (.putfield 185, 3) := by decide +kernel
theorem dX4_number_127 : decode cX4_number 127 = .ok (.goto (-61), 3) := by decide +kernel
theorem dX4_number_130 : decode cX4_number 130 = .ok (.iload_n 1, 1) := by decide +kernel
theorem dX4_number_131 : decode cX4_number 131 = .ok (.ireturn, 1) := by decide +kernel
theorem dX4_readRanges_0 : decode cX4_readRanges 0 = .ok (.iconst 1, 1) := by decide +kernel
theorem dX4_readRanges_1 : decode cX4_readRanges 1 = .ok (.istore_n 1, 1) := by decide +kernel
theorem dX4_readRanges_2 : decode cX4_readRanges 2 = .ok (.iload_n 1, 1) := by decide +kernel
theorem dX4_readRanges_3 : decode cX4_readRanges 3 = .ok (.ifCond .eq 80, 3) := by decide +kernel
theorem dX4_readRanges_6 : decode cX4_readRanges 6 = .ok (.aload_n 0, 1) := by decide +kernel
theorem dX4_readRanges_7 : decode cX4_readRanges 7 = .ok (.invokevirtual 196, 3) := by decide +kernel
theorem dX4_readRanges_10 : decode cX4_readRanges 10 = .ok (.bipush (-6), 2) := by decide +kernel
theorem dX4_readRanges_12 : decode cX4_readRanges 12 = .ok (.if_icmp .ne 5, 3) := by decide +kernel
theorem dX4_readRanges_15 : decode cX4_readRanges 15 = .ok (.iconst 0, 1) := by decide +kernel
theorem dX4_readRanges_16 : decode cX4_readRanges 16 = .ok (.ireturn, 1) := by decide +kernel
theorem dX4_readRanges_17 : decode cX4_readRanges 17 = .ok (.aload_n 0, 1) := by decide +kernel
theorem dX4_readRanges_18 : decode cX4_readRanges 18 = .ok (.invokevirtual 188, 3) := by decide +kernel
theorem dX4_readRanges_21 : decode cX4_readRanges 21 = .ok (.bipush 45, 2) := by decide +kernel
theorem dX4_readRanges_23 : decode cX4_readRanges 23 = .ok (.if_icmp .ne 24, 3) := by decide +kernel
theorem dX4_readRanges_26 : decode cX4_readRanges 26 = .ok (.aload_n 0, 1) := by decide +kernel
theorem dX4_readRanges_27 : decode cX4_readRanges 27 = .ok (.dup, 1) := by decide +kernel
theorem dX4_readRanges_28 : decode cX4_readRanges 28 = .ok (.getfield 185, 3) := by decide +kernel
theorem dX4_readRanges_31 : decode cX4_readRanges 31 = .ok (.iconst 1, 1) := by decide +kernel
theorem dX4_readRanges_32 : decode cX4_readRanges 32 = .ok (.iadd, 1) := by decide +kernel
theorem dX4_readRanges_33 : decode cX4_readRanges 33 = .ok (.putfield 185, 3) := by decide +kernel
theorem dX4_readRanges_36 : decode cX4_readRanges 36 = .ok (.aload_n 0, 1) := by decide +kernel
theorem dX4_readRanges_37 : decode cX4_readRanges 37 = .ok (.invokevirtual 196, 3) := by decide +kernel
theorem dX4_readRanges_40 : decode cX4_readRanges 40 = .ok (.bipush (-6), 2) := by decide +kernel
theorem dX4_readRanges_42 : decode cX4_readRanges 42 = .ok (.if_icmp .ne 5, 3) := by decide +kernel
theorem dX4_readRanges_45 : decode cX4_readRanges 45 = .ok (.iconst 0, 1) := by decide +kernel
theorem dX4_readRanges_46 : decode cX4_readRanges 46 = .ok (.ireturn, 1) := by decide +kernel
theorem dX4_readRanges_47 : decode cX4_readRanges 47 = .ok (.aload_n 0, 1) := by decide +kernel
theorem dX4_readRanges_48 : decode cX4_readRanges 48 = .ok (.invokevirtual 188, 3) := by decide +kernel
theorem dX4_readRanges_51 : decode cX4_readRanges 51 = .ok (.bipush 44, 2) := by decide +kernel
theorem dX4_readRanges_53 : decode cX4_readRanges 53 = .ok (.if_icmp .ne 7, 3) := by decide +kernel
theorem dX4_readRanges_56 : decode cX4_readRanges 56 = .ok (.iconst 1, 1) := by decide +kernel
theorem dX4_readRanges_57 : decode cX4_readRanges 57 = .ok (.goto 4, 3) := by decide +kernel
theorem dX4_readRanges_60 : decode cX4_readRanges 60 = .ok (.iconst 0, 1) := by decide +kernel
theorem dX4_readRanges_61 : decode cX4_readRanges 61 = .ok (.istore_n 1, 1) := by decide +kernel
theorem dX4_readRanges_62 : decode cX4_readRanges 62 = .ok (.aload_n 0, 1) := by decide +kernel
theorem dX4_readRanges_63 : decode cX4_readRanges 63 = .ok (.dup, 1) := by decide +kernel
theorem dX4_readRanges_64 : decode cX4_readRanges 64 = .ok (.getfield 185, 3) := by decide +kernel
theorem dX4_readRanges_67 : decode cX4_readRanges 67 = .ok (.iload_n 1, 1) := by decide +kernel
theorem dX4_readRanges_68 : decode cX4_readRanges 68 = .ok (.ifCond .eq 7, 3) := by decide +kernel
theorem dX4_readRanges_71 : decode cX4_readRanges 71 = .ok (.iconst 1, 1) := by decide +kernel
theorem dX4_readRanges_72 : decode cX4_readRanges 72 = .ok (.goto 4, 3) := by decide +kernel
theorem dX4_readRanges_75 : decode cX4_readRanges 75 = .ok (.iconst 0, 1) := by decide +kernel
theorem dX4_readRanges_76 : decode cX4_readRanges 76 = .ok (.iadd, 1) := by decide +kernel
theorem dX4_readRanges_77 : decode cX4_readRanges 77 = .ok (.putfield 185, 3) := by decide +kernel
theorem dX4_readRanges_80 : decode cX4_readRanges 80 = .ok (.goto (-78), 3) := by decide +kernel
theorem dX4_readRanges_83 : decode cX4_readRanges 83 = .ok (.iconst 1, 1) := by decide +kernel
theorem dX4_readRanges_84 : decode cX4_readRanges 84 = .ok (.ireturn, 1) := by decide +kernel
theorem dX4_readOrder_0 : decode cX4_readOrder 0 = .ok (.aload_n 0, 1) := by decide +kernel
theorem dX4_readOrder_1 : decode cX4_readOrder 1 = .ok (.invokevirtual 188, 3) := by decide +kernel
theorem dX4_readOrder_4 : decode cX4_readOrder 4 = .ok (.istore_n 1, 1) := by decide +kernel
theorem dX4_readOrder_5 : decode cX4_readOrder 5 = .ok (.iload_n 1, 1) := by decide +kernel
theorem dX4_readOrder_6 : decode cX4_readOrder 6 = .ok (.bipush 112, 2) := by decide +kernel
theorem dX4_readOrder_8 : decode cX4_readOrder 8 = .ok (.if_icmp .ne 28, 3) := by decide +kernel
theorem dX4_readOrder_11 : decode cX4_readOrder 11 = .ok (.aload_n 0, 1) := by decide +kernel
theorem dX4_readOrder_12 : decode cX4_readOrder 12 = .ok (.dup, 1) := by decide +kernel
theorem dX4_readOrder_13 : decode cX4_readOrder 13 = .ok (.getfield 185, 3) := by decide +kernel
theorem dX4_readOrder_16 : decode cX4_readOrder 16 = .ok (.iconst 1, 1) := by decide +kernel
theorem dX4_readOrder_17 : decode cX4_readOrder 17 = .ok (.iadd, 1) := by decide +kernel
theorem dX4_readOrder_18 : decode cX4_readOrder 18 = .ok (.putfield 185, 3) := by decide +kernel
theorem dX4_readOrder_21 : decode cX4_readOrder 21 = .ok (.aload_n 0, 1) := by decide +kernel
theorem dX4_readOrder_22 : decode cX4_readOrder 22 = .ok (.invokevirtual 196, 3) := by decide +kernel
theorem dX4_readOrder_25 : decode cX4_readOrder 25 = .ok (.bipush (-6), 2) := by decide +kernel
theorem dX4_readOrder_27 : decode cX4_readOrder 27 = .ok (.if_icmp .eq 7, 3) := by decide +kernel
theorem dX4_readOrder_30 : decode cX4_readOrder 30 = .ok (.iconst 1, 1) := by decide +kernel
theorem dX4_readOrder_31 : decode cX4_readOrder 31 = .ok (.goto 4, 3) := by decide +kernel
theorem dX4_readOrder_34 : decode cX4_readOrder 34 = .ok (.iconst 0, 1) := by decide +kernel
theorem dX4_readOrder_35 : decode cX4_readOrder 35 = .ok (.ireturn, 1) := by decide +kernel
theorem dX4_readOrder_36 : decode cX4_readOrder 36 = .ok (.iload_n 1, 1) := by decide +kernel
theorem dX4_readOrder_37 : decode cX4_readOrder 37 = .ok (.bipush 109, 2) := by decide +kernel
theorem dX4_readOrder_39 : decode cX4_readOrder 39 = .ok (.if_icmp .eq 11, 3) := by decide +kernel
theorem dX4_readOrder_42 : decode cX4_readOrder 42 = .ok (.iload_n 1, 1) := by decide +kernel
theorem dX4_readOrder_43 : decode cX4_readOrder 43 = .ok (.bipush 99, 2) := by decide +kernel
theorem dX4_readOrder_45 : decode cX4_readOrder 45 = .ok (.if_icmp .eq 5, 3) := by decide +kernel
theorem dX4_readOrder_48 : decode cX4_readOrder 48 = .ok (.iconst 0, 1) := by decide +kernel
theorem dX4_readOrder_49 : decode cX4_readOrder 49 = .ok (.ireturn, 1) := by decide +kernel
theorem dX4_readOrder_50 : decode cX4_readOrder 50 = .ok (.aload_n 0, 1) := by decide +kernel
theorem dX4_readOrder_51 : decode cX4_readOrder 51 = .ok (.dup, 1) := by decide +kernel
theorem dX4_readOrder_52 : decode cX4_readOrder 52 = .ok (.getfield 185, 3) := by decide +kernel
theorem dX4_readOrder_55 : decode cX4_readOrder 55 = .ok (.iconst 1, 1) := by decide +kernel
theorem dX4_readOrder_56 : decode cX4_readOrder 56 = .ok (.iadd, 1) := by decide +kernel
theorem dX4_readOrder_57 : decode cX4_readOrder 57 = .ok (.putfield 185, 3) := by decide +kernel
theorem dX4_readOrder_60 : decode cX4_readOrder 60 = .ok (.aload_n 0, 1) := by decide +kernel
theorem dX4_readOrder_61 : decode cX4_readOrder 61 = .ok (.invokevirtual 188, 3) := by decide +kernel
theorem dX4_readOrder_64 : decode cX4_readOrder 64 = .ok (.i2l, 1) := by decide +kernel
theorem dX4_readOrder_65 : decode cX4_readOrder 65 = .ok (.ldc2_w 199, 3) := by decide +kernel
theorem dX4_readOrder_68 : decode cX4_readOrder 68 = .ok (.ldc2_w 201, 3) := by decide +kernel
theorem dX4_readOrder_71 : decode cX4_readOrder 71 = .ok (.invokestatic 34, 3) := by decide +kernel
theorem dX4_readOrder_74 : decode cX4_readOrder 74 = .ok (.ifCond .ne 5, 3) := by decide +kernel
theorem dX4_readOrder_77 : decode cX4_readOrder 77 = .ok (.iconst 0, 1) := by decide +kernel
theorem dX4_readOrder_78 : decode cX4_readOrder 78 = .ok (.ireturn, 1) := by decide +kernel
theorem dX4_readOrder_79 : decode cX4_readOrder 79 = .ok (.aload_n 0, 1) := by decide +kernel
theorem dX4_readOrder_80 : decode cX4_readOrder 80 = .ok (.dup, 1) := by decide +kernel
theorem dX4_readOrder_81 : decode cX4_readOrder 81 = .ok (.getfield 185, 3) := by decide +kernel
theorem dX4_readOrder_84 : decode cX4_readOrder 84 = .ok (.iconst 1, 1) := by decide +kernel
theorem dX4_readOrder_85 : decode cX4_readOrder 85 = .ok (.iadd, 1) := by decide +kernel
theorem dX4_readOrder_86 : decode cX4_readOrder 86 = .ok (.putfield 185, 3) := by decide +kernel
theorem dX4_readOrder_89 : decode cX4_readOrder 89 = .ok (.aload_n 0, 1) := by decide +kernel
theorem dX4_readOrder_90 : decode cX4_readOrder 90 = .ok (.invokevirtual 188, 3) := by decide +kernel
theorem dX4_readOrder_93 : decode cX4_readOrder 93 = .ok (.bipush 58, 2) := by decide +kernel
theorem dX4_readOrder_95 : decode cX4_readOrder 95 = .ok (.if_icmp .eq 5, 3) := by decide +kernel
theorem dX4_readOrder_98 : decode cX4_readOrder 98 = .ok (.iconst 0, 1) := by decide +kernel
theorem dX4_readOrder_99 : decode cX4_readOrder 99 = .ok (.ireturn, 1) := by decide +kernel
theorem dX4_readOrder_100 : decode cX4_readOrder 100 = .ok (.aload_n 0, 1) := by decide +kernel
theorem dX4_readOrder_101 : decode cX4_readOrder 101 = .ok (.dup, 1) := by decide +kernel
theorem dX4_readOrder_102 : decode cX4_readOrder 102 = .ok (.getfield 185, 3) := by decide +kernel
theorem dX4_readOrder_105 : decode cX4_readOrder 105 = .ok (.iconst 1, 1) := by decide +kernel
theorem dX4_readOrder_106 : decode cX4_readOrder 106 = .ok (.iadd, 1) := by decide +kernel
theorem dX4_readOrder_107 : decode cX4_readOrder 107 = .ok (.putfield 185, 3) := by decide +kernel
theorem dX4_readOrder_110 : decode cX4_readOrder 110 = .ok (.aload_n 0, 1) := by decide +kernel
theorem dX4_readOrder_111 : decode cX4_readOrder 111 = .ok (.invokevirtual 203, 3) := by decide +kernel
theorem dX4_readOrder_114 : decode cX4_readOrder 114 = .ok (.ireturn, 1) := by decide +kernel
theorem dX4_fault_0 : decode cX4_fault 0 = .ok (.aload_n 0, 1) := by decide +kernel
theorem dX4_fault_1 : decode cX4_fault 1 = .ok (.iconst 0, 1) := by decide +kernel
theorem dX4_fault_2 : decode cX4_fault 2 = .ok (.putfield 185, 3) := by decide +kernel
theorem dX4_fault_5 : decode cX4_fault 5 = .ok (.iconst 1, 1) := by decide +kernel
theorem dX4_fault_6 : decode cX4_fault 6 = .ok (.istore_n 1, 1) := by decide +kernel
theorem dX4_fault_7 : decode cX4_fault 7 = .ok (.iload_n 1, 1) := by decide +kernel
theorem dX4_fault_8 : decode cX4_fault 8 = .ok (.ifCond .eq 51, 3) := by decide +kernel
theorem dX4_fault_11 : decode cX4_fault 11 = .ok (.aload_n 0, 1) := by decide +kernel
theorem dX4_fault_12 : decode cX4_fault 12 = .ok (.invokevirtual 207, 3) := by decide +kernel
theorem dX4_fault_15 : decode cX4_fault 15 = .ok (.ifCond .ne 8, 3) := by decide +kernel
theorem dX4_fault_18 : decode cX4_fault 18 = .ok (.aload_n 0, 1) := by decide +kernel
theorem dX4_fault_19 : decode cX4_fault 19 = .ok (.getfield 185, 3) := by decide +kernel
theorem dX4_fault_22 : decode cX4_fault 22 = .ok (.ireturn, 1) := by decide +kernel
theorem dX4_fault_23 : decode cX4_fault 23 = .ok (.aload_n 0, 1) := by decide +kernel
theorem dX4_fault_24 : decode cX4_fault 24 = .ok (.invokevirtual 188, 3) := by decide +kernel
theorem dX4_fault_27 : decode cX4_fault 27 = .ok (.bipush 59, 2) := by decide +kernel
theorem dX4_fault_29 : decode cX4_fault 29 = .ok (.if_icmp .ne 7, 3) := by decide +kernel
theorem dX4_fault_32 : decode cX4_fault 32 = .ok (.iconst 1, 1) := by decide +kernel
theorem dX4_fault_33 : decode cX4_fault 33 = .ok (.goto 4, 3) := by decide +kernel
theorem dX4_fault_36 : decode cX4_fault 36 = .ok (.iconst 0, 1) := by decide +kernel
theorem dX4_fault_37 : decode cX4_fault 37 = .ok (.istore_n 1, 1) := by decide +kernel
theorem dX4_fault_38 : decode cX4_fault 38 = .ok (.aload_n 0, 1) := by decide +kernel
theorem dX4_fault_39 : decode cX4_fault 39 = .ok (.dup, 1) := by decide +kernel
theorem dX4_fault_40 : decode cX4_fault 40 = .ok (.getfield 185, 3) := by decide +kernel
theorem dX4_fault_43 : decode cX4_fault 43 = .ok (.iload_n 1, 1) := by decide +kernel
theorem dX4_fault_44 : decode cX4_fault 44 = .ok (.ifCond .eq 7, 3) := by decide +kernel
theorem dX4_fault_47 : decode cX4_fault 47 = .ok (.iconst 1, 1) := by decide +kernel
theorem dX4_fault_48 : decode cX4_fault 48 = .ok (.goto 4, 3) := by decide +kernel
theorem dX4_fault_51 : decode cX4_fault 51 = .ok (.iconst 0, 1) := by decide +kernel
theorem dX4_fault_52 : decode cX4_fault 52 = .ok (.iadd, 1) := by decide +kernel
theorem dX4_fault_53 : decode cX4_fault 53 = .ok (.putfield 185, 3) := by decide +kernel
theorem dX4_fault_56 : decode cX4_fault 56 = .ok (.goto (-49), 3) := by decide +kernel
theorem dX4_fault_59 : decode cX4_fault 59 = .ok (.aload_n 0, 1) := by decide +kernel
theorem dX4_fault_60 : decode cX4_fault 60 = .ok (.getfield 185, 3) := by decide +kernel
theorem dX4_fault_63 : decode cX4_fault 63 = .ok (.aload_n 0, 1) := by decide +kernel
theorem dX4_fault_64 : decode cX4_fault 64 = .ok (.getfield 170, 3) := by decide +kernel
theorem dX4_fault_67 : decode cX4_fault 67 = .ok (.if_icmp .ge 10, 3) := by decide +kernel
theorem dX4_fault_70 : decode cX4_fault 70 = .ok (.aload_n 0, 1) := by decide +kernel
theorem dX4_fault_71 : decode cX4_fault 71 = .ok (.getfield 185, 3) := by decide +kernel
theorem dX4_fault_74 : decode cX4_fault 74 = .ok (.goto 5, 3) := by decide +kernel
theorem dX4_fault_77 : decode cX4_fault 77 = .ok (.bipush (-6), 2) := by decide +kernel
theorem dX4_fault_79 : decode cX4_fault 79 = .ok (.ireturn, 1) := by decide +kernel
theorem dX4_doOrder_0 : decode cX4_doOrder 0 = .ok (.aload_n 0, 1) := by decide +kernel
theorem dX4_doOrder_1 : decode cX4_doOrder 1 = .ok (.invokevirtual 188, 3) := by decide +kernel
theorem dX4_doOrder_4 : decode cX4_doOrder 4 = .ok (.istore_n 1, 1) := by decide +kernel
theorem dX4_doOrder_5 : decode cX4_doOrder 5 = .ok (.aload_n 0, 1) := by decide +kernel
theorem dX4_doOrder_6 : decode cX4_doOrder 6 = .ok (.dup, 1) := by decide +kernel
theorem dX4_doOrder_7 : decode cX4_doOrder 7 = .ok (.getfield 185, 3) := by decide +kernel
theorem dX4_doOrder_10 : decode cX4_doOrder 10 = .ok (.iconst 1, 1) := by decide +kernel
theorem dX4_doOrder_11 : decode cX4_doOrder 11 = .ok (.iadd, 1) := by decide +kernel
theorem dX4_doOrder_12 : decode cX4_doOrder 12 = .ok (.putfield 185, 3) := by decide +kernel
theorem dX4_doOrder_15 : decode cX4_doOrder 15 = .ok (.iload_n 1, 1) := by decide +kernel
theorem dX4_doOrder_16 : decode cX4_doOrder 16 = .ok (.bipush 112, 2) := by decide +kernel
theorem dX4_doOrder_18 : decode cX4_doOrder 18 = .ok (.if_icmp .ne 42, 3) := by decide +kernel
theorem dX4_doOrder_21 : decode cX4_doOrder 21 = .ok (.aload_n 0, 1) := by decide +kernel
theorem dX4_doOrder_22 : decode cX4_doOrder 22 = .ok (.invokevirtual 196, 3) := by decide +kernel
theorem dX4_doOrder_25 : decode cX4_doOrder 25 = .ok (.istore_n 2, 1) := by decide +kernel
theorem dX4_doOrder_26 : decode cX4_doOrder 26 = .ok (.aload_n 0, 1) := by decide +kernel
theorem dX4_doOrder_27 : decode cX4_doOrder 27 = .ok (.aload_n 0, 1) := by decide +kernel
theorem dX4_doOrder_28 : decode cX4_doOrder 28 = .ok (.getfield 7, 3) := by decide +kernel
theorem dX4_doOrder_31 : decode cX4_doOrder 31 = .ok (.iload_n 2, 1) := by decide +kernel
theorem dX4_doOrder_32 : decode cX4_doOrder 32 = .ok (.invokevirtual 124, 3) := by decide +kernel
theorem dX4_doOrder_35 : decode cX4_doOrder 35 = .ok (.ifCond .ne 7, 3) := by decide +kernel
theorem dX4_doOrder_38 : decode cX4_doOrder 38 = .ok (.iconst 1, 1) := by decide +kernel
theorem dX4_doOrder_39 : decode cX4_doOrder 39 = .ok (.goto 4, 3) := by decide +kernel
theorem dX4_doOrder_42 : decode cX4_doOrder 42 = .ok (.iconst 0, 1) := by decide +kernel
theorem dX4_doOrder_43 : decode cX4_doOrder 43 = .ok (.istore_n 3, 1) := by decide +kernel
theorem dX4_doOrder_44 : decode cX4_doOrder 44 = .ok (.iload_n 3, 1) := by decide +kernel
theorem dX4_doOrder_45 : decode cX4_doOrder 45 = .ok (.ifCond .eq 13, 3) := by decide +kernel
theorem dX4_doOrder_48 : decode cX4_doOrder 48 = .ok (.aload_n 0, 1) := by decide +kernel
theorem dX4_doOrder_49 : decode cX4_doOrder 49 = .ok (.aload_n 0, 1) := by decide +kernel
theorem dX4_doOrder_50 : decode cX4_doOrder 50 = .ok (.getfield 7, 3) := by decide +kernel
theorem dX4_doOrder_53 : decode cX4_doOrder 53 = .ok (.iload_n 2, 1) := by decide +kernel
theorem dX4_doOrder_54 : decode cX4_doOrder 54 = .ok (.invokevirtual 127, 3) := by decide +kernel
theorem dX4_doOrder_57 : decode cX4_doOrder 57 = .ok (.pop, 1) := by decide +kernel
theorem dX4_doOrder_58 : decode cX4_doOrder 58 = .ok (.iload_n 3, 1) := by decide +kernel
theorem dX4_doOrder_59 : decode cX4_doOrder 59 = .ok (.ireturn, 1) := by decide +kernel
theorem dX4_doOrder_60 : decode cX4_doOrder 60 = .ok (.aload_n 0, 1) := by decide +kernel
theorem dX4_doOrder_61 : decode cX4_doOrder 61 = .ok (.invokevirtual 188, 3) := by decide +kernel
theorem dX4_doOrder_64 : decode cX4_doOrder 64 = .ok (.bipush 97, 2) := by decide +kernel
theorem dX4_doOrder_66 : decode cX4_doOrder 66 = .ok (.isub, 1) := by decide +kernel
theorem dX4_doOrder_67 : decode cX4_doOrder 67 = .ok (.istore_n 2, 1) := by decide +kernel
theorem dX4_doOrder_68 : decode cX4_doOrder 68 = .ok (.aload_n 0, 1) := by decide +kernel
theorem dX4_doOrder_69 : decode cX4_doOrder 69 = .ok (.dup, 1) := by decide +kernel
theorem dX4_doOrder_70 : decode cX4_doOrder 70 = .ok (.getfield 185, 3) := by decide +kernel
theorem dX4_doOrder_73 : decode cX4_doOrder 73 = .ok (.iconst 2, 1) := by decide +kernel
theorem dX4_doOrder_74 : decode cX4_doOrder 74 = .ok (.iadd, 1) := by decide +kernel
theorem dX4_doOrder_75 : decode cX4_doOrder 75 = .ok (.putfield 185, 3) := by decide +kernel
theorem dX4_doOrder_78 : decode cX4_doOrder 78 = .ok (.iconst 1, 1) := by decide +kernel
theorem dX4_doOrder_79 : decode cX4_doOrder 79 = .ok (.istore_n 3, 1) := by decide +kernel
theorem dX4_doOrder_80 : decode cX4_doOrder 80 = .ok (.iload_n 3, 1) := by decide +kernel
theorem dX4_doOrder_81 : decode cX4_doOrder 81 = .ok (.ifCond .eq 117, 3) := by decide +kernel
theorem dX4_doOrder_84 : decode cX4_doOrder 84 = .ok (.aload_n 0, 1) := by decide +kernel
theorem dX4_doOrder_85 : decode cX4_doOrder 85 = .ok (.invokevirtual 196, 3) := by decide +kernel
theorem dX4_doOrder_88 : decode cX4_doOrder 88 = .ok (.istore 4, 2) := by decide +kernel
theorem dX4_doOrder_90 : decode cX4_doOrder 90 = .ok (.iload 4, 2) := by decide +kernel
theorem dX4_doOrder_92 : decode cX4_doOrder 92 = .ok (.istore 5, 2) := by decide +kernel
theorem dX4_doOrder_94 : decode cX4_doOrder 94 = .ok (.aload_n 0, 1) := by decide +kernel
theorem dX4_doOrder_95 : decode cX4_doOrder 95 = .ok (.invokevirtual 188, 3) := by decide +kernel
theorem dX4_doOrder_98 : decode cX4_doOrder 98 = .ok (.bipush 45, 2) := by decide +kernel
theorem dX4_doOrder_100 : decode cX4_doOrder 100 = .ok (.if_icmp .ne 19, 3) := by decide +kernel
theorem dX4_doOrder_103 : decode cX4_doOrder 103 = .ok (.aload_n 0, 1) := by decide +kernel
theorem dX4_doOrder_104 : decode cX4_doOrder 104 = .ok (.dup, 1) := by decide +kernel
theorem dX4_doOrder_105 : decode cX4_doOrder 105 = .ok (.getfield 185, 3) := by decide +kernel
theorem dX4_doOrder_108 : decode cX4_doOrder 108 = .ok (.iconst 1, 1) := by decide +kernel
theorem dX4_doOrder_109 : decode cX4_doOrder 109 = .ok (.iadd, 1) := by decide +kernel
theorem dX4_doOrder_110 : decode cX4_doOrder 110 = .ok (.putfield 185, 3) := by decide +kernel
theorem dX4_doOrder_113 : decode cX4_doOrder 113 = .ok (.aload_n 0, 1) := by decide +kernel
theorem dX4_doOrder_114 : decode cX4_doOrder 114 = .ok (.invokevirtual 196, 3) := by decide +kernel
theorem dX4_doOrder_117 : decode cX4_doOrder 117 = .ok (.istore 5, 2) := by decide +kernel
theorem dX4_doOrder_119 : decode cX4_doOrder 119 = .ok (.aload_n 0, 1) := by decide +kernel
theorem dX4_doOrder_120 : decode cX4_doOrder 120 = .ok (.aload_n 0, 1) := by decide +kernel
theorem dX4_doOrder_121 : decode cX4_doOrder 121 = .ok (.getfield 7, 3) := by decide +kernel
theorem dX4_doOrder_124 : decode cX4_doOrder 124 = .ok (.iload_n 2, 1) := by decide +kernel
theorem dX4_doOrder_125 : decode cX4_doOrder 125 = .ok (.iload 4, 2) := by decide +kernel
theorem dX4_doOrder_127 : decode cX4_doOrder 127 = .ok (.iload 5, 2) := by decide +kernel
theorem dX4_doOrder_129 : decode cX4_doOrder 129 = .ok (.invokevirtual 145, 3) := by decide +kernel
theorem dX4_doOrder_132 : decode cX4_doOrder 132 = .ok (.ifCond .eq 5, 3) := by decide +kernel
theorem dX4_doOrder_135 : decode cX4_doOrder 135 = .ok (.iconst 0, 1) := by decide +kernel
theorem dX4_doOrder_136 : decode cX4_doOrder 136 = .ok (.ireturn, 1) := by decide +kernel
theorem dX4_doOrder_137 : decode cX4_doOrder 137 = .ok (.aload_n 0, 1) := by decide +kernel
theorem dX4_doOrder_138 : decode cX4_doOrder 138 = .ok (.aload_n 0, 1) := by decide +kernel
theorem dX4_doOrder_139 : decode cX4_doOrder 139 = .ok (.getfield 7, 3) := by decide +kernel
theorem dX4_doOrder_142 : decode cX4_doOrder 142 = .ok (.iload_n 2, 1) := by decide +kernel
theorem dX4_doOrder_143 : decode cX4_doOrder 143 = .ok (.iload 4, 2) := by decide +kernel
theorem dX4_doOrder_145 : decode cX4_doOrder 145 = .ok (.iload 5, 2) := by decide +kernel
theorem dX4_doOrder_147 : decode cX4_doOrder 147 = .ok (.iload_n 1, 1) := by decide +kernel
theorem dX4_doOrder_148 : decode cX4_doOrder 148 = .ok (.bipush 109, 2) := by decide +kernel
theorem dX4_doOrder_150 : decode cX4_doOrder 150 = .ok (.if_icmp .ne 7, 3) := by decide +kernel
theorem dX4_doOrder_153 : decode cX4_doOrder 153 = .ok (.iconst 1, 1) := by decide +kernel
theorem dX4_doOrder_154 : decode cX4_doOrder 154 = .ok (.goto 4, 3) := by decide +kernel
theorem dX4_doOrder_157 : decode cX4_doOrder 157 = .ok (.iconst 0, 1) := by decide +kernel
theorem dX4_doOrder_158 : decode cX4_doOrder 158 = .ok (.invokevirtual 148, 3) := by decide +kernel
theorem dX4_doOrder_161 : decode cX4_doOrder 161 = .ok (.pop, 1) := by decide +kernel
theorem dX4_doOrder_162 : decode cX4_doOrder 162 = .ok (.aload_n 0, 1) := by decide +kernel
theorem dX4_doOrder_163 : decode cX4_doOrder 163 = .ok (.invokevirtual 188, 3) := by decide +kernel
theorem dX4_doOrder_166 : decode cX4_doOrder 166 = .ok (.bipush 44, 2) := by decide +kernel
theorem dX4_doOrder_168 : decode cX4_doOrder 168 = .ok (.if_icmp .ne 7, 3) := by decide +kernel
theorem dX4_doOrder_171 : decode cX4_doOrder 171 = .ok (.iconst 1, 1) := by decide +kernel
theorem dX4_doOrder_172 : decode cX4_doOrder 172 = .ok (.goto 4, 3) := by decide +kernel
theorem dX4_doOrder_175 : decode cX4_doOrder 175 = .ok (.iconst 0, 1) := by decide +kernel
theorem dX4_doOrder_176 : decode cX4_doOrder 176 = .ok (.istore_n 3, 1) := by decide +kernel
theorem dX4_doOrder_177 : decode cX4_doOrder 177 = .ok (.aload_n 0, 1) := by decide +kernel
theorem dX4_doOrder_178 : decode cX4_doOrder 178 = .ok (.dup, 1) := by decide +kernel
theorem dX4_doOrder_179 : decode cX4_doOrder 179 = .ok (.getfield 185, 3) := by decide +kernel
theorem dX4_doOrder_182 : decode cX4_doOrder 182 = .ok (.iload_n 3, 1) := by decide +kernel
theorem dX4_doOrder_183 : decode cX4_doOrder 183 = .ok (.ifCond .eq 7, 3) := by decide +kernel
theorem dX4_doOrder_186 : decode cX4_doOrder 186 = .ok (.iconst 1, 1) := by decide +kernel
theorem dX4_doOrder_187 : decode cX4_doOrder 187 = .ok (.goto 4, 3) := by decide +kernel
theorem dX4_doOrder_190 : decode cX4_doOrder 190 = .ok (.iconst 0, 1) := by decide +kernel
theorem dX4_doOrder_191 : decode cX4_doOrder 191 = .ok (.iadd, 1) := by decide +kernel
theorem dX4_doOrder_192 : decode cX4_doOrder 192 = .ok (.putfield 185, 3) := by decide +kernel
theorem dX4_doOrder_195 : decode cX4_doOrder 195 = .ok (.goto (-115), 3) := by decide +kernel
theorem dX4_doOrder_198 : decode cX4_doOrder 198 = .ok (.iconst 1, 1) := by decide +kernel
theorem dX4_doOrder_199 : decode cX4_doOrder 199 = .ok (.ireturn, 1) := by decide +kernel
theorem dX4_carryOut_0 : decode cX4_carryOut 0 = .ok (.aload_n 0, 1) := by decide +kernel
theorem dX4_carryOut_1 : decode cX4_carryOut 1 = .ok (.invokevirtual 210, 3) := by decide +kernel
theorem dX4_carryOut_4 : decode cX4_carryOut 4 = .ok (.bipush (-6), 2) := by decide +kernel
theorem dX4_carryOut_6 : decode cX4_carryOut 6 = .ok (.if_icmp .eq 6, 3) := by decide +kernel
theorem dX4_carryOut_9 : decode cX4_carryOut 9 = .ok (.bipush (-3), 2) := by decide +kernel
theorem dX4_carryOut_11 : decode cX4_carryOut 11 = .ok (.ireturn, 1) := by decide +kernel
theorem dX4_carryOut_12 : decode cX4_carryOut 12 = .ok (.aload_n 0, 1) := by decide +kernel
theorem dX4_carryOut_13 : decode cX4_carryOut 13 = .ok (.invokevirtual 119, 3) := by decide +kernel
theorem dX4_carryOut_16 : decode cX4_carryOut 16 = .ok (.aload_n 0, 1) := by decide +kernel
theorem dX4_carryOut_17 : decode cX4_carryOut 17 = .ok (.iconst 0, 1) := by decide +kernel
theorem dX4_carryOut_18 : decode cX4_carryOut 18 = .ok (.putfield 185, 3) := by decide +kernel
theorem dX4_carryOut_21 : decode cX4_carryOut 21 = .ok (.iconst 0, 1) := by decide +kernel
theorem dX4_carryOut_22 : decode cX4_carryOut 22 = .ok (.istore_n 1, 1) := by decide +kernel
theorem dX4_carryOut_23 : decode cX4_carryOut 23 = .ok (.iconst 1, 1) := by decide +kernel
theorem dX4_carryOut_24 : decode cX4_carryOut 24 = .ok (.istore_n 2, 1) := by decide +kernel
theorem dX4_carryOut_25 : decode cX4_carryOut 25 = .ok (.iload_n 2, 1) := by decide +kernel
theorem dX4_carryOut_26 : decode cX4_carryOut 26 = .ok (.ifCond .eq 41, 3) := by decide +kernel
theorem dX4_carryOut_29 : decode cX4_carryOut 29 = .ok (.aload_n 0, 1) := by decide +kernel
theorem dX4_carryOut_30 : decode cX4_carryOut 30 = .ok (.invokevirtual 213, 3) := by decide +kernel
theorem dX4_carryOut_33 : decode cX4_carryOut 33 = .ok (.ifCond .eq 34, 3) := by decide +kernel
theorem dX4_carryOut_36 : decode cX4_carryOut 36 = .ok (.iinc 1 1, 3) := by decide +kernel
theorem dX4_carryOut_39 : decode cX4_carryOut 39 = .ok (.aload_n 0, 1) := by decide +kernel
theorem dX4_carryOut_40 : decode cX4_carryOut 40 = .ok (.invokevirtual 188, 3) := by decide +kernel
theorem dX4_carryOut_43 : decode cX4_carryOut 43 = .ok (.bipush 59, 2) := by decide +kernel
theorem dX4_carryOut_45 : decode cX4_carryOut 45 = .ok (.if_icmp .ne 7, 3) := by decide +kernel
theorem dX4_carryOut_48 : decode cX4_carryOut 48 = .ok (.iconst 1, 1) := by decide +kernel
theorem dX4_carryOut_49 : decode cX4_carryOut 49 = .ok (.goto 4, 3) := by decide +kernel
theorem dX4_carryOut_52 : decode cX4_carryOut 52 = .ok (.iconst 0, 1) := by decide +kernel
theorem dX4_carryOut_53 : decode cX4_carryOut 53 = .ok (.istore_n 2, 1) := by decide +kernel
theorem dX4_carryOut_54 : decode cX4_carryOut 54 = .ok (.aload_n 0, 1) := by decide +kernel
theorem dX4_carryOut_55 : decode cX4_carryOut 55 = .ok (.dup, 1) := by decide +kernel
theorem dX4_carryOut_56 : decode cX4_carryOut 56 = .ok (.getfield 185, 3) := by decide +kernel
theorem dX4_carryOut_59 : decode cX4_carryOut 59 = .ok (.iconst 1, 1) := by decide +kernel
theorem dX4_carryOut_60 : decode cX4_carryOut 60 = .ok (.iadd, 1) := by decide +kernel
theorem dX4_carryOut_61 : decode cX4_carryOut 61 = .ok (.putfield 185, 3) := by decide +kernel
theorem dX4_carryOut_64 : decode cX4_carryOut 64 = .ok (.goto (-39), 3) := by decide +kernel
theorem dX4_carryOut_67 : decode cX4_carryOut 67 = .ok (.aload_n 0, 1) := by decide +kernel
theorem dX4_carryOut_68 : decode cX4_carryOut 68 = .ok (.iconst 0, 1) := by decide +kernel
theorem dX4_carryOut_69 : decode cX4_carryOut 69 = .ok (.putfield 170, 3) := by decide +kernel
theorem dX4_carryOut_72 : decode cX4_carryOut 72 = .ok (.iload_n 1, 1) := by decide +kernel
theorem dX4_carryOut_73 : decode cX4_carryOut 73 = .ok (.ireturn, 1) := by decide +kernel
theorem dX4_undo_0 : decode cX4_undo 0 = .ok (.aload_n 0, 1) := by decide +kernel
theorem dX4_undo_1 : decode cX4_undo 1 = .ok (.getfield 107, 3) := by decide +kernel
theorem dX4_undo_4 : decode cX4_undo 4 = .ok (.ifCond .ne 6, 3) := by decide +kernel
theorem dX4_undo_7 : decode cX4_undo 7 = .ok (.bipush (-5), 2) := by decide +kernel
theorem dX4_undo_9 : decode cX4_undo 9 = .ok (.ireturn, 1) := by decide +kernel
theorem dX4_undo_10 : decode cX4_undo 10 = .ok (.aload_n 0, 1) := by decide +kernel
theorem dX4_undo_11 : decode cX4_undo 11 = .ok (.dup, 1) := by decide +kernel
theorem dX4_undo_12 : decode cX4_undo 12 = .ok (.getfield 107, 3) := by decide +kernel
theorem dX4_undo_15 : decode cX4_undo 15 = .ok (.iconst 1, 1) := by decide +kernel
theorem dX4_undo_16 : decode cX4_undo 16 = .ok (.isub, 1) := by decide +kernel
theorem dX4_undo_17 : decode cX4_undo 17 = .ok (.putfield 107, 3) := by decide +kernel
theorem dX4_undo_20 : decode cX4_undo 20 = .ok (.aload_n 0, 1) := by decide +kernel
theorem dX4_undo_21 : decode cX4_undo 21 = .ok (.getfield 16, 3) := by decide +kernel
theorem dX4_undo_24 : decode cX4_undo 24 = .ok (.sipush 2175, 3) := by decide +kernel
theorem dX4_undo_27 : decode cX4_undo 27 = .ok (.aload_n 0, 1) := by decide +kernel
theorem dX4_undo_28 : decode cX4_undo 28 = .ok (.getfield 107, 3) := by decide +kernel
theorem dX4_undo_31 : decode cX4_undo 31 = .ok (.imul, 1) := by decide +kernel
theorem dX4_undo_32 : decode cX4_undo 32 = .ok (.aload_n 0, 1) := by decide +kernel
theorem dX4_undo_33 : decode cX4_undo 33 = .ok (.getfield 7, 3) := by decide +kernel
theorem dX4_undo_36 : decode cX4_undo 36 = .ok (.iconst 0, 1) := by decide +kernel
theorem dX4_undo_37 : decode cX4_undo 37 = .ok (.invokestatic 111, 3) := by decide +kernel
theorem dX4_undo_40 : decode cX4_undo 40 = .ok (.aload_n 0, 1) := by decide +kernel
theorem dX4_undo_41 : decode cX4_undo 41 = .ok (.getfield 107, 3) := by decide +kernel
theorem dX4_undo_44 : decode cX4_undo 44 = .ok (.ireturn, 1) := by decide +kernel
theorem dX4_save_0 : decode cX4_save 0 = .ok (.iload_n 1, 1) := by decide +kernel
theorem dX4_save_1 : decode cX4_save 1 = .ok (.i2l, 1) := by decide +kernel
theorem dX4_save_2 : decode cX4_save 2 = .ok (.lconst 0, 1) := by decide +kernel
theorem dX4_save_3 : decode cX4_save 3 = .ok (.lconst 1, 1) := by decide +kernel
theorem dX4_save_4 : decode cX4_save 4 = .ok (.invokestatic 34, 3) := by decide +kernel
theorem dX4_save_7 : decode cX4_save 7 = .ok (.ifCond .ne 6, 3) := by decide +kernel
theorem dX4_save_10 : decode cX4_save 10 = .ok (.bipush (-2), 2) := by decide +kernel
theorem dX4_save_12 : decode cX4_save 12 = .ok (.ireturn, 1) := by decide +kernel
theorem dX4_save_13 : decode cX4_save 13 = .ok (.aload_n 0, 1) := by decide +kernel
theorem dX4_save_14 : decode cX4_save 14 = .ok (.getfield 7, 3) := by decide +kernel
theorem dX4_save_17 : decode cX4_save 17 = .ok (.iconst 0, 1) := by decide +kernel
theorem dX4_save_18 : decode cX4_save 18 = .ok (.aload_n 0, 1) := by decide +kernel
theorem dX4_save_19 : decode cX4_save 19 = .ok (.getfield 19, 3) := by decide +kernel
theorem dX4_save_22 : decode cX4_save 22 = .ok (.sipush 2175, 3) := by decide +kernel
theorem dX4_save_25 : decode cX4_save 25 = .ok (.iload_n 1, 1) := by decide +kernel
theorem dX4_save_26 : decode cX4_save 26 = .ok (.imul, 1) := by decide +kernel
theorem dX4_save_27 : decode cX4_save 27 = .ok (.invokestatic 111, 3) := by decide +kernel
theorem dX4_save_30 : decode cX4_save 30 = .ok (.aload_n 0, 1) := by decide +kernel
theorem dX4_save_31 : decode cX4_save 31 = .ok (.getfield 22, 3) := by decide +kernel
theorem dX4_save_34 : decode cX4_save 34 = .ok (.iload_n 1, 1) := by decide +kernel
theorem dX4_save_35 : decode cX4_save 35 = .ok (.iconst 1, 1) := by decide +kernel
theorem dX4_save_36 : decode cX4_save 36 = .ok (.bastore, 1) := by decide +kernel
theorem dX4_save_37 : decode cX4_save 37 = .ok (.aload_n 0, 1) := by decide +kernel
theorem dX4_save_38 : decode cX4_save 38 = .ok (.getfield 7, 3) := by decide +kernel
theorem dX4_save_41 : decode cX4_save 41 = .ok (.iconst 0, 1) := by decide +kernel
theorem dX4_save_42 : decode cX4_save 42 = .ok (.iaload, 1) := by decide +kernel
theorem dX4_save_43 : decode cX4_save 43 = .ok (.ireturn, 1) := by decide +kernel
theorem dX4_restore_0 : decode cX4_restore 0 = .ok (.iload_n 1, 1) := by decide +kernel
theorem dX4_restore_1 : decode cX4_restore 1 = .ok (.i2l, 1) := by decide +kernel
theorem dX4_restore_2 : decode cX4_restore 2 = .ok (.lconst 0, 1) := by decide +kernel
theorem dX4_restore_3 : decode cX4_restore 3 = .ok (.lconst 1, 1) := by decide +kernel
theorem dX4_restore_4 : decode cX4_restore 4 = .ok (.invokestatic 34, 3) := by decide +kernel
theorem dX4_restore_7 : decode cX4_restore 7 = .ok (.ifCond .ne 6, 3) := by decide +kernel
theorem dX4_restore_10 : decode cX4_restore 10 = .ok (.bipush (-2), 2) := by decide +kernel
theorem dX4_restore_12 : decode cX4_restore 12 = .ok (.ireturn, 1) := by decide +kernel
theorem dX4_restore_13 : decode cX4_restore 13 = .ok (.aload_n 0, 1) := by decide +kernel
theorem dX4_restore_14 : decode cX4_restore 14 = .ok (.getfield 22, 3) := by decide +kernel
theorem dX4_restore_17 : decode cX4_restore 17 = .ok (.iload_n 1, 1) := by decide +kernel
theorem dX4_restore_18 : decode cX4_restore 18 = .ok (.baload, 1) := by decide +kernel
theorem dX4_restore_19 : decode cX4_restore 19 = .ok (.ifCond .ne 6, 3) := by decide +kernel
theorem dX4_restore_22 : decode cX4_restore 22 = .ok (.bipush (-5), 2) := by decide +kernel
theorem dX4_restore_24 : decode cX4_restore 24 = .ok (.ireturn, 1) := by decide +kernel
theorem dX4_restore_25 : decode cX4_restore 25 = .ok (.aload_n 0, 1) := by decide +kernel
theorem dX4_restore_26 : decode cX4_restore 26 = .ok (.invokevirtual 119, 3) := by decide +kernel
theorem dX4_restore_29 : decode cX4_restore 29 = .ok (.aload_n 0, 1) := by decide +kernel
theorem dX4_restore_30 : decode cX4_restore 30 = .ok (.getfield 19, 3) := by decide +kernel
theorem dX4_restore_33 : decode cX4_restore 33 = .ok (.sipush 2175, 3) := by decide +kernel
theorem dX4_restore_36 : decode cX4_restore 36 = .ok (.iload_n 1, 1) := by decide +kernel
theorem dX4_restore_37 : decode cX4_restore 37 = .ok (.imul, 1) := by decide +kernel
theorem dX4_restore_38 : decode cX4_restore 38 = .ok (.aload_n 0, 1) := by decide +kernel
theorem dX4_restore_39 : decode cX4_restore 39 = .ok (.getfield 7, 3) := by decide +kernel
theorem dX4_restore_42 : decode cX4_restore 42 = .ok (.iconst 0, 1) := by decide +kernel
theorem dX4_restore_43 : decode cX4_restore 43 = .ok (.invokestatic 111, 3) := by decide +kernel
theorem dX4_restore_46 : decode cX4_restore 46 = .ok (.aload_n 0, 1) := by decide +kernel
theorem dX4_restore_47 : decode cX4_restore 47 = .ok (.getfield 7, 3) := by decide +kernel
theorem dX4_restore_50 : decode cX4_restore 50 = .ok (.iconst 0, 1) := by decide +kernel
theorem dX4_restore_51 : decode cX4_restore 51 = .ok (.iaload, 1) := by decide +kernel
theorem dX4_restore_52 : decode cX4_restore 52 = .ok (.ireturn, 1) := by decide +kernel
end
section
theorem dL_law_0 : decode cL_law 0 = .ok (.new 7, 3) := by decide +kernel
theorem dL_law_3 : decode cL_law 3 = .ok (.dup, 1) := by decide +kernel
theorem dL_law_4 : decode cL_law 4 = .ok (.invokespecial 9, 3) := by decide +kernel
theorem dL_law_7 : decode cL_law 7 = .ok (.astore_n 1, 1) := by decide +kernel
theorem dL_law_8 : decode cL_law 8 = .ok (.new 10, 3) := by decide +kernel
theorem dL_law_11 : decode cL_law 11 = .ok (.dup, 1) := by decide +kernel
theorem dL_law_12 : decode cL_law 12 = .ok (.invokespecial 12, 3) := by decide +kernel
theorem dL_law_15 : decode cL_law 15 = .ok (.astore_n 2, 1) := by decide +kernel
theorem dL_law_16 : decode cL_law 16 = .ok (.iconst 0, 1) := by decide +kernel
theorem dL_law_17 : decode cL_law 17 = .ok (.istore_n 3, 1) := by decide +kernel
theorem dL_law_18 : decode cL_law 18 = .ok (.iload_n 3, 1) := by decide +kernel
theorem dL_law_19 : decode cL_law 19 = .ok (.aload_n 0, 1) := by decide +kernel
theorem dL_law_20 : decode cL_law 20 = .ok (.arraylength, 1) := by decide +kernel
theorem dL_law_21 : decode cL_law 21 = .ok (.iconst 5, 1) := by decide +kernel
theorem dL_law_22 : decode cL_law 22 = .ok (.isub, 1) := by decide +kernel
theorem dL_law_23 : decode cL_law 23 = .ok (.if_icmp .gt 946, 3) := by decide +kernel
theorem dL_law_26 : decode cL_law 26 = .ok (.aload_n 0, 1) := by decide +kernel
theorem dL_law_27 : decode cL_law 27 = .ok (.iload_n 3, 1) := by decide +kernel
theorem dL_law_28 : decode cL_law 28 = .ok (.iaload, 1) := by decide +kernel
theorem dL_law_29 : decode cL_law 29 = .ok (.bipush 31, 2) := by decide +kernel
theorem dL_law_31 : decode cL_law 31 = .ok (.iand, 1) := by decide +kernel
theorem dL_law_32 : decode cL_law 32 = .ok (.tableswitch 931 0 24 #[116, 149, 172, 215, 258, 301, 334, 387, 430, 483, 516, 549, 582, 625, 658, 681, 714, 747, 780, 833, 846, 859, 872, 885, 908], 116) := by decide +kernel
theorem dL_law_148 : decode cL_law 148 = .ok (.aload_n 1, 1) := by decide +kernel
theorem dL_law_149 : decode cL_law 149 = .ok (.aload_n 0, 1) := by decide +kernel
theorem dL_law_150 : decode cL_law 150 = .ok (.iload_n 3, 1) := by decide +kernel
theorem dL_law_151 : decode cL_law 151 = .ok (.iconst 1, 1) := by decide +kernel
theorem dL_law_152 : decode cL_law 152 = .ok (.iadd, 1) := by decide +kernel
theorem dL_law_153 : decode cL_law 153 = .ok (.iaload, 1) := by decide +kernel
theorem dL_law_154 : decode cL_law 154 = .ok (.aload_n 0, 1) := by decide +kernel
theorem dL_law_155 : decode cL_law 155 = .ok (.iload_n 3, 1) := by decide +kernel
theorem dL_law_156 : decode cL_law 156 = .ok (.iconst 2, 1) := by decide +kernel
theorem dL_law_157 : decode cL_law 157 = .ok (.iadd, 1) := by decide +kernel
theorem dL_law_158 : decode cL_law 158 = .ok (.iaload, 1) := by decide +kernel
theorem dL_law_159 : decode cL_law 159 = .ok (.invokevirtual 13, 3) := by decide +kernel
theorem dL_law_162 : decode cL_law 162 = .ok (.aload_n 2, 1) := by decide +kernel
theorem dL_law_163 : decode cL_law 163 = .ok (.aload_n 0, 1) := by decide +kernel
theorem dL_law_164 : decode cL_law 164 = .ok (.iload_n 3, 1) := by decide +kernel
theorem dL_law_165 : decode cL_law 165 = .ok (.iconst 1, 1) := by decide +kernel
theorem dL_law_166 : decode cL_law 166 = .ok (.iadd, 1) := by decide +kernel
theorem dL_law_167 : decode cL_law 167 = .ok (.iaload, 1) := by decide +kernel
theorem dL_law_168 : decode cL_law 168 = .ok (.aload_n 0, 1) := by decide +kernel
theorem dL_law_169 : decode cL_law 169 = .ok (.iload_n 3, 1) := by decide +kernel
theorem dL_law_170 : decode cL_law 170 = .ok (.iconst 2, 1) := by decide +kernel
theorem dL_law_171 : decode cL_law 171 = .ok (.iadd, 1) := by decide +kernel
theorem dL_law_172 : decode cL_law 172 = .ok (.iaload, 1) := by decide +kernel
theorem dL_law_173 : decode cL_law 173 = .ok (.invokevirtual 17, 3) := by decide +kernel
theorem dL_law_176 : decode cL_law 176 = .ok (.if_icmp .eq 787, 3) := by decide +kernel
theorem dL_law_179 : decode cL_law 179 = .ok (.iconst 0, 1) := by decide +kernel
theorem dL_law_180 : decode cL_law 180 = .ok (.ireturn, 1) := by decide +kernel
theorem dL_law_181 : decode cL_law 181 = .ok (.aload_n 1, 1) := by decide +kernel
theorem dL_law_182 : decode cL_law 182 = .ok (.aload_n 0, 1) := by decide +kernel
theorem dL_law_183 : decode cL_law 183 = .ok (.iload_n 3, 1) := by decide +kernel
theorem dL_law_184 : decode cL_law 184 = .ok (.iconst 1, 1) := by decide +kernel
theorem dL_law_185 : decode cL_law 185 = .ok (.iadd, 1) := by decide +kernel
theorem dL_law_186 : decode cL_law 186 = .ok (.iaload, 1) := by decide +kernel
theorem dL_law_187 : decode cL_law 187 = .ok (.invokevirtual 18, 3) := by decide +kernel
theorem dL_law_190 : decode cL_law 190 = .ok (.aload_n 2, 1) := by decide +kernel
theorem dL_law_191 : decode cL_law 191 = .ok (.aload_n 0, 1) := by decide +kernel
theorem dL_law_192 : decode cL_law 192 = .ok (.iload_n 3, 1) := by decide +kernel
theorem dL_law_193 : decode cL_law 193 = .ok (.iconst 1, 1) := by decide +kernel
theorem dL_law_194 : decode cL_law 194 = .ok (.iadd, 1) := by decide +kernel
theorem dL_law_195 : decode cL_law 195 = .ok (.iaload, 1) := by decide +kernel
theorem dL_law_196 : decode cL_law 196 = .ok (.invokevirtual 22, 3) := by decide +kernel
theorem dL_law_199 : decode cL_law 199 = .ok (.if_icmp .eq 764, 3) := by decide +kernel
theorem dL_law_202 : decode cL_law 202 = .ok (.iconst 0, 1) := by decide +kernel
theorem dL_law_203 : decode cL_law 203 = .ok (.ireturn, 1) := by decide +kernel
theorem dL_law_204 : decode cL_law 204 = .ok (.aload_n 1, 1) := by decide +kernel
theorem dL_law_205 : decode cL_law 205 = .ok (.aload_n 0, 1) := by decide +kernel
theorem dL_law_206 : decode cL_law 206 = .ok (.iload_n 3, 1) := by decide +kernel
theorem dL_law_207 : decode cL_law 207 = .ok (.iconst 1, 1) := by decide +kernel
theorem dL_law_208 : decode cL_law 208 = .ok (.iadd, 1) := by decide +kernel
theorem dL_law_209 : decode cL_law 209 = .ok (.iaload, 1) := by decide +kernel
theorem dL_law_210 : decode cL_law 210 = .ok (.aload_n 0, 1) := by decide +kernel
theorem dL_law_211 : decode cL_law 211 = .ok (.iload_n 3, 1) := by decide +kernel
theorem dL_law_212 : decode cL_law 212 = .ok (.iconst 2, 1) := by decide +kernel
theorem dL_law_213 : decode cL_law 213 = .ok (.iadd, 1) := by decide +kernel
theorem dL_law_214 : decode cL_law 214 = .ok (.iaload, 1) := by decide +kernel
theorem dL_law_215 : decode cL_law 215 = .ok (.aload_n 0, 1) := by decide +kernel
theorem dL_law_216 : decode cL_law 216 = .ok (.iload_n 3, 1) := by decide +kernel
theorem dL_law_217 : decode cL_law 217 = .ok (.iconst 3, 1) := by decide +kernel
theorem dL_law_218 : decode cL_law 218 = .ok (.iadd, 1) := by decide +kernel
theorem dL_law_219 : decode cL_law 219 = .ok (.iaload, 1) := by decide +kernel
theorem dL_law_220 : decode cL_law 220 = .ok (.invokevirtual 23, 3) := by decide +kernel
theorem dL_law_223 : decode cL_law 223 = .ok (.aload_n 2, 1) := by decide +kernel
theorem dL_law_224 : decode cL_law 224 = .ok (.aload_n 0, 1) := by decide +kernel
theorem dL_law_225 : decode cL_law 225 = .ok (.iload_n 3, 1) := by decide +kernel
theorem dL_law_226 : decode cL_law 226 = .ok (.iconst 1, 1) := by decide +kernel
theorem dL_law_227 : decode cL_law 227 = .ok (.iadd, 1) := by decide +kernel
theorem dL_law_228 : decode cL_law 228 = .ok (.iaload, 1) := by decide +kernel
theorem dL_law_229 : decode cL_law 229 = .ok (.aload_n 0, 1) := by decide +kernel
theorem dL_law_230 : decode cL_law 230 = .ok (.iload_n 3, 1) := by decide +kernel
theorem dL_law_231 : decode cL_law 231 = .ok (.iconst 2, 1) := by decide +kernel
theorem dL_law_232 : decode cL_law 232 = .ok (.iadd, 1) := by decide +kernel
theorem dL_law_233 : decode cL_law 233 = .ok (.iaload, 1) := by decide +kernel
theorem dL_law_234 : decode cL_law 234 = .ok (.aload_n 0, 1) := by decide +kernel
theorem dL_law_235 : decode cL_law 235 = .ok (.iload_n 3, 1) := by decide +kernel
theorem dL_law_236 : decode cL_law 236 = .ok (.iconst 3, 1) := by decide +kernel
theorem dL_law_237 : decode cL_law 237 = .ok (.iadd, 1) := by decide +kernel
theorem dL_law_238 : decode cL_law 238 = .ok (.iaload, 1) := by decide +kernel
theorem dL_law_239 : decode cL_law 239 = .ok (.invokevirtual 27, 3) := by decide +kernel
theorem dL_law_242 : decode cL_law 242 = .ok (.if_icmp .eq 721, 3) := by decide +kernel
theorem dL_law_245 : decode cL_law 245 = .ok (.iconst 0, 1) := by decide +kernel
theorem dL_law_246 : decode cL_law 246 = .ok (.ireturn, 1) := by decide +kernel
theorem dL_law_247 : decode cL_law 247 = .ok (.aload_n 1, 1) := by decide +kernel
theorem dL_law_248 : decode cL_law 248 = .ok (.aload_n 0, 1) := by decide +kernel
theorem dL_law_249 : decode cL_law 249 = .ok (.iload_n 3, 1) := by decide +kernel
theorem dL_law_250 : decode cL_law 250 = .ok (.iconst 1, 1) := by decide +kernel
theorem dL_law_251 : decode cL_law 251 = .ok (.iadd, 1) := by decide +kernel
theorem dL_law_252 : decode cL_law 252 = .ok (.iaload, 1) := by decide +kernel
theorem dL_law_253 : decode cL_law 253 = .ok (.aload_n 0, 1) := by decide +kernel
theorem dL_law_254 : decode cL_law 254 = .ok (.iload_n 3, 1) := by decide +kernel
theorem dL_law_255 : decode cL_law 255 = .ok (.iconst 2, 1) := by decide +kernel
theorem dL_law_256 : decode cL_law 256 = .ok (.iadd, 1) := by decide +kernel
theorem dL_law_257 : decode cL_law 257 = .ok (.iaload, 1) := by decide +kernel
theorem dL_law_258 : decode cL_law 258 = .ok (.aload_n 0, 1) := by decide +kernel
theorem dL_law_259 : decode cL_law 259 = .ok (.iload_n 3, 1) := by decide +kernel
theorem dL_law_260 : decode cL_law 260 = .ok (.iconst 3, 1) := by decide +kernel
theorem dL_law_261 : decode cL_law 261 = .ok (.iadd, 1) := by decide +kernel
theorem dL_law_262 : decode cL_law 262 = .ok (.iaload, 1) := by decide +kernel
theorem dL_law_263 : decode cL_law 263 = .ok (.invokevirtual 28, 3) := by decide +kernel
theorem dL_law_266 : decode cL_law 266 = .ok (.aload_n 2, 1) := by decide +kernel
theorem dL_law_267 : decode cL_law 267 = .ok (.aload_n 0, 1) := by decide +kernel
theorem dL_law_268 : decode cL_law 268 = .ok (.iload_n 3, 1) := by decide +kernel
theorem dL_law_269 : decode cL_law 269 = .ok (.iconst 1, 1) := by decide +kernel
theorem dL_law_270 : decode cL_law 270 = .ok (.iadd, 1) := by decide +kernel
theorem dL_law_271 : decode cL_law 271 = .ok (.iaload, 1) := by decide +kernel
theorem dL_law_272 : decode cL_law 272 = .ok (.aload_n 0, 1) := by decide +kernel
theorem dL_law_273 : decode cL_law 273 = .ok (.iload_n 3, 1) := by decide +kernel
theorem dL_law_274 : decode cL_law 274 = .ok (.iconst 2, 1) := by decide +kernel
theorem dL_law_275 : decode cL_law 275 = .ok (.iadd, 1) := by decide +kernel
theorem dL_law_276 : decode cL_law 276 = .ok (.iaload, 1) := by decide +kernel
theorem dL_law_277 : decode cL_law 277 = .ok (.aload_n 0, 1) := by decide +kernel
theorem dL_law_278 : decode cL_law 278 = .ok (.iload_n 3, 1) := by decide +kernel
theorem dL_law_279 : decode cL_law 279 = .ok (.iconst 3, 1) := by decide +kernel
theorem dL_law_280 : decode cL_law 280 = .ok (.iadd, 1) := by decide +kernel
theorem dL_law_281 : decode cL_law 281 = .ok (.iaload, 1) := by decide +kernel
theorem dL_law_282 : decode cL_law 282 = .ok (.invokevirtual 31, 3) := by decide +kernel
theorem dL_law_285 : decode cL_law 285 = .ok (.if_icmp .eq 678, 3) := by decide +kernel
theorem dL_law_288 : decode cL_law 288 = .ok (.iconst 0, 1) := by decide +kernel
theorem dL_law_289 : decode cL_law 289 = .ok (.ireturn, 1) := by decide +kernel
theorem dL_law_290 : decode cL_law 290 = .ok (.aload_n 1, 1) := by decide +kernel
theorem dL_law_291 : decode cL_law 291 = .ok (.aload_n 0, 1) := by decide +kernel
theorem dL_law_292 : decode cL_law 292 = .ok (.iload_n 3, 1) := by decide +kernel
theorem dL_law_293 : decode cL_law 293 = .ok (.iconst 1, 1) := by decide +kernel
theorem dL_law_294 : decode cL_law 294 = .ok (.iadd, 1) := by decide +kernel
theorem dL_law_295 : decode cL_law 295 = .ok (.iaload, 1) := by decide +kernel
theorem dL_law_296 : decode cL_law 296 = .ok (.aload_n 0, 1) := by decide +kernel
theorem dL_law_297 : decode cL_law 297 = .ok (.iload_n 3, 1) := by decide +kernel
theorem dL_law_298 : decode cL_law 298 = .ok (.iconst 2, 1) := by decide +kernel
theorem dL_law_299 : decode cL_law 299 = .ok (.iadd, 1) := by decide +kernel
theorem dL_law_300 : decode cL_law 300 = .ok (.iaload, 1) := by decide +kernel
theorem dL_law_301 : decode cL_law 301 = .ok (.aload_n 0, 1) := by decide +kernel
theorem dL_law_302 : decode cL_law 302 = .ok (.iload_n 3, 1) := by decide +kernel
theorem dL_law_303 : decode cL_law 303 = .ok (.iconst 3, 1) := by decide +kernel
theorem dL_law_304 : decode cL_law 304 = .ok (.iadd, 1) := by decide +kernel
theorem dL_law_305 : decode cL_law 305 = .ok (.iaload, 1) := by decide +kernel
theorem dL_law_306 : decode cL_law 306 = .ok (.invokevirtual 32, 3) := by decide +kernel
theorem dL_law_309 : decode cL_law 309 = .ok (.aload_n 2, 1) := by decide +kernel
theorem dL_law_310 : decode cL_law 310 = .ok (.aload_n 0, 1) := by decide +kernel
theorem dL_law_311 : decode cL_law 311 = .ok (.iload_n 3, 1) := by decide +kernel
theorem dL_law_312 : decode cL_law 312 = .ok (.iconst 1, 1) := by decide +kernel
theorem dL_law_313 : decode cL_law 313 = .ok (.iadd, 1) := by decide +kernel
theorem dL_law_314 : decode cL_law 314 = .ok (.iaload, 1) := by decide +kernel
theorem dL_law_315 : decode cL_law 315 = .ok (.aload_n 0, 1) := by decide +kernel
theorem dL_law_316 : decode cL_law 316 = .ok (.iload_n 3, 1) := by decide +kernel
theorem dL_law_317 : decode cL_law 317 = .ok (.iconst 2, 1) := by decide +kernel
theorem dL_law_318 : decode cL_law 318 = .ok (.iadd, 1) := by decide +kernel
theorem dL_law_319 : decode cL_law 319 = .ok (.iaload, 1) := by decide +kernel
theorem dL_law_320 : decode cL_law 320 = .ok (.aload_n 0, 1) := by decide +kernel
theorem dL_law_321 : decode cL_law 321 = .ok (.iload_n 3, 1) := by decide +kernel
theorem dL_law_322 : decode cL_law 322 = .ok (.iconst 3, 1) := by decide +kernel
theorem dL_law_323 : decode cL_law 323 = .ok (.iadd, 1) := by decide +kernel
theorem dL_law_324 : decode cL_law 324 = .ok (.iaload, 1) := by decide +kernel
theorem dL_law_325 : decode cL_law 325 = .ok (.invokevirtual 35, 3) := by decide +kernel
theorem dL_law_328 : decode cL_law 328 = .ok (.if_icmp .eq 635, 3) := by decide +kernel
theorem dL_law_331 : decode cL_law 331 = .ok (.iconst 0, 1) := by decide +kernel
theorem dL_law_332 : decode cL_law 332 = .ok (.ireturn, 1) := by decide +kernel
theorem dL_law_333 : decode cL_law 333 = .ok (.aload_n 1, 1) := by decide +kernel
theorem dL_law_334 : decode cL_law 334 = .ok (.aload_n 0, 1) := by decide +kernel
theorem dL_law_335 : decode cL_law 335 = .ok (.iload_n 3, 1) := by decide +kernel
theorem dL_law_336 : decode cL_law 336 = .ok (.iconst 1, 1) := by decide +kernel
theorem dL_law_337 : decode cL_law 337 = .ok (.iadd, 1) := by decide +kernel
theorem dL_law_338 : decode cL_law 338 = .ok (.iaload, 1) := by decide +kernel
theorem dL_law_339 : decode cL_law 339 = .ok (.aload_n 0, 1) := by decide +kernel
theorem dL_law_340 : decode cL_law 340 = .ok (.iload_n 3, 1) := by decide +kernel
theorem dL_law_341 : decode cL_law 341 = .ok (.iconst 2, 1) := by decide +kernel
theorem dL_law_342 : decode cL_law 342 = .ok (.iadd, 1) := by decide +kernel
theorem dL_law_343 : decode cL_law 343 = .ok (.iaload, 1) := by decide +kernel
theorem dL_law_344 : decode cL_law 344 = .ok (.invokevirtual 36, 3) := by decide +kernel
theorem dL_law_347 : decode cL_law 347 = .ok (.aload_n 2, 1) := by decide +kernel
theorem dL_law_348 : decode cL_law 348 = .ok (.aload_n 0, 1) := by decide +kernel
theorem dL_law_349 : decode cL_law 349 = .ok (.iload_n 3, 1) := by decide +kernel
theorem dL_law_350 : decode cL_law 350 = .ok (.iconst 1, 1) := by decide +kernel
theorem dL_law_351 : decode cL_law 351 = .ok (.iadd, 1) := by decide +kernel
theorem dL_law_352 : decode cL_law 352 = .ok (.iaload, 1) := by decide +kernel
theorem dL_law_353 : decode cL_law 353 = .ok (.aload_n 0, 1) := by decide +kernel
theorem dL_law_354 : decode cL_law 354 = .ok (.iload_n 3, 1) := by decide +kernel
theorem dL_law_355 : decode cL_law 355 = .ok (.iconst 2, 1) := by decide +kernel
theorem dL_law_356 : decode cL_law 356 = .ok (.iadd, 1) := by decide +kernel
theorem dL_law_357 : decode cL_law 357 = .ok (.iaload, 1) := by decide +kernel
theorem dL_law_358 : decode cL_law 358 = .ok (.invokevirtual 39, 3) := by decide +kernel
theorem dL_law_361 : decode cL_law 361 = .ok (.if_icmp .eq 602, 3) := by decide +kernel
theorem dL_law_364 : decode cL_law 364 = .ok (.iconst 0, 1) := by decide +kernel
theorem dL_law_365 : decode cL_law 365 = .ok (.ireturn, 1) := by decide +kernel
theorem dL_law_366 : decode cL_law 366 = .ok (.aload_n 1, 1) := by decide +kernel
theorem dL_law_367 : decode cL_law 367 = .ok (.aload_n 0, 1) := by decide +kernel
theorem dL_law_368 : decode cL_law 368 = .ok (.iload_n 3, 1) := by decide +kernel
theorem dL_law_369 : decode cL_law 369 = .ok (.iconst 1, 1) := by decide +kernel
theorem dL_law_370 : decode cL_law 370 = .ok (.iadd, 1) := by decide +kernel
theorem dL_law_371 : decode cL_law 371 = .ok (.iaload, 1) := by decide +kernel
theorem dL_law_372 : decode cL_law 372 = .ok (.aload_n 0, 1) := by decide +kernel
theorem dL_law_373 : decode cL_law 373 = .ok (.iload_n 3, 1) := by decide +kernel
theorem dL_law_374 : decode cL_law 374 = .ok (.iconst 2, 1) := by decide +kernel
theorem dL_law_375 : decode cL_law 375 = .ok (.iadd, 1) := by decide +kernel
theorem dL_law_376 : decode cL_law 376 = .ok (.iaload, 1) := by decide +kernel
theorem dL_law_377 : decode cL_law 377 = .ok (.aload_n 0, 1) := by decide +kernel
theorem dL_law_378 : decode cL_law 378 = .ok (.iload_n 3, 1) := by decide +kernel
theorem dL_law_379 : decode cL_law 379 = .ok (.iconst 3, 1) := by decide +kernel
theorem dL_law_380 : decode cL_law 380 = .ok (.iadd, 1) := by decide +kernel
theorem dL_law_381 : decode cL_law 381 = .ok (.iaload, 1) := by decide +kernel
theorem dL_law_382 : decode cL_law 382 = .ok (.aload_n 0, 1) := by decide +kernel
theorem dL_law_383 : decode cL_law 383 = .ok (.iload_n 3, 1) := by decide +kernel
theorem dL_law_384 : decode cL_law 384 = .ok (.iconst 4, 1) := by decide +kernel
theorem dL_law_385 : decode cL_law 385 = .ok (.iadd, 1) := by decide +kernel
theorem dL_law_386 : decode cL_law 386 = .ok (.iaload, 1) := by decide +kernel
theorem dL_law_387 : decode cL_law 387 = .ok (.invokevirtual 40, 3) := by decide +kernel
theorem dL_law_390 : decode cL_law 390 = .ok (.aload_n 2, 1) := by decide +kernel
theorem dL_law_391 : decode cL_law 391 = .ok (.aload_n 0, 1) := by decide +kernel
theorem dL_law_392 : decode cL_law 392 = .ok (.iload_n 3, 1) := by decide +kernel
theorem dL_law_393 : decode cL_law 393 = .ok (.iconst 1, 1) := by decide +kernel
theorem dL_law_394 : decode cL_law 394 = .ok (.iadd, 1) := by decide +kernel
theorem dL_law_395 : decode cL_law 395 = .ok (.iaload, 1) := by decide +kernel
theorem dL_law_396 : decode cL_law 396 = .ok (.aload_n 0, 1) := by decide +kernel
theorem dL_law_397 : decode cL_law 397 = .ok (.iload_n 3, 1) := by decide +kernel
theorem dL_law_398 : decode cL_law 398 = .ok (.iconst 2, 1) := by decide +kernel
theorem dL_law_399 : decode cL_law 399 = .ok (.iadd, 1) := by decide +kernel
theorem dL_law_400 : decode cL_law 400 = .ok (.iaload, 1) := by decide +kernel
theorem dL_law_401 : decode cL_law 401 = .ok (.aload_n 0, 1) := by decide +kernel
theorem dL_law_402 : decode cL_law 402 = .ok (.iload_n 3, 1) := by decide +kernel
theorem dL_law_403 : decode cL_law 403 = .ok (.iconst 3, 1) := by decide +kernel
theorem dL_law_404 : decode cL_law 404 = .ok (.iadd, 1) := by decide +kernel
theorem dL_law_405 : decode cL_law 405 = .ok (.iaload, 1) := by decide +kernel
theorem dL_law_406 : decode cL_law 406 = .ok (.aload_n 0, 1) := by decide +kernel
theorem dL_law_407 : decode cL_law 407 = .ok (.iload_n 3, 1) := by decide +kernel
theorem dL_law_408 : decode cL_law 408 = .ok (.iconst 4, 1) := by decide +kernel
theorem dL_law_409 : decode cL_law 409 = .ok (.iadd, 1) := by decide +kernel
theorem dL_law_410 : decode cL_law 410 = .ok (.iaload, 1) := by decide +kernel
theorem dL_law_411 : decode cL_law 411 = .ok (.invokevirtual 44, 3) := by decide +kernel
theorem dL_law_414 : decode cL_law 414 = .ok (.if_icmp .eq 549, 3) := by decide +kernel
theorem dL_law_417 : decode cL_law 417 = .ok (.iconst 0, 1) := by decide +kernel
theorem dL_law_418 : decode cL_law 418 = .ok (.ireturn, 1) := by decide +kernel
theorem dL_law_419 : decode cL_law 419 = .ok (.aload_n 1, 1) := by decide +kernel
theorem dL_law_420 : decode cL_law 420 = .ok (.aload_n 0, 1) := by decide +kernel
theorem dL_law_421 : decode cL_law 421 = .ok (.iload_n 3, 1) := by decide +kernel
theorem dL_law_422 : decode cL_law 422 = .ok (.iconst 1, 1) := by decide +kernel
theorem dL_law_423 : decode cL_law 423 = .ok (.iadd, 1) := by decide +kernel
theorem dL_law_424 : decode cL_law 424 = .ok (.iaload, 1) := by decide +kernel
theorem dL_law_425 : decode cL_law 425 = .ok (.aload_n 0, 1) := by decide +kernel
theorem dL_law_426 : decode cL_law 426 = .ok (.iload_n 3, 1) := by decide +kernel
theorem dL_law_427 : decode cL_law 427 = .ok (.iconst 2, 1) := by decide +kernel
theorem dL_law_428 : decode cL_law 428 = .ok (.iadd, 1) := by decide +kernel
theorem dL_law_429 : decode cL_law 429 = .ok (.iaload, 1) := by decide +kernel
theorem dL_law_430 : decode cL_law 430 = .ok (.aload_n 0, 1) := by decide +kernel
theorem dL_law_431 : decode cL_law 431 = .ok (.iload_n 3, 1) := by decide +kernel
theorem dL_law_432 : decode cL_law 432 = .ok (.iconst 3, 1) := by decide +kernel
theorem dL_law_433 : decode cL_law 433 = .ok (.iadd, 1) := by decide +kernel
theorem dL_law_434 : decode cL_law 434 = .ok (.iaload, 1) := by decide +kernel
theorem dL_law_435 : decode cL_law 435 = .ok (.invokevirtual 45, 3) := by decide +kernel
theorem dL_law_438 : decode cL_law 438 = .ok (.aload_n 2, 1) := by decide +kernel
theorem dL_law_439 : decode cL_law 439 = .ok (.aload_n 0, 1) := by decide +kernel
theorem dL_law_440 : decode cL_law 440 = .ok (.iload_n 3, 1) := by decide +kernel
theorem dL_law_441 : decode cL_law 441 = .ok (.iconst 1, 1) := by decide +kernel
theorem dL_law_442 : decode cL_law 442 = .ok (.iadd, 1) := by decide +kernel
theorem dL_law_443 : decode cL_law 443 = .ok (.iaload, 1) := by decide +kernel
theorem dL_law_444 : decode cL_law 444 = .ok (.aload_n 0, 1) := by decide +kernel
theorem dL_law_445 : decode cL_law 445 = .ok (.iload_n 3, 1) := by decide +kernel
theorem dL_law_446 : decode cL_law 446 = .ok (.iconst 2, 1) := by decide +kernel
theorem dL_law_447 : decode cL_law 447 = .ok (.iadd, 1) := by decide +kernel
theorem dL_law_448 : decode cL_law 448 = .ok (.iaload, 1) := by decide +kernel
theorem dL_law_449 : decode cL_law 449 = .ok (.aload_n 0, 1) := by decide +kernel
theorem dL_law_450 : decode cL_law 450 = .ok (.iload_n 3, 1) := by decide +kernel
theorem dL_law_451 : decode cL_law 451 = .ok (.iconst 3, 1) := by decide +kernel
theorem dL_law_452 : decode cL_law 452 = .ok (.iadd, 1) := by decide +kernel
theorem dL_law_453 : decode cL_law 453 = .ok (.iaload, 1) := by decide +kernel
theorem dL_law_454 : decode cL_law 454 = .ok (.invokevirtual 48, 3) := by decide +kernel
theorem dL_law_457 : decode cL_law 457 = .ok (.if_icmp .eq 506, 3) := by decide +kernel
theorem dL_law_460 : decode cL_law 460 = .ok (.iconst 0, 1) := by decide +kernel
theorem dL_law_461 : decode cL_law 461 = .ok (.ireturn, 1) := by decide +kernel
theorem dL_law_462 : decode cL_law 462 = .ok (.aload_n 1, 1) := by decide +kernel
theorem dL_law_463 : decode cL_law 463 = .ok (.aload_n 0, 1) := by decide +kernel
theorem dL_law_464 : decode cL_law 464 = .ok (.iload_n 3, 1) := by decide +kernel
theorem dL_law_465 : decode cL_law 465 = .ok (.iconst 1, 1) := by decide +kernel
theorem dL_law_466 : decode cL_law 466 = .ok (.iadd, 1) := by decide +kernel
theorem dL_law_467 : decode cL_law 467 = .ok (.iaload, 1) := by decide +kernel
theorem dL_law_468 : decode cL_law 468 = .ok (.aload_n 0, 1) := by decide +kernel
theorem dL_law_469 : decode cL_law 469 = .ok (.iload_n 3, 1) := by decide +kernel
theorem dL_law_470 : decode cL_law 470 = .ok (.iconst 2, 1) := by decide +kernel
theorem dL_law_471 : decode cL_law 471 = .ok (.iadd, 1) := by decide +kernel
theorem dL_law_472 : decode cL_law 472 = .ok (.iaload, 1) := by decide +kernel
theorem dL_law_473 : decode cL_law 473 = .ok (.aload_n 0, 1) := by decide +kernel
theorem dL_law_474 : decode cL_law 474 = .ok (.iload_n 3, 1) := by decide +kernel
theorem dL_law_475 : decode cL_law 475 = .ok (.iconst 3, 1) := by decide +kernel
theorem dL_law_476 : decode cL_law 476 = .ok (.iadd, 1) := by decide +kernel
theorem dL_law_477 : decode cL_law 477 = .ok (.iaload, 1) := by decide +kernel
theorem dL_law_478 : decode cL_law 478 = .ok (.aload_n 0, 1) := by decide +kernel
theorem dL_law_479 : decode cL_law 479 = .ok (.iload_n 3, 1) := by decide +kernel
theorem dL_law_480 : decode cL_law 480 = .ok (.iconst 4, 1) := by decide +kernel
theorem dL_law_481 : decode cL_law 481 = .ok (.iadd, 1) := by decide +kernel
theorem dL_law_482 : decode cL_law 482 = .ok (.iaload, 1) := by decide +kernel
theorem dL_law_483 : decode cL_law 483 = .ok (.invokevirtual 49, 3) := by decide +kernel
theorem dL_law_486 : decode cL_law 486 = .ok (.aload_n 2, 1) := by decide +kernel
theorem dL_law_487 : decode cL_law 487 = .ok (.aload_n 0, 1) := by decide +kernel
theorem dL_law_488 : decode cL_law 488 = .ok (.iload_n 3, 1) := by decide +kernel
theorem dL_law_489 : decode cL_law 489 = .ok (.iconst 1, 1) := by decide +kernel
theorem dL_law_490 : decode cL_law 490 = .ok (.iadd, 1) := by decide +kernel
theorem dL_law_491 : decode cL_law 491 = .ok (.iaload, 1) := by decide +kernel
theorem dL_law_492 : decode cL_law 492 = .ok (.aload_n 0, 1) := by decide +kernel
theorem dL_law_493 : decode cL_law 493 = .ok (.iload_n 3, 1) := by decide +kernel
theorem dL_law_494 : decode cL_law 494 = .ok (.iconst 2, 1) := by decide +kernel
theorem dL_law_495 : decode cL_law 495 = .ok (.iadd, 1) := by decide +kernel
theorem dL_law_496 : decode cL_law 496 = .ok (.iaload, 1) := by decide +kernel
theorem dL_law_497 : decode cL_law 497 = .ok (.aload_n 0, 1) := by decide +kernel
theorem dL_law_498 : decode cL_law 498 = .ok (.iload_n 3, 1) := by decide +kernel
theorem dL_law_499 : decode cL_law 499 = .ok (.iconst 3, 1) := by decide +kernel
theorem dL_law_500 : decode cL_law 500 = .ok (.iadd, 1) := by decide +kernel
theorem dL_law_501 : decode cL_law 501 = .ok (.iaload, 1) := by decide +kernel
theorem dL_law_502 : decode cL_law 502 = .ok (.aload_n 0, 1) := by decide +kernel
theorem dL_law_503 : decode cL_law 503 = .ok (.iload_n 3, 1) := by decide +kernel
theorem dL_law_504 : decode cL_law 504 = .ok (.iconst 4, 1) := by decide +kernel
theorem dL_law_505 : decode cL_law 505 = .ok (.iadd, 1) := by decide +kernel
theorem dL_law_506 : decode cL_law 506 = .ok (.iaload, 1) := by decide +kernel
theorem dL_law_507 : decode cL_law 507 = .ok (.invokevirtual 52, 3) := by decide +kernel
theorem dL_law_510 : decode cL_law 510 = .ok (.if_icmp .eq 453, 3) := by decide +kernel
theorem dL_law_513 : decode cL_law 513 = .ok (.iconst 0, 1) := by decide +kernel
theorem dL_law_514 : decode cL_law 514 = .ok (.ireturn, 1) := by decide +kernel
theorem dL_law_515 : decode cL_law 515 = .ok (.aload_n 1, 1) := by decide +kernel
theorem dL_law_516 : decode cL_law 516 = .ok (.aload_n 0, 1) := by decide +kernel
theorem dL_law_517 : decode cL_law 517 = .ok (.iload_n 3, 1) := by decide +kernel
theorem dL_law_518 : decode cL_law 518 = .ok (.iconst 1, 1) := by decide +kernel
theorem dL_law_519 : decode cL_law 519 = .ok (.iadd, 1) := by decide +kernel
theorem dL_law_520 : decode cL_law 520 = .ok (.iaload, 1) := by decide +kernel
theorem dL_law_521 : decode cL_law 521 = .ok (.aload_n 0, 1) := by decide +kernel
theorem dL_law_522 : decode cL_law 522 = .ok (.iload_n 3, 1) := by decide +kernel
theorem dL_law_523 : decode cL_law 523 = .ok (.iconst 2, 1) := by decide +kernel
theorem dL_law_524 : decode cL_law 524 = .ok (.iadd, 1) := by decide +kernel
theorem dL_law_525 : decode cL_law 525 = .ok (.iaload, 1) := by decide +kernel
theorem dL_law_526 : decode cL_law 526 = .ok (.invokevirtual 53, 3) := by decide +kernel
theorem dL_law_529 : decode cL_law 529 = .ok (.aload_n 2, 1) := by decide +kernel
theorem dL_law_530 : decode cL_law 530 = .ok (.aload_n 0, 1) := by decide +kernel
theorem dL_law_531 : decode cL_law 531 = .ok (.iload_n 3, 1) := by decide +kernel
theorem dL_law_532 : decode cL_law 532 = .ok (.iconst 1, 1) := by decide +kernel
theorem dL_law_533 : decode cL_law 533 = .ok (.iadd, 1) := by decide +kernel
theorem dL_law_534 : decode cL_law 534 = .ok (.iaload, 1) := by decide +kernel
theorem dL_law_535 : decode cL_law 535 = .ok (.aload_n 0, 1) := by decide +kernel
theorem dL_law_536 : decode cL_law 536 = .ok (.iload_n 3, 1) := by decide +kernel
theorem dL_law_537 : decode cL_law 537 = .ok (.iconst 2, 1) := by decide +kernel
theorem dL_law_538 : decode cL_law 538 = .ok (.iadd, 1) := by decide +kernel
theorem dL_law_539 : decode cL_law 539 = .ok (.iaload, 1) := by decide +kernel
theorem dL_law_540 : decode cL_law 540 = .ok (.invokevirtual 56, 3) := by decide +kernel
theorem dL_law_543 : decode cL_law 543 = .ok (.if_icmp .eq 420, 3) := by decide +kernel
theorem dL_law_546 : decode cL_law 546 = .ok (.iconst 0, 1) := by decide +kernel
theorem dL_law_547 : decode cL_law 547 = .ok (.ireturn, 1) := by decide +kernel
theorem dL_law_548 : decode cL_law 548 = .ok (.aload_n 1, 1) := by decide +kernel
theorem dL_law_549 : decode cL_law 549 = .ok (.aload_n 0, 1) := by decide +kernel
theorem dL_law_550 : decode cL_law 550 = .ok (.iload_n 3, 1) := by decide +kernel
theorem dL_law_551 : decode cL_law 551 = .ok (.iconst 1, 1) := by decide +kernel
theorem dL_law_552 : decode cL_law 552 = .ok (.iadd, 1) := by decide +kernel
theorem dL_law_553 : decode cL_law 553 = .ok (.iaload, 1) := by decide +kernel
theorem dL_law_554 : decode cL_law 554 = .ok (.aload_n 0, 1) := by decide +kernel
theorem dL_law_555 : decode cL_law 555 = .ok (.iload_n 3, 1) := by decide +kernel
theorem dL_law_556 : decode cL_law 556 = .ok (.iconst 2, 1) := by decide +kernel
theorem dL_law_557 : decode cL_law 557 = .ok (.iadd, 1) := by decide +kernel
theorem dL_law_558 : decode cL_law 558 = .ok (.iaload, 1) := by decide +kernel
theorem dL_law_559 : decode cL_law 559 = .ok (.invokevirtual 57, 3) := by decide +kernel
theorem dL_law_562 : decode cL_law 562 = .ok (.aload_n 2, 1) := by decide +kernel
theorem dL_law_563 : decode cL_law 563 = .ok (.aload_n 0, 1) := by decide +kernel
theorem dL_law_564 : decode cL_law 564 = .ok (.iload_n 3, 1) := by decide +kernel
theorem dL_law_565 : decode cL_law 565 = .ok (.iconst 1, 1) := by decide +kernel
theorem dL_law_566 : decode cL_law 566 = .ok (.iadd, 1) := by decide +kernel
theorem dL_law_567 : decode cL_law 567 = .ok (.iaload, 1) := by decide +kernel
theorem dL_law_568 : decode cL_law 568 = .ok (.aload_n 0, 1) := by decide +kernel
theorem dL_law_569 : decode cL_law 569 = .ok (.iload_n 3, 1) := by decide +kernel
theorem dL_law_570 : decode cL_law 570 = .ok (.iconst 2, 1) := by decide +kernel
theorem dL_law_571 : decode cL_law 571 = .ok (.iadd, 1) := by decide +kernel
theorem dL_law_572 : decode cL_law 572 = .ok (.iaload, 1) := by decide +kernel
theorem dL_law_573 : decode cL_law 573 = .ok (.invokevirtual 60, 3) := by decide +kernel
theorem dL_law_576 : decode cL_law 576 = .ok (.if_icmp .eq 387, 3) := by decide +kernel
theorem dL_law_579 : decode cL_law 579 = .ok (.iconst 0, 1) := by decide +kernel
theorem dL_law_580 : decode cL_law 580 = .ok (.ireturn, 1) := by decide +kernel
theorem dL_law_581 : decode cL_law 581 = .ok (.aload_n 1, 1) := by decide +kernel
theorem dL_law_582 : decode cL_law 582 = .ok (.aload_n 0, 1) := by decide +kernel
theorem dL_law_583 : decode cL_law 583 = .ok (.iload_n 3, 1) := by decide +kernel
theorem dL_law_584 : decode cL_law 584 = .ok (.iconst 1, 1) := by decide +kernel
theorem dL_law_585 : decode cL_law 585 = .ok (.iadd, 1) := by decide +kernel
theorem dL_law_586 : decode cL_law 586 = .ok (.iaload, 1) := by decide +kernel
theorem dL_law_587 : decode cL_law 587 = .ok (.aload_n 0, 1) := by decide +kernel
theorem dL_law_588 : decode cL_law 588 = .ok (.iload_n 3, 1) := by decide +kernel
theorem dL_law_589 : decode cL_law 589 = .ok (.iconst 2, 1) := by decide +kernel
theorem dL_law_590 : decode cL_law 590 = .ok (.iadd, 1) := by decide +kernel
theorem dL_law_591 : decode cL_law 591 = .ok (.iaload, 1) := by decide +kernel
theorem dL_law_592 : decode cL_law 592 = .ok (.invokevirtual 61, 3) := by decide +kernel
theorem dL_law_595 : decode cL_law 595 = .ok (.aload_n 2, 1) := by decide +kernel
theorem dL_law_596 : decode cL_law 596 = .ok (.aload_n 0, 1) := by decide +kernel
theorem dL_law_597 : decode cL_law 597 = .ok (.iload_n 3, 1) := by decide +kernel
theorem dL_law_598 : decode cL_law 598 = .ok (.iconst 1, 1) := by decide +kernel
theorem dL_law_599 : decode cL_law 599 = .ok (.iadd, 1) := by decide +kernel
theorem dL_law_600 : decode cL_law 600 = .ok (.iaload, 1) := by decide +kernel
theorem dL_law_601 : decode cL_law 601 = .ok (.aload_n 0, 1) := by decide +kernel
theorem dL_law_602 : decode cL_law 602 = .ok (.iload_n 3, 1) := by decide +kernel
theorem dL_law_603 : decode cL_law 603 = .ok (.iconst 2, 1) := by decide +kernel
theorem dL_law_604 : decode cL_law 604 = .ok (.iadd, 1) := by decide +kernel
theorem dL_law_605 : decode cL_law 605 = .ok (.iaload, 1) := by decide +kernel
theorem dL_law_606 : decode cL_law 606 = .ok (.invokevirtual 64, 3) := by decide +kernel
theorem dL_law_609 : decode cL_law 609 = .ok (.if_icmp .eq 354, 3) := by decide +kernel
theorem dL_law_612 : decode cL_law 612 = .ok (.iconst 0, 1) := by decide +kernel
theorem dL_law_613 : decode cL_law 613 = .ok (.ireturn, 1) := by decide +kernel
theorem dL_law_614 : decode cL_law 614 = .ok (.aload_n 1, 1) := by decide +kernel
theorem dL_law_615 : decode cL_law 615 = .ok (.aload_n 0, 1) := by decide +kernel
theorem dL_law_616 : decode cL_law 616 = .ok (.iload_n 3, 1) := by decide +kernel
theorem dL_law_617 : decode cL_law 617 = .ok (.iconst 1, 1) := by decide +kernel
theorem dL_law_618 : decode cL_law 618 = .ok (.iadd, 1) := by decide +kernel
theorem dL_law_619 : decode cL_law 619 = .ok (.iaload, 1) := by decide +kernel
theorem dL_law_620 : decode cL_law 620 = .ok (.aload_n 0, 1) := by decide +kernel
theorem dL_law_621 : decode cL_law 621 = .ok (.iload_n 3, 1) := by decide +kernel
theorem dL_law_622 : decode cL_law 622 = .ok (.iconst 2, 1) := by decide +kernel
theorem dL_law_623 : decode cL_law 623 = .ok (.iadd, 1) := by decide +kernel
theorem dL_law_624 : decode cL_law 624 = .ok (.iaload, 1) := by decide +kernel
theorem dL_law_625 : decode cL_law 625 = .ok (.aload_n 0, 1) := by decide +kernel
theorem dL_law_626 : decode cL_law 626 = .ok (.iload_n 3, 1) := by decide +kernel
theorem dL_law_627 : decode cL_law 627 = .ok (.iconst 3, 1) := by decide +kernel
theorem dL_law_628 : decode cL_law 628 = .ok (.iadd, 1) := by decide +kernel
theorem dL_law_629 : decode cL_law 629 = .ok (.iaload, 1) := by decide +kernel
theorem dL_law_630 : decode cL_law 630 = .ok (.invokevirtual 65, 3) := by decide +kernel
theorem dL_law_633 : decode cL_law 633 = .ok (.aload_n 2, 1) := by decide +kernel
theorem dL_law_634 : decode cL_law 634 = .ok (.aload_n 0, 1) := by decide +kernel
theorem dL_law_635 : decode cL_law 635 = .ok (.iload_n 3, 1) := by decide +kernel
theorem dL_law_636 : decode cL_law 636 = .ok (.iconst 1, 1) := by decide +kernel
theorem dL_law_637 : decode cL_law 637 = .ok (.iadd, 1) := by decide +kernel
theorem dL_law_638 : decode cL_law 638 = .ok (.iaload, 1) := by decide +kernel
theorem dL_law_639 : decode cL_law 639 = .ok (.aload_n 0, 1) := by decide +kernel
theorem dL_law_640 : decode cL_law 640 = .ok (.iload_n 3, 1) := by decide +kernel
theorem dL_law_641 : decode cL_law 641 = .ok (.iconst 2, 1) := by decide +kernel
theorem dL_law_642 : decode cL_law 642 = .ok (.iadd, 1) := by decide +kernel
theorem dL_law_643 : decode cL_law 643 = .ok (.iaload, 1) := by decide +kernel
theorem dL_law_644 : decode cL_law 644 = .ok (.aload_n 0, 1) := by decide +kernel
theorem dL_law_645 : decode cL_law 645 = .ok (.iload_n 3, 1) := by decide +kernel
theorem dL_law_646 : decode cL_law 646 = .ok (.iconst 3, 1) := by decide +kernel
theorem dL_law_647 : decode cL_law 647 = .ok (.iadd, 1) := by decide +kernel
theorem dL_law_648 : decode cL_law 648 = .ok (.iaload, 1) := by decide +kernel
theorem dL_law_649 : decode cL_law 649 = .ok (.invokevirtual 68, 3) := by decide +kernel
theorem dL_law_652 : decode cL_law 652 = .ok (.if_icmp .eq 311, 3) := by decide +kernel
theorem dL_law_655 : decode cL_law 655 = .ok (.iconst 0, 1) := by decide +kernel
theorem dL_law_656 : decode cL_law 656 = .ok (.ireturn, 1) := by decide +kernel
theorem dL_law_657 : decode cL_law 657 = .ok (.aload_n 1, 1) := by decide +kernel
theorem dL_law_658 : decode cL_law 658 = .ok (.aload_n 0, 1) := by decide +kernel
theorem dL_law_659 : decode cL_law 659 = .ok (.iload_n 3, 1) := by decide +kernel
theorem dL_law_660 : decode cL_law 660 = .ok (.iconst 1, 1) := by decide +kernel
theorem dL_law_661 : decode cL_law 661 = .ok (.iadd, 1) := by decide +kernel
theorem dL_law_662 : decode cL_law 662 = .ok (.iaload, 1) := by decide +kernel
theorem dL_law_663 : decode cL_law 663 = .ok (.aload_n 0, 1) := by decide +kernel
theorem dL_law_664 : decode cL_law 664 = .ok (.iload_n 3, 1) := by decide +kernel
theorem dL_law_665 : decode cL_law 665 = .ok (.iconst 2, 1) := by decide +kernel
theorem dL_law_666 : decode cL_law 666 = .ok (.iadd, 1) := by decide +kernel
theorem dL_law_667 : decode cL_law 667 = .ok (.iaload, 1) := by decide +kernel
theorem dL_law_668 : decode cL_law 668 = .ok (.invokevirtual 69, 3) := by decide +kernel
theorem dL_law_671 : decode cL_law 671 = .ok (.aload_n 2, 1) := by decide +kernel
theorem dL_law_672 : decode cL_law 672 = .ok (.aload_n 0, 1) := by decide +kernel
theorem dL_law_673 : decode cL_law 673 = .ok (.iload_n 3, 1) := by decide +kernel
theorem dL_law_674 : decode cL_law 674 = .ok (.iconst 1, 1) := by decide +kernel
theorem dL_law_675 : decode cL_law 675 = .ok (.iadd, 1) := by decide +kernel
theorem dL_law_676 : decode cL_law 676 = .ok (.iaload, 1) := by decide +kernel
theorem dL_law_677 : decode cL_law 677 = .ok (.aload_n 0, 1) := by decide +kernel
theorem dL_law_678 : decode cL_law 678 = .ok (.iload_n 3, 1) := by decide +kernel
theorem dL_law_679 : decode cL_law 679 = .ok (.iconst 2, 1) := by decide +kernel
theorem dL_law_680 : decode cL_law 680 = .ok (.iadd, 1) := by decide +kernel
theorem dL_law_681 : decode cL_law 681 = .ok (.iaload, 1) := by decide +kernel
theorem dL_law_682 : decode cL_law 682 = .ok (.invokevirtual 72, 3) := by decide +kernel
theorem dL_law_685 : decode cL_law 685 = .ok (.if_icmp .eq 278, 3) := by decide +kernel
theorem dL_law_688 : decode cL_law 688 = .ok (.iconst 0, 1) := by decide +kernel
theorem dL_law_689 : decode cL_law 689 = .ok (.ireturn, 1) := by decide +kernel
theorem dL_law_690 : decode cL_law 690 = .ok (.aload_n 1, 1) := by decide +kernel
theorem dL_law_691 : decode cL_law 691 = .ok (.aload_n 0, 1) := by decide +kernel
theorem dL_law_692 : decode cL_law 692 = .ok (.iload_n 3, 1) := by decide +kernel
theorem dL_law_693 : decode cL_law 693 = .ok (.iconst 1, 1) := by decide +kernel
theorem dL_law_694 : decode cL_law 694 = .ok (.iadd, 1) := by decide +kernel
theorem dL_law_695 : decode cL_law 695 = .ok (.iaload, 1) := by decide +kernel
theorem dL_law_696 : decode cL_law 696 = .ok (.invokevirtual 73, 3) := by decide +kernel
theorem dL_law_699 : decode cL_law 699 = .ok (.aload_n 2, 1) := by decide +kernel
theorem dL_law_700 : decode cL_law 700 = .ok (.aload_n 0, 1) := by decide +kernel
theorem dL_law_701 : decode cL_law 701 = .ok (.iload_n 3, 1) := by decide +kernel
theorem dL_law_702 : decode cL_law 702 = .ok (.iconst 1, 1) := by decide +kernel
theorem dL_law_703 : decode cL_law 703 = .ok (.iadd, 1) := by decide +kernel
theorem dL_law_704 : decode cL_law 704 = .ok (.iaload, 1) := by decide +kernel
theorem dL_law_705 : decode cL_law 705 = .ok (.invokevirtual 76, 3) := by decide +kernel
theorem dL_law_708 : decode cL_law 708 = .ok (.if_icmp .eq 255, 3) := by decide +kernel
theorem dL_law_711 : decode cL_law 711 = .ok (.iconst 0, 1) := by decide +kernel
theorem dL_law_712 : decode cL_law 712 = .ok (.ireturn, 1) := by decide +kernel
theorem dL_law_713 : decode cL_law 713 = .ok (.aload_n 1, 1) := by decide +kernel
theorem dL_law_714 : decode cL_law 714 = .ok (.aload_n 0, 1) := by decide +kernel
theorem dL_law_715 : decode cL_law 715 = .ok (.iload_n 3, 1) := by decide +kernel
theorem dL_law_716 : decode cL_law 716 = .ok (.iconst 1, 1) := by decide +kernel
theorem dL_law_717 : decode cL_law 717 = .ok (.iadd, 1) := by decide +kernel
theorem dL_law_718 : decode cL_law 718 = .ok (.iaload, 1) := by decide +kernel
theorem dL_law_719 : decode cL_law 719 = .ok (.aload_n 0, 1) := by decide +kernel
theorem dL_law_720 : decode cL_law 720 = .ok (.iload_n 3, 1) := by decide +kernel
theorem dL_law_721 : decode cL_law 721 = .ok (.iconst 2, 1) := by decide +kernel
theorem dL_law_722 : decode cL_law 722 = .ok (.iadd, 1) := by decide +kernel
theorem dL_law_723 : decode cL_law 723 = .ok (.iaload, 1) := by decide +kernel
theorem dL_law_724 : decode cL_law 724 = .ok (.invokevirtual 77, 3) := by decide +kernel
theorem dL_law_727 : decode cL_law 727 = .ok (.aload_n 2, 1) := by decide +kernel
theorem dL_law_728 : decode cL_law 728 = .ok (.aload_n 0, 1) := by decide +kernel
theorem dL_law_729 : decode cL_law 729 = .ok (.iload_n 3, 1) := by decide +kernel
theorem dL_law_730 : decode cL_law 730 = .ok (.iconst 1, 1) := by decide +kernel
theorem dL_law_731 : decode cL_law 731 = .ok (.iadd, 1) := by decide +kernel
theorem dL_law_732 : decode cL_law 732 = .ok (.iaload, 1) := by decide +kernel
theorem dL_law_733 : decode cL_law 733 = .ok (.aload_n 0, 1) := by decide +kernel
theorem dL_law_734 : decode cL_law 734 = .ok (.iload_n 3, 1) := by decide +kernel
theorem dL_law_735 : decode cL_law 735 = .ok (.iconst 2, 1) := by decide +kernel
theorem dL_law_736 : decode cL_law 736 = .ok (.iadd, 1) := by decide +kernel
theorem dL_law_737 : decode cL_law 737 = .ok (.iaload, 1) := by decide +kernel
theorem dL_law_738 : decode cL_law 738 = .ok (.invokevirtual 80, 3) := by decide +kernel
theorem dL_law_741 : decode cL_law 741 = .ok (.if_icmp .eq 222, 3) := by decide +kernel
theorem dL_law_744 : decode cL_law 744 = .ok (.iconst 0, 1) := by decide +kernel
theorem dL_law_745 : decode cL_law 745 = .ok (.ireturn, 1) := by decide +kernel
theorem dL_law_746 : decode cL_law 746 = .ok (.aload_n 1, 1) := by decide +kernel
theorem dL_law_747 : decode cL_law 747 = .ok (.aload_n 0, 1) := by decide +kernel
theorem dL_law_748 : decode cL_law 748 = .ok (.iload_n 3, 1) := by decide +kernel
theorem dL_law_749 : decode cL_law 749 = .ok (.iconst 1, 1) := by decide +kernel
theorem dL_law_750 : decode cL_law 750 = .ok (.iadd, 1) := by decide +kernel
theorem dL_law_751 : decode cL_law 751 = .ok (.iaload, 1) := by decide +kernel
theorem dL_law_752 : decode cL_law 752 = .ok (.aload_n 0, 1) := by decide +kernel
theorem dL_law_753 : decode cL_law 753 = .ok (.iload_n 3, 1) := by decide +kernel
theorem dL_law_754 : decode cL_law 754 = .ok (.iconst 2, 1) := by decide +kernel
theorem dL_law_755 : decode cL_law 755 = .ok (.iadd, 1) := by decide +kernel
theorem dL_law_756 : decode cL_law 756 = .ok (.iaload, 1) := by decide +kernel
theorem dL_law_757 : decode cL_law 757 = .ok (.invokevirtual 81, 3) := by decide +kernel
theorem dL_law_760 : decode cL_law 760 = .ok (.aload_n 2, 1) := by decide +kernel
theorem dL_law_761 : decode cL_law 761 = .ok (.aload_n 0, 1) := by decide +kernel
theorem dL_law_762 : decode cL_law 762 = .ok (.iload_n 3, 1) := by decide +kernel
theorem dL_law_763 : decode cL_law 763 = .ok (.iconst 1, 1) := by decide +kernel
theorem dL_law_764 : decode cL_law 764 = .ok (.iadd, 1) := by decide +kernel
theorem dL_law_765 : decode cL_law 765 = .ok (.iaload, 1) := by decide +kernel
theorem dL_law_766 : decode cL_law 766 = .ok (.aload_n 0, 1) := by decide +kernel
theorem dL_law_767 : decode cL_law 767 = .ok (.iload_n 3, 1) := by decide +kernel
theorem dL_law_768 : decode cL_law 768 = .ok (.iconst 2, 1) := by decide +kernel
theorem dL_law_769 : decode cL_law 769 = .ok (.iadd, 1) := by decide +kernel
theorem dL_law_770 : decode cL_law 770 = .ok (.iaload, 1) := by decide +kernel
theorem dL_law_771 : decode cL_law 771 = .ok (.invokevirtual 84, 3) := by decide +kernel
theorem dL_law_774 : decode cL_law 774 = .ok (.if_icmp .eq 189, 3) := by decide +kernel
theorem dL_law_777 : decode cL_law 777 = .ok (.iconst 0, 1) := by decide +kernel
theorem dL_law_778 : decode cL_law 778 = .ok (.ireturn, 1) := by decide +kernel
theorem dL_law_779 : decode cL_law 779 = .ok (.aload_n 1, 1) := by decide +kernel
theorem dL_law_780 : decode cL_law 780 = .ok (.aload_n 0, 1) := by decide +kernel
theorem dL_law_781 : decode cL_law 781 = .ok (.iload_n 3, 1) := by decide +kernel
theorem dL_law_782 : decode cL_law 782 = .ok (.iconst 1, 1) := by decide +kernel
theorem dL_law_783 : decode cL_law 783 = .ok (.iadd, 1) := by decide +kernel
theorem dL_law_784 : decode cL_law 784 = .ok (.iaload, 1) := by decide +kernel
theorem dL_law_785 : decode cL_law 785 = .ok (.aload_n 0, 1) := by decide +kernel
theorem dL_law_786 : decode cL_law 786 = .ok (.iload_n 3, 1) := by decide +kernel
theorem dL_law_787 : decode cL_law 787 = .ok (.iconst 2, 1) := by decide +kernel
theorem dL_law_788 : decode cL_law 788 = .ok (.iadd, 1) := by decide +kernel
theorem dL_law_789 : decode cL_law 789 = .ok (.iaload, 1) := by decide +kernel
theorem dL_law_790 : decode cL_law 790 = .ok (.invokevirtual 85, 3) := by decide +kernel
theorem dL_law_793 : decode cL_law 793 = .ok (.aload_n 2, 1) := by decide +kernel
theorem dL_law_794 : decode cL_law 794 = .ok (.aload_n 0, 1) := by decide +kernel
theorem dL_law_795 : decode cL_law 795 = .ok (.iload_n 3, 1) := by decide +kernel
theorem dL_law_796 : decode cL_law 796 = .ok (.iconst 1, 1) := by decide +kernel
theorem dL_law_797 : decode cL_law 797 = .ok (.iadd, 1) := by decide +kernel
theorem dL_law_798 : decode cL_law 798 = .ok (.iaload, 1) := by decide +kernel
theorem dL_law_799 : decode cL_law 799 = .ok (.aload_n 0, 1) := by decide +kernel
theorem dL_law_800 : decode cL_law 800 = .ok (.iload_n 3, 1) := by decide +kernel
theorem dL_law_801 : decode cL_law 801 = .ok (.iconst 2, 1) := by decide +kernel
theorem dL_law_802 : decode cL_law 802 = .ok (.iadd, 1) := by decide +kernel
theorem dL_law_803 : decode cL_law 803 = .ok (.iaload, 1) := by decide +kernel
theorem dL_law_804 : decode cL_law 804 = .ok (.invokevirtual 88, 3) := by decide +kernel
theorem dL_law_807 : decode cL_law 807 = .ok (.if_icmp .eq 156, 3) := by decide +kernel
theorem dL_law_810 : decode cL_law 810 = .ok (.iconst 0, 1) := by decide +kernel
theorem dL_law_811 : decode cL_law 811 = .ok (.ireturn, 1) := by decide +kernel
theorem dL_law_812 : decode cL_law 812 = .ok (.aload_n 1, 1) := by decide +kernel
theorem dL_law_813 : decode cL_law 813 = .ok (.aload_n 0, 1) := by decide +kernel
theorem dL_law_814 : decode cL_law 814 = .ok (.iload_n 3, 1) := by decide +kernel
theorem dL_law_815 : decode cL_law 815 = .ok (.iconst 1, 1) := by decide +kernel
theorem dL_law_816 : decode cL_law 816 = .ok (.iadd, 1) := by decide +kernel
theorem dL_law_817 : decode cL_law 817 = .ok (.iaload, 1) := by decide +kernel
theorem dL_law_818 : decode cL_law 818 = .ok (.i2l, 1) := by decide +kernel
theorem dL_law_819 : decode cL_law 819 = .ok (.bipush 32, 2) := by decide +kernel
theorem dL_law_821 : decode cL_law 821 = .ok (.lshl, 1) := by decide +kernel
theorem dL_law_822 : decode cL_law 822 = .ok (.aload_n 0, 1) := by decide +kernel
theorem dL_law_823 : decode cL_law 823 = .ok (.iload_n 3, 1) := by decide +kernel
theorem dL_law_824 : decode cL_law 824 = .ok (.iconst 2, 1) := by decide +kernel
theorem dL_law_825 : decode cL_law 825 = .ok (.iadd, 1) := by decide +kernel
theorem dL_law_826 : decode cL_law 826 = .ok (.iaload, 1) := by decide +kernel
theorem dL_law_827 : decode cL_law 827 = .ok (.i2l, 1) := by decide +kernel
theorem dL_law_828 : decode cL_law 828 = .ok (.ldc2_w 89, 3) := by decide +kernel
theorem dL_law_831 : decode cL_law 831 = .ok (.land, 1) := by decide +kernel
theorem dL_law_832 : decode cL_law 832 = .ok (.lor, 1) := by decide +kernel
theorem dL_law_833 : decode cL_law 833 = .ok (.invokevirtual 91, 3) := by decide +kernel
theorem dL_law_836 : decode cL_law 836 = .ok (.aload_n 2, 1) := by decide +kernel
theorem dL_law_837 : decode cL_law 837 = .ok (.aload_n 0, 1) := by decide +kernel
theorem dL_law_838 : decode cL_law 838 = .ok (.iload_n 3, 1) := by decide +kernel
theorem dL_law_839 : decode cL_law 839 = .ok (.iconst 1, 1) := by decide +kernel
theorem dL_law_840 : decode cL_law 840 = .ok (.iadd, 1) := by decide +kernel
theorem dL_law_841 : decode cL_law 841 = .ok (.iaload, 1) := by decide +kernel
theorem dL_law_842 : decode cL_law 842 = .ok (.i2l, 1) := by decide +kernel
theorem dL_law_843 : decode cL_law 843 = .ok (.bipush 32, 2) := by decide +kernel
theorem dL_law_845 : decode cL_law 845 = .ok (.lshl, 1) := by decide +kernel
theorem dL_law_846 : decode cL_law 846 = .ok (.aload_n 0, 1) := by decide +kernel
theorem dL_law_847 : decode cL_law 847 = .ok (.iload_n 3, 1) := by decide +kernel
theorem dL_law_848 : decode cL_law 848 = .ok (.iconst 2, 1) := by decide +kernel
theorem dL_law_849 : decode cL_law 849 = .ok (.iadd, 1) := by decide +kernel
theorem dL_law_850 : decode cL_law 850 = .ok (.iaload, 1) := by decide +kernel
theorem dL_law_851 : decode cL_law 851 = .ok (.i2l, 1) := by decide +kernel
theorem dL_law_852 : decode cL_law 852 = .ok (.ldc2_w 89, 3) := by decide +kernel
theorem dL_law_855 : decode cL_law 855 = .ok (.land, 1) := by decide +kernel
theorem dL_law_856 : decode cL_law 856 = .ok (.lor, 1) := by decide +kernel
theorem dL_law_857 : decode cL_law 857 = .ok (.invokevirtual 95, 3) := by decide +kernel
theorem dL_law_860 : decode cL_law 860 = .ok (.if_icmp .eq 103, 3) := by decide +kernel
theorem dL_law_863 : decode cL_law 863 = .ok (.iconst 0, 1) := by decide +kernel
theorem dL_law_864 : decode cL_law 864 = .ok (.ireturn, 1) := by decide +kernel
theorem dL_law_865 : decode cL_law 865 = .ok (.aload_n 1, 1) := by decide +kernel
theorem dL_law_866 : decode cL_law 866 = .ok (.invokevirtual 96, 3) := by decide +kernel
theorem dL_law_869 : decode cL_law 869 = .ok (.aload_n 2, 1) := by decide +kernel
theorem dL_law_870 : decode cL_law 870 = .ok (.invokevirtual 100, 3) := by decide +kernel
theorem dL_law_873 : decode cL_law 873 = .ok (.if_icmp .eq 90, 3) := by decide +kernel
theorem dL_law_876 : decode cL_law 876 = .ok (.iconst 0, 1) := by decide +kernel
theorem dL_law_877 : decode cL_law 877 = .ok (.ireturn, 1) := by decide +kernel
theorem dL_law_878 : decode cL_law 878 = .ok (.aload_n 1, 1) := by decide +kernel
theorem dL_law_879 : decode cL_law 879 = .ok (.invokevirtual 101, 3) := by decide +kernel
theorem dL_law_882 : decode cL_law 882 = .ok (.aload_n 2, 1) := by decide +kernel
theorem dL_law_883 : decode cL_law 883 = .ok (.invokevirtual 104, 3) := by decide +kernel
theorem dL_law_886 : decode cL_law 886 = .ok (.if_icmp .eq 77, 3) := by decide +kernel
theorem dL_law_889 : decode cL_law 889 = .ok (.iconst 0, 1) := by decide +kernel
theorem dL_law_890 : decode cL_law 890 = .ok (.ireturn, 1) := by decide +kernel
theorem dL_law_891 : decode cL_law 891 = .ok (.aload_n 1, 1) := by decide +kernel
theorem dL_law_892 : decode cL_law 892 = .ok (.invokevirtual 105, 3) := by decide +kernel
theorem dL_law_895 : decode cL_law 895 = .ok (.aload_n 2, 1) := by decide +kernel
theorem dL_law_896 : decode cL_law 896 = .ok (.invokevirtual 108, 3) := by decide +kernel
theorem dL_law_899 : decode cL_law 899 = .ok (.if_icmp .eq 64, 3) := by decide +kernel
theorem dL_law_902 : decode cL_law 902 = .ok (.iconst 0, 1) := by decide +kernel
theorem dL_law_903 : decode cL_law 903 = .ok (.ireturn, 1) := by decide +kernel
theorem dL_law_904 : decode cL_law 904 = .ok (.aload_n 1, 1) := by decide +kernel
theorem dL_law_905 : decode cL_law 905 = .ok (.invokevirtual 109, 3) := by decide +kernel
theorem dL_law_908 : decode cL_law 908 = .ok (.aload_n 2, 1) := by decide +kernel
theorem dL_law_909 : decode cL_law 909 = .ok (.invokevirtual 112, 3) := by decide +kernel
theorem dL_law_912 : decode cL_law 912 = .ok (.if_icmp .eq 51, 3) := by decide +kernel
theorem dL_law_915 : decode cL_law 915 = .ok (.iconst 0, 1) := by decide +kernel
theorem dL_law_916 : decode cL_law 916 = .ok (.ireturn, 1) := by decide +kernel
theorem dL_law_917 : decode cL_law 917 = .ok (.aload_n 1, 1) := by decide +kernel
theorem dL_law_918 : decode cL_law 918 = .ok (.aload_n 0, 1) := by decide +kernel
theorem dL_law_919 : decode cL_law 919 = .ok (.iload_n 3, 1) := by decide +kernel
theorem dL_law_920 : decode cL_law 920 = .ok (.iconst 1, 1) := by decide +kernel
theorem dL_law_921 : decode cL_law 921 = .ok (.iadd, 1) := by decide +kernel
theorem dL_law_922 : decode cL_law 922 = .ok (.iaload, 1) := by decide +kernel
theorem dL_law_923 : decode cL_law 923 = .ok (.invokevirtual 113, 3) := by decide +kernel
theorem dL_law_926 : decode cL_law 926 = .ok (.aload_n 2, 1) := by decide +kernel
theorem dL_law_927 : decode cL_law 927 = .ok (.aload_n 0, 1) := by decide +kernel
theorem dL_law_928 : decode cL_law 928 = .ok (.iload_n 3, 1) := by decide +kernel
theorem dL_law_929 : decode cL_law 929 = .ok (.iconst 1, 1) := by decide +kernel
theorem dL_law_930 : decode cL_law 930 = .ok (.iadd, 1) := by decide +kernel
theorem dL_law_931 : decode cL_law 931 = .ok (.iaload, 1) := by decide +kernel
theorem dL_law_932 : decode cL_law 932 = .ok (.invokevirtual 116, 3) := by decide +kernel
theorem dL_law_935 : decode cL_law 935 = .ok (.if_icmp .eq 28, 3) := by decide +kernel
theorem dL_law_938 : decode cL_law 938 = .ok (.iconst 0, 1) := by decide +kernel
theorem dL_law_939 : decode cL_law 939 = .ok (.ireturn, 1) := by decide +kernel
theorem dL_law_940 : decode cL_law 940 = .ok (.aload_n 1, 1) := by decide +kernel
theorem dL_law_941 : decode cL_law 941 = .ok (.aload_n 0, 1) := by decide +kernel
theorem dL_law_942 : decode cL_law 942 = .ok (.iload_n 3, 1) := by decide +kernel
theorem dL_law_943 : decode cL_law 943 = .ok (.iconst 1, 1) := by decide +kernel
theorem dL_law_944 : decode cL_law 944 = .ok (.iadd, 1) := by decide +kernel
theorem dL_law_945 : decode cL_law 945 = .ok (.iaload, 1) := by decide +kernel
theorem dL_law_946 : decode cL_law 946 = .ok (.invokevirtual 117, 3) := by decide +kernel
theorem dL_law_949 : decode cL_law 949 = .ok (.aload_n 2, 1) := by decide +kernel
theorem dL_law_950 : decode cL_law 950 = .ok (.aload_n 0, 1) := by decide +kernel
theorem dL_law_951 : decode cL_law 951 = .ok (.iload_n 3, 1) := by decide +kernel
theorem dL_law_952 : decode cL_law 952 = .ok (.iconst 1, 1) := by decide +kernel
theorem dL_law_953 : decode cL_law 953 = .ok (.iadd, 1) := by decide +kernel
theorem dL_law_954 : decode cL_law 954 = .ok (.iaload, 1) := by decide +kernel
theorem dL_law_955 : decode cL_law 955 = .ok (.invokevirtual 120, 3) := by decide +kernel
theorem dL_law_958 : decode cL_law 958 = .ok (.if_icmp .eq 5, 3) := by decide +kernel
theorem dL_law_961 : decode cL_law 961 = .ok (.iconst 0, 1) := by decide +kernel
theorem dL_law_962 : decode cL_law 962 = .ok (.ireturn, 1) := by decide +kernel
theorem dL_law_963 : decode cL_law 963 = .ok (.iinc 3 5, 3) := by decide +kernel
theorem dL_law_966 : decode cL_law 966 = .ok (.goto (-948), 3) := by decide +kernel
theorem dL_law_969 : decode cL_law 969 = .ok (.iconst 1, 1) := by decide +kernel
theorem dL_law_970 : decode cL_law 970 = .ok (.ireturn, 1) := by decide +kernel
end
section
/-! ===== rows over numbers, the contracts' shapes, calls ===== -/
/-- a truth as the machine has it -/
noncomputable def pI (P : Prop) : Int32 := @ite _ P (Classical.propDecidable P) 1 0
theorem pI_t {P : Prop} (h : P) : pI P = 1 := @if_pos _ (Classical.propDecidable P) h _ _ _
theorem pI_f {P : Prop} (h : ¬ P) : pI P = 0 := @if_neg _ (Classical.propDecidable P) h _ _ _
theorem pI_t' {P : Prop} (h : P) : nI 1 = pI P := (pI_t h).symm
theorem pI_f' {P : Prop} (h : ¬ P) : nI 0 = pI P := (pI_f h).symm
theorem pI_c {P Q : Prop} (h : P ↔ Q) : pI P = pI Q := by rw [propext h]
theorem pI_0 {P : Prop} : pI P = 0 ↔ ¬ P := by
  by_cases h : P
  · rw [pI_t h]; exact ⟨fun z => absurd z (by decide), fun z => absurd h z⟩
  · rw [pI_f h]; exact ⟨fun _ => h, fun _ => rfl⟩
theorem pI_1 {P : Prop} : ¬ pI P = 0 ↔ P := by
  rw [pI_0]; exact Classical.not_not
theorem pI_cases (P : Prop) : pI P = 0 ∨ pI P = 1 := by
  by_cases h : P
  · exact Or.inr (pI_t h)
  · exact Or.inl (pI_f h)
theorem pI_toInt (P : Prop) : (pI P).toInt = 0 ∨ (pI P).toInt = 1 := by
  rcases pI_cases P with h | h <;> rw [h]
  · exact Or.inl rfl
  · exact Or.inr rfl
theorem lvc {i : Nat} {a b : Int32} {t t' : List (Nat × Value)} (h : a = b) (ht : t = t') : (i, Value.int a) :: t = (i, Value.int b) :: t' := by rw [h, ht]
theorem lvr {q : Nat × Value} {t t' : List (Nat × Value)} (ht : t = t') : q :: t = q :: t' := by rw [ht]
theorem wlc {a : Nat} {x y : va_E} {t t' : va_W} (h : x = y) (ht : t = t') : (a, x) :: t = (a, y) :: t' := by rw [h, ht]
theorem wli {cA : ClassId} {n : Nat} {f g : Nat → Int32} (h : f = g) : (Sum.inl (cA, n, Sum.inl f) : va_E) = Sum.inl (cA, n, Sum.inl g) := by rw [h]
theorem toI {n : Nat} (h : n < 2147483648) : (nI n).toInt = (n : Int) := nI_toInt h
section RWS
variable {p : Program} {l : Launch} {e : Env} {R : Room} {s : State} {m : MethodId} {args : Array Value} {below : List Frame} {meth : Method} {c : Code} {H : Heap} {locs : List Loc} {cells slots : Nat} {Q : State → Prop}
variable {pc : Nat} {ls : Array Slot} {rest : List Value} {cc : ByteArray}
/-- the top, under another name -/
theorem lv_cv {x y : Int32} (h : x = y) (k : W p l e R s m args below meth c H locs cells slots Q (F0 m pc ls (.int y :: rest))) : W p l e R s m args below meth c H locs cells slots Q (F0 m pc ls (.int x :: rest)) := by rw [h]; exact k
theorem lv_cv2 {x y : Int32} {v : Value} (h : x = y) (k : W p l e R s m args below meth c H locs cells slots Q (F0 m pc ls (v :: .int y :: rest))) : W p l e R s m args below meth c H locs cells slots Q (F0 m pc ls (v :: .int x :: rest)) := by rw [h]; exact k
theorem n_iadd (hx : p.tables.exec = Jvm.exec) (hb : c.code = cc) {a b : Nat} (hdg : decode cc pc = .ok (.iadd, 1)) (k : W p l e R s m args below meth c H locs cells slots Q (F0 m (pc + 1) ls (.int (nI (a + b)) :: rest))) : W p l e R s m args below meth c H locs cells slots Q (F0 m pc ls (.int (nI b) :: .int (nI a) :: rest)) :=
  lv_iadd hx hb hdg (lv_cv (nI_add a b) k)
theorem n_isub (hx : p.tables.exec = Jvm.exec) (hb : c.code = cc) {a b : Nat} (h : b ≤ a) (hdg : decode cc pc = .ok (.isub, 1)) (k : W p l e R s m args below meth c H locs cells slots Q (F0 m (pc + 1) ls (.int (nI (a - b)) :: rest))) : W p l e R s m args below meth c H locs cells slots Q (F0 m pc ls (.int (nI b) :: .int (nI a) :: rest)) :=
  lv_isub hx hb hdg (lv_cv (pk_sub h) k)
theorem n_imul (hx : p.tables.exec = Jvm.exec) (hb : c.code = cc) {a b : Nat} (hdg : decode cc pc = .ok (.imul, 1)) (k : W p l e R s m args below meth c H locs cells slots Q (F0 m (pc + 1) ls (.int (nI (a * b)) :: rest))) : W p l e R s m args below meth c H locs cells slots Q (F0 m pc ls (.int (nI b) :: .int (nI a) :: rest)) :=
  lv_imul hx hb hdg (lv_cv (pk_mul a b) k)
theorem n_idiv (hx : p.tables.exec = Jvm.exec) (hb : c.code = cc) {a b : Nat} (ha : a < 2147483648) (h0 : 0 < b) (hb2 : b < 2147483648) (hdg : decode cc pc = .ok (.idiv, 1)) (k : W p l e R s m args below meth c H locs cells slots Q (F0 m (pc + 1) ls (.int (nI (a / b)) :: rest))) : W p l e R s m args below meth c H locs cells slots Q (F0 m pc ls (.int (nI b) :: .int (nI a) :: rest)) :=
  lv_idiv hx hb hdg (nI_ne0 h0 hb2) (lv_cv (pk_div ha h0 hb2) k)
theorem n_irem (hx : p.tables.exec = Jvm.exec) (hb : c.code = cc) {a b : Nat} (ha : a < 2147483648) (h0 : 0 < b) (hb2 : b < 2147483648) (hdg : decode cc pc = .ok (.irem, 1)) (k : W p l e R s m args below meth c H locs cells slots Q (F0 m (pc + 1) ls (.int (nI (a % b)) :: rest))) : W p l e R s m args below meth c H locs cells slots Q (F0 m pc ls (.int (nI b) :: .int (nI a) :: rest)) :=
  lv_irem hx hb hdg (nI_ne0 h0 hb2) (lv_cv (pk_rem ha h0 hb2) k)
theorem z_lt (hx : p.tables.exec = Jvm.exec) (hb : c.code = cc) {x y : Int32} {off : Int} {tgt : Nat} (X Y : Int) (hdg : decode cc pc = .ok (.if_icmp .lt off, 3)) (ht : (pc : Int) + off = (tgt : Int)) (hX : x.toInt = X) (hY : y.toInt = Y)
    (kt : X < Y → W p l e R s m args below meth c H locs cells slots Q (F0 m tgt ls rest)) (kf : Y ≤ X → W p l e R s m args below meth c H locs cells slots Q (F0 m (pc + 3) ls rest)) : W p l e R s m args below meth c H locs cells slots Q (F0 m pc ls (.int y :: .int x :: rest)) :=
  lv_icmp_lt hx hb hdg ht (fun h => kt (by rw [Int32.lt_iff_toInt_lt] at h; omega)) (fun h => kf (by rw [Int32.lt_iff_toInt_lt] at h; omega))
theorem z_le (hx : p.tables.exec = Jvm.exec) (hb : c.code = cc) {x y : Int32} {off : Int} {tgt : Nat} (X Y : Int) (hdg : decode cc pc = .ok (.if_icmp .le off, 3)) (ht : (pc : Int) + off = (tgt : Int)) (hX : x.toInt = X) (hY : y.toInt = Y)
    (kt : X ≤ Y → W p l e R s m args below meth c H locs cells slots Q (F0 m tgt ls rest)) (kf : Y < X → W p l e R s m args below meth c H locs cells slots Q (F0 m (pc + 3) ls rest)) : W p l e R s m args below meth c H locs cells slots Q (F0 m pc ls (.int y :: .int x :: rest)) :=
  lv_icmp_le hx hb hdg ht (fun h => kt (by rw [Int32.le_iff_toInt_le] at h; omega)) (fun h => kf (by rw [Int32.le_iff_toInt_le] at h; omega))
theorem z_gt (hx : p.tables.exec = Jvm.exec) (hb : c.code = cc) {x y : Int32} {off : Int} {tgt : Nat} (X Y : Int) (hdg : decode cc pc = .ok (.if_icmp .gt off, 3)) (ht : (pc : Int) + off = (tgt : Int)) (hX : x.toInt = X) (hY : y.toInt = Y)
    (kt : Y < X → W p l e R s m args below meth c H locs cells slots Q (F0 m tgt ls rest)) (kf : X ≤ Y → W p l e R s m args below meth c H locs cells slots Q (F0 m (pc + 3) ls rest)) : W p l e R s m args below meth c H locs cells slots Q (F0 m pc ls (.int y :: .int x :: rest)) :=
  lv_icmp_gt hx hb hdg ht (fun h => kt (by rw [Int32.lt_iff_toInt_lt] at h; omega)) (fun h => kf (by rw [Int32.lt_iff_toInt_lt] at h; omega))
theorem z_ge (hx : p.tables.exec = Jvm.exec) (hb : c.code = cc) {x y : Int32} {off : Int} {tgt : Nat} (X Y : Int) (hdg : decode cc pc = .ok (.if_icmp .ge off, 3)) (ht : (pc : Int) + off = (tgt : Int)) (hX : x.toInt = X) (hY : y.toInt = Y)
    (kt : Y ≤ X → W p l e R s m args below meth c H locs cells slots Q (F0 m tgt ls rest)) (kf : X < Y → W p l e R s m args below meth c H locs cells slots Q (F0 m (pc + 3) ls rest)) : W p l e R s m args below meth c H locs cells slots Q (F0 m pc ls (.int y :: .int x :: rest)) :=
  lv_icmp_ge hx hb hdg ht (fun h => kt (by rw [Int32.le_iff_toInt_le] at h; omega)) (fun h => kf (by rw [Int32.le_iff_toInt_le] at h; omega))
theorem z_eq (hx : p.tables.exec = Jvm.exec) (hb : c.code = cc) {x y : Int32} {off : Int} {tgt : Nat} (X Y : Int) (hdg : decode cc pc = .ok (.if_icmp .eq off, 3)) (ht : (pc : Int) + off = (tgt : Int)) (hX : x.toInt = X) (hY : y.toInt = Y)
    (kt : X = Y → W p l e R s m args below meth c H locs cells slots Q (F0 m tgt ls rest)) (kf : ¬ X = Y → W p l e R s m args below meth c H locs cells slots Q (F0 m (pc + 3) ls rest)) : W p l e R s m args below meth c H locs cells slots Q (F0 m pc ls (.int y :: .int x :: rest)) :=
  lv_icmp_eq hx hb hdg ht (fun h => kt (by rw [← hX, ← hY, h])) (fun h => kf (fun z => h (Int32.toInt_inj.mp (by rw [hX, hY, z]))))
theorem z_ne (hx : p.tables.exec = Jvm.exec) (hb : c.code = cc) {x y : Int32} {off : Int} {tgt : Nat} (X Y : Int) (hdg : decode cc pc = .ok (.if_icmp .ne off, 3)) (ht : (pc : Int) + off = (tgt : Int)) (hX : x.toInt = X) (hY : y.toInt = Y)
    (kt : ¬ X = Y → W p l e R s m args below meth c H locs cells slots Q (F0 m tgt ls rest)) (kf : X = Y → W p l e R s m args below meth c H locs cells slots Q (F0 m (pc + 3) ls rest)) : W p l e R s m args below meth c H locs cells slots Q (F0 m pc ls (.int y :: .int x :: rest)) :=
  lv_icmp_ne hx hb hdg ht (fun h => kt (fun z => h (Int32.toInt_inj.mp (by rw [hX, hY, z])))) (fun h => kf (by rw [← hX, ← hY, h]))
theorem z0_lt (hx : p.tables.exec = Jvm.exec) (hb : c.code = cc) {x : Int32} {off : Int} {tgt : Nat} (X : Int) (hdg : decode cc pc = .ok (.ifCond .lt off, 3)) (ht : (pc : Int) + off = (tgt : Int)) (hX : x.toInt = X)
    (kt : X < 0 → W p l e R s m args below meth c H locs cells slots Q (F0 m tgt ls rest)) (kf : 0 ≤ X → W p l e R s m args below meth c H locs cells slots Q (F0 m (pc + 3) ls rest)) : W p l e R s m args below meth c H locs cells slots Q (F0 m pc ls (.int x :: rest)) :=
  lv_if_lt hx hb hdg ht (fun h => kt (by rw [Int32.lt_iff_toInt_lt, hX] at h; exact h)) (fun h => kf (by rw [Int32.lt_iff_toInt_lt, hX] at h; exact Int.not_lt.mp h))
theorem z0_le (hx : p.tables.exec = Jvm.exec) (hb : c.code = cc) {x : Int32} {off : Int} {tgt : Nat} (X : Int) (hdg : decode cc pc = .ok (.ifCond .le off, 3)) (ht : (pc : Int) + off = (tgt : Int)) (hX : x.toInt = X)
    (kt : X ≤ 0 → W p l e R s m args below meth c H locs cells slots Q (F0 m tgt ls rest)) (kf : 0 < X → W p l e R s m args below meth c H locs cells slots Q (F0 m (pc + 3) ls rest)) : W p l e R s m args below meth c H locs cells slots Q (F0 m pc ls (.int x :: rest)) :=
  lv_if_le hx hb hdg ht (fun h => kt (by rw [Int32.le_iff_toInt_le, hX] at h; exact h)) (fun h => kf (by rw [Int32.le_iff_toInt_le, hX] at h; exact Int.not_le.mp h))
theorem z0_gt (hx : p.tables.exec = Jvm.exec) (hb : c.code = cc) {x : Int32} {off : Int} {tgt : Nat} (X : Int) (hdg : decode cc pc = .ok (.ifCond .gt off, 3)) (ht : (pc : Int) + off = (tgt : Int)) (hX : x.toInt = X)
    (kt : 0 < X → W p l e R s m args below meth c H locs cells slots Q (F0 m tgt ls rest)) (kf : X ≤ 0 → W p l e R s m args below meth c H locs cells slots Q (F0 m (pc + 3) ls rest)) : W p l e R s m args below meth c H locs cells slots Q (F0 m pc ls (.int x :: rest)) :=
  lv_if_gt hx hb hdg ht (fun h => kt (by rw [Int32.lt_iff_toInt_lt, hX] at h; exact h)) (fun h => kf (by rw [Int32.lt_iff_toInt_lt, hX] at h; exact Int.not_lt.mp h))
theorem z0_ge (hx : p.tables.exec = Jvm.exec) (hb : c.code = cc) {x : Int32} {off : Int} {tgt : Nat} (X : Int) (hdg : decode cc pc = .ok (.ifCond .ge off, 3)) (ht : (pc : Int) + off = (tgt : Int)) (hX : x.toInt = X)
    (kt : 0 ≤ X → W p l e R s m args below meth c H locs cells slots Q (F0 m tgt ls rest)) (kf : X < 0 → W p l e R s m args below meth c H locs cells slots Q (F0 m (pc + 3) ls rest)) : W p l e R s m args below meth c H locs cells slots Q (F0 m pc ls (.int x :: rest)) :=
  lv_if_ge hx hb hdg ht (fun h => kt (by rw [Int32.le_iff_toInt_le, hX] at h; exact h)) (fun h => kf (by rw [Int32.le_iff_toInt_le, hX] at h; exact Int.not_le.mp h))
theorem z0_eq (hx : p.tables.exec = Jvm.exec) (hb : c.code = cc) {x : Int32} {off : Int} {tgt : Nat} (X : Int) (hdg : decode cc pc = .ok (.ifCond .eq off, 3)) (ht : (pc : Int) + off = (tgt : Int)) (hX : x.toInt = X)
    (kt : X = 0 → W p l e R s m args below meth c H locs cells slots Q (F0 m tgt ls rest)) (kf : ¬ X = 0 → W p l e R s m args below meth c H locs cells slots Q (F0 m (pc + 3) ls rest)) : W p l e R s m args below meth c H locs cells slots Q (F0 m pc ls (.int x :: rest)) :=
  lv_if_eq hx hb hdg ht (fun h => kt (by rw [← hX, h]; rfl)) (fun h => kf (fun z => h (Int32.toInt_inj.mp (by rw [hX, z]; rfl))))
theorem z0_ne (hx : p.tables.exec = Jvm.exec) (hb : c.code = cc) {x : Int32} {off : Int} {tgt : Nat} (X : Int) (hdg : decode cc pc = .ok (.ifCond .ne off, 3)) (ht : (pc : Int) + off = (tgt : Int)) (hX : x.toInt = X)
    (kt : ¬ X = 0 → W p l e R s m args below meth c H locs cells slots Q (F0 m tgt ls rest)) (kf : X = 0 → W p l e R s m args below meth c H locs cells slots Q (F0 m (pc + 3) ls rest)) : W p l e R s m args below meth c H locs cells slots Q (F0 m pc ls (.int x :: rest)) :=
  lv_if_ne hx hb hdg ht (fun h => kt (fun z => h (Int32.toInt_inj.mp (by rw [hX, z]; rfl)))) (fun h => kf (by rw [← hX, h]; rfl))
theorem p0_eq (hx : p.tables.exec = Jvm.exec) (hb : c.code = cc) {P : Prop} {off : Int} {tgt : Nat} (hdg : decode cc pc = .ok (.ifCond .eq off, 3)) (ht : (pc : Int) + off = (tgt : Int))
    (kt : ¬ P → W p l e R s m args below meth c H locs cells slots Q (F0 m tgt ls rest)) (kf : P → W p l e R s m args below meth c H locs cells slots Q (F0 m (pc + 3) ls rest)) : W p l e R s m args below meth c H locs cells slots Q (F0 m pc ls (.int (pI P) :: rest)) :=
  lv_if_eq hx hb hdg ht (fun h => kt (pI_0.mp h)) (fun h => kf (pI_1.mp h))
theorem p0_ne (hx : p.tables.exec = Jvm.exec) (hb : c.code = cc) {P : Prop} {off : Int} {tgt : Nat} (hdg : decode cc pc = .ok (.ifCond .ne off, 3)) (ht : (pc : Int) + off = (tgt : Int))
    (kt : P → W p l e R s m args below meth c H locs cells slots Q (F0 m tgt ls rest)) (kf : ¬ P → W p l e R s m args below meth c H locs cells slots Q (F0 m (pc + 3) ls rest)) : W p l e R s m args below meth c H locs cells slots Q (F0 m pc ls (.int (pI P) :: rest)) :=
  lv_if_ne hx hb hdg ht (fun h => kt (pI_1.mp h)) (fun h => kf (pI_0.mp h))
/-- a loop: its states are numbered by a Nat, some measure falls -/
theorem wloop {n : Nat} (st : List Value) (I : Nat → Array Slot → Prop) (μ : Nat → Nat)
    (hstep : ∀ x : Nat, (∀ (y : Nat) (ls' : Array Slot), μ y < μ x → I y ls' → W p l e R s m args below meth c H locs cells slots Q (F0 m pc ls' st)) → ∀ ls : Array Slot, I x ls → W p l e R s m args below meth c H locs cells slots Q (F0 m pc ls st))
    (x0 : Nat) (h0 : I x0 ls) : W p l e R s m args below meth c H locs cells slots Q (F0 m pc ls st) := by
  have key : ∀ (n x : Nat) (ls : Array Slot), μ x ≤ n → I x ls → W p l e R s m args below meth c H locs cells slots Q (F0 m pc ls st) := by
    intro n
    induction n with
    | zero => intro x ls hx hI; exact hstep x (fun y ls' hy _ => absurd hy (by omega)) ls hI
    | succ n ih => intro x ls hx hI; exact hstep x (fun y ls' hy hI' => ih y ls' (by omega) hI') ls hI
  exact key _ x0 ls (Nat.le_refl _) h0
theorem wloopH (st : List Value) (I : Nat → Heap → List Loc → Array Slot → Prop) (μ : Nat → Nat)
    (hstep : ∀ x : Nat, (∀ (y : Nat) (H' : Heap) (locs' : List Loc) (ls' : Array Slot), μ y < μ x → I y H' locs' ls' → W p l e R s m args below meth c H' locs' cells slots Q (F0 m pc ls' st)) → ∀ (H : Heap) (locs : List Loc) (ls : Array Slot), I x H locs ls → W p l e R s m args below meth c H locs cells slots Q (F0 m pc ls st))
    (x0 : Nat) (h0 : I x0 H locs ls) : W p l e R s m args below meth c H locs cells slots Q (F0 m pc ls st) := by
  have key : ∀ (n x : Nat) (H : Heap) (locs : List Loc) (ls : Array Slot), μ x ≤ n → I x H locs ls → W p l e R s m args below meth c H locs cells slots Q (F0 m pc ls st) := by
    intro n
    induction n with
    | zero => intro x H locs ls hx hI; exact hstep x (fun y H' locs' ls' hy _ => absurd hy (by omega)) H locs ls hI
    | succ n ih => intro x H locs ls hx hI; exact hstep x (fun y H' locs' ls' hy hI' => ih y H' locs' ls' (by omega) hI') H locs ls hI
  exact key _ x0 H locs ls (Nat.le_refl _) h0
/-- a place where ways meet -/
theorem wjoin (tgt : Nat) (st : List Value) (I : Array Slot → Prop) {g : JFrame} (h1 : ∀ ls' : Array Slot, I ls' → W p l e R s m args below meth c H locs cells slots Q (F0 m tgt ls' st))
    (h2 : (∀ ls' : Array Slot, I ls' → W p l e R s m args below meth c H locs cells slots Q (F0 m tgt ls' st)) → W p l e R s m args below meth c H locs cells slots Q g) : W p l e R s m args below meth c H locs cells slots Q g := h2 h1
theorem wjoinH (tgt : Nat) (st : List Value) (I : Heap → List Loc → Array Slot → Prop) {g : JFrame} (h1 : ∀ (H' : Heap) (locs' : List Loc) (ls' : Array Slot), I H' locs' ls' → W p l e R s m args below meth c H' locs' cells slots Q (F0 m tgt ls' st))
    (h2 : (∀ (H' : Heap) (locs' : List Loc) (ls' : Array Slot), I H' locs' ls' → W p l e R s m args below meth c H' locs' cells slots Q (F0 m tgt ls' st)) → W p l e R s m args below meth c H locs cells slots Q g) : W p l e R s m args below meth c H locs cells slots Q g := h2 h1
end RWS
/-! arrays by numbers -/
section RWA
variable {p : Program} {l : Launch} {e : Env} {R : Room} {s : State} {m : MethodId} {args : Array Value} {below : List Frame} {meth : Method} {c : Code} {H : Heap} {locs : List Loc} {cells slots : Nat} {Q : State → Prop}
variable {pc : Nat} {ls : Array Slot} {rest : List Value} {cc : ByteArray} {D : va_G} {cl : List vw_C} {tys : List (ClassId × FieldType)} {ws : va_W} {a : Nat} {A : Nat → Prop} {H0 : Heap}
theorem n_iald (hx : p.tables.exec = Jvm.exec) (hb : c.code = cc) (hK : va_K D cl tys s) (hP : va_P D cl ws H) (q0 t0 : Nat) {cA : ClassId} {n k : Nat} {f : Nat → Int32} (ha : ws[q0]? = some (a, .inl (cA, n, .inl f))) (ht : tys[t0]? = some (cA, .int)) (hk : k < n) (hn : n < 2147483648) (hdg : decode cc pc = .ok (.iaload, 1))
    (kk : W p l e R s m args below meth c H locs cells slots Q (F0 m (pc + 1) ls (.int (f k) :: rest))) : W p l e R s m args below meth c H locs cells slots Q (F0 m pc ls (.int (nI k) :: .ref a :: rest)) :=
  va_iald hx hb hK hP q0 t0 ha ht (vp_in_nI hk hn) hdg (by rw [nI_clamp (Nat.lt_trans hk hn)]; exact kk)
theorem n_cald (hx : p.tables.exec = Jvm.exec) (hb : c.code = cc) (hK : va_K D cl tys s) (hP : va_P D cl ws H) (q0 t0 : Nat) {cA : ClassId} {n k : Nat} {f : Nat → Int32} (ha : ws[q0]? = some (a, .inl (cA, n, .inl f))) (ht : tys[t0]? = some (cA, .char)) (hk : k < n) (hn : n < 2147483648) (hdg : decode cc pc = .ok (.caload, 1))
    (kk : W p l e R s m args below meth c H locs cells slots Q (F0 m (pc + 1) ls (.int (f k) :: rest))) : W p l e R s m args below meth c H locs cells slots Q (F0 m pc ls (.int (nI k) :: .ref a :: rest)) :=
  va_cald hx hb hK hP q0 t0 ha ht (vp_in_nI hk hn) hdg (by rw [nI_clamp (Nat.lt_trans hk hn)]; exact kk)
theorem n_zald (hx : p.tables.exec = Jvm.exec) (hb : c.code = cc) (hK : va_K D cl tys s) (hP : va_P D cl ws H) (q0 t0 : Nat) {cA : ClassId} {n k : Nat} {f : Nat → Int32} (ha : ws[q0]? = some (a, .inl (cA, n, .inl f))) (ht : tys[t0]? = some (cA, .boolean)) (hk : k < n) (hn : n < 2147483648) (hdg : decode cc pc = .ok (.baload, 1))
    (kk : W p l e R s m args below meth c H locs cells slots Q (F0 m (pc + 1) ls (.int (f k) :: rest))) : W p l e R s m args below meth c H locs cells slots Q (F0 m pc ls (.int (nI k) :: .ref a :: rest)) :=
  va_zald hx hb hK hP q0 t0 ha ht (vp_in_nI hk hn) hdg (by rw [nI_clamp (Nat.lt_trans hk hn)]; exact kk)
theorem n_aald (hx : p.tables.exec = Jvm.exec) (hb : c.code = cc) (hK : va_K D cl tys s) (hP : va_P D cl ws H) (q0 t0 : Nat) {cA : ClassId} {C : String} {n k : Nat} {f : Nat → Option Nat} (ha : ws[q0]? = some (a, .inl (cA, n, .inr (.inr (.inr (.inr f)))))) (ht : tys[t0]? = some (cA, .object C)) (hk : k < n) (hn : n < 2147483648) (hdg : decode cc pc = .ok (.aaload, 1))
    (kk : W p l e R s m args below meth c H locs cells slots Q (F0 m (pc + 1) ls (va_rf (f k) :: rest))) : W p l e R s m args below meth c H locs cells slots Q (F0 m pc ls (.int (nI k) :: .ref a :: rest)) :=
  va_aldq hx hb hK hP q0 t0 ha ht (vp_in_nI hk hn) hdg (by rw [nI_clamp (Nat.lt_trans hk hn)]; exact kk)
theorem n_iast (hx : p.tables.exec = Jvm.exec) (hb : c.code = cc) (hK : va_K D cl tys s) (hP : va_P D cl ws H) (hD : va_D A ws) (hS : va_S A H0 H locs) (q0 t0 : Nat) {cA : ClassId} {n k : Nat} {f : Nat → Int32} (ha : ws[q0]? = some (a, .inl (cA, n, .inl f))) (ht : tys[t0]? = some (cA, .int)) {x : Int32} (hk : k < n) (hn : n < 2147483648) (hdg : decode cc pc = .ok (.iastore, 1))
    (kk : ∀ (H1 : Heap) (locs1 : List Loc), va_P D cl (ws.set q0 (a, .inl (cA, n, .inl (upd f k x)))) H1 → va_D A (ws.set q0 (a, .inl (cA, n, .inl (upd f k x)))) → va_S A H0 H1 locs1 → W p l e R s m args below meth c H1 locs1 cells slots Q (F0 m (pc + 1) ls rest)) : W p l e R s m args below meth c H locs cells slots Q (F0 m pc ls (.int x :: .int (nI k) :: .ref a :: rest)) :=
  va_iast hx hb hK hP hD hS q0 t0 ha ht (vp_in_nI hk hn) hdg (by rw [nI_clamp (Nat.lt_trans hk hn)]; exact kk)
end RWA
/-! ===== the contracts' shapes ===== -/
/-- how deep, by one number -/
abbrev rmL (d : Nat) : Room := { frames := d, cells := 0, slots := 0, locals := 40 * d }
/-- where the classes' slots lie, and the classes of int[], char[], boolean[], Diary[], Step[] -/
abbrev gT : Type := va_G × ClassId × ClassId × ClassId × ClassId × ClassId
abbrev gI (G : gT) : ClassId := G.2.1
abbrev gC (G : gT) : ClassId := G.2.2.1
abbrev gZ (G : gT) : ClassId := G.2.2.2.1
abbrev gD (G : gT) : ClassId := G.2.2.2.2.1
abbrev gS (G : gT) : ClassId := G.2.2.2.2.2
abbrev tyL (G : gT) : List (ClassId × FieldType) := [(gI G, .int), (gC G, .char), (gZ G, .boolean), (gD G, .object RX0), (gS G, .object RX2)]
/-- where a month begins in its year -/
def mst : Nat → Nat
  | 0 => 0 | 1 => 31 | 2 => 59 | 3 => 90 | 4 => 120 | 5 => 151 | 6 => 181 | 7 => 212 | 8 => 243 | 9 => 273 | 10 => 304 | 11 => 334 | _ => 365
def Zs (A : Nat → Prop) (U : State) : Prop := ∃ t : Nat, va_Z "FoldedMonths" "MONTH_STARTS" "[I" (.ref t) A U U.heap ∧ va_T .int t 13 (fun j => .int (nI (mst j))) A U U.heap
def Nw (U : State) : Prop := va_Nw (.methodLinkNest RX1 21 yX2_init "FoldedMonths") U ∧ va_Nw (.methodLinkNest RX0 69 yX3_isMonth "FoldedMonths") U ∧ va_Nw (.methodLinkNest RX0 31 yX3_monthOf "FoldedMonths") U ∧ va_Nw (.methodLinkNest RX0 130 yX3_daysMeant "FoldedMonths") U ∧ va_Nw (.methodLinkNest RX0 42 yX3_isBitSet "FoldedMonths") U ∧ va_Nw (.methodLinkNest RX0 39 yX3_firstDayOf "FoldedMonths") U ∧ va_Nw (.methodLinkNest RX1 57 yX3_isSubject "FoldedMonths") U
def Kx (G : gT) (U : State) : Prop := va_K G.1 vwCl (tyL G) U ∧ Nw U
def Pr (G : gT) (ws : va_W) (U : State) : Prop := Kx G U ∧ Zs (fun _ => False) U ∧ va_P G.1 vwCl ws U.heap
def Pw (G : gT) (sz : Nat) (ws : va_W) (U : State) : Prop := U.heap.size = sz ∧ Kx G U ∧ Zs (va_A ws sz) U ∧ va_P G.1 vwCl ws U.heap ∧ va_D (fun _ => True) ws
theorem Zs.moved {A : Nat → Prop} {u U : State} (hh : U.heap = u.heap) (hvm : u.vm.Alike U.vm) (h : Zs A u) : Zs A U := by
  obtain ⟨t, h1, h2⟩ := h
  exact ⟨t, by rw [hh]; exact h1.moved hvm, by rw [hh]; exact h2.moved hvm⟩
theorem Zs.to {A B : Nat → Prop} {s U : State} {H : Heap} {locs : List Loc} (h : Zs A s) (hS : va_S A s.heap H locs) (hh : U.heap = H) (hW : s.WarmedH U.vm) (hB : ∀ q, B q → A q) : Zs B U := by
  obtain ⟨t, h1, h2⟩ := h
  refine ⟨t, ?_, ?_⟩
  · rw [hh]; exact ((h1.kept hS.2.1).narrow hB).moved hW.alike
  · rw [hh]; exact ((h2.kept hS.2.1).narrow hB).moved hW.alike
theorem Kx.calling {G : gT} {U : State} (g : JFrame) (mk : MethodId) (a : Array Value) (h : Kx G U) : Kx G (U.calling g mk a) := by
  obtain ⟨h0, h1, h2, h3, h4, h5, h6, h7⟩ := h
  exact ⟨va_K.moved (u := U) (U := U.calling g mk a) (Vm.Alike.refl U.vm) h0, va_Nw.same rfl (u := U) (U := U.calling g mk a) rfl h1, va_Nw.same rfl (u := U) (U := U.calling g mk a) rfl h2, va_Nw.same rfl (u := U) (U := U.calling g mk a) rfl h3, va_Nw.same rfl (u := U) (U := U.calling g mk a) rfl h4, va_Nw.same rfl (u := U) (U := U.calling g mk a) rfl h5, va_Nw.same rfl (u := U) (U := U.calling g mk a) rfl h6, va_Nw.same rfl (u := U) (U := U.calling g mk a) rfl h7⟩
theorem Kx.warm {G : gT} {s U : State} (hW : s.WarmedH U.vm) (h : Kx G s) : Kx G U := by
  obtain ⟨h0, h1, h2, h3, h4, h5, h6, h7⟩ := h
  exact ⟨va_K.moved hW.alike h0, va_Nw.warmM hW h1, va_Nw.warmM hW h2, va_Nw.warmM hW h3, va_Nw.warmM hW h4, va_Nw.warmM hW h5, va_Nw.warmM hW h6, va_Nw.warmM hW h7⟩
theorem Pr.fb {G : gT} {ws : va_W} {As : List Value} : FrameBlind (va_Pc As (Pr G ws)) := fun a U g mk q => ⟨q.1, q.2.1.calling g mk a, Zs.moved (u := U) (U := U.calling g mk a) rfl (Vm.Alike.refl U.vm) q.2.2.1, q.2.2.2⟩
theorem Pw.fb {G : gT} {sz : Nat} {ws : va_W} {As : List Value} : FrameBlind (va_Pc As (Pw G sz ws)) := fun a U g mk q => ⟨q.1, q.2.1, q.2.2.1.calling g mk a, Zs.moved (u := U) (U := U.calling g mk a) rfl (Vm.Alike.refl U.vm) q.2.2.2.1, q.2.2.2.2⟩
/-- reads, and answers res -/
def Ro (l : Launch) (G : gT) (y : MethodName) (bytes : ByteArray) (maxL : Nat) (ret : Option FieldType) (d : Nat) (ws : va_W) (As : List Value) (res : Int32) : Prop := Met l y (Cond.code y bytes maxL ret :: GW) (rmL d) (va_Pc As (Pr G ws)) (vp_Si (fun r => r = res)) 0 0 (fun _ => False)
/-- reads, and hands back an object, or null -/
def Rq (l : Launch) (G : gT) (y : MethodName) (bytes : ByteArray) (maxL : Nat) (ret : Option FieldType) (d : Nat) (ws : va_W) (As : List Value) (res : Option Nat) : Prop := Met l y (Cond.code y bytes maxL ret :: GW) (rmL d) (va_Pc As (Pr G ws)) (va_Sq (fun r => r = res)) 0 0 (fun _ => False)
/-- its world goes from ws to one of the worlds that 'post' allows with the answer -/
def Rw (l : Launch) (G : gT) (y : MethodName) (bytes : ByteArray) (maxL : Nat) (ret : Option FieldType) (d sz : Nat) (ws : va_W) (As : List Value) (res : Int32) (ws' : va_W) : Prop := Met l y (Cond.code y bytes maxL ret :: GW) (rmL d) (va_Pc As (Pw G sz ws)) (va_Qi (fun r (_ : Unit) => r = res) (fun _ t => va_P G.1 vwCl ws' t.heap) (va_A ws sz)) 0 0 (va_A ws sz)
def Rv (l : Launch) (G : gT) (y : MethodName) (bytes : ByteArray) (maxL : Nat) (ret : Option FieldType) (d sz : Nat) (ws : va_W) (As : List Value) (ws' : va_W) : Prop := Met l y (Cond.code y bytes maxL ret :: GW) (rmL d) (va_Pc As (Pw G sz ws)) (va_Qv (fun (_ : Unit) => True) (fun _ t => va_P G.1 vwCl ws' t.heap) (va_A ws sz)) 0 0 (va_A ws sz)
theorem va_D.adr {A : Nat → Prop} {ws ws' : va_W} (h : va_D A ws) (e : ws'.map (·.1) = ws.map (·.1)) : va_D A ws' := by
  have key : ∀ (k : Nat) (q : Nat × va_E), ws'[k]? = some q → ∃ q0, ws[k]? = some q0 ∧ q0.1 = q.1 := by
    intro k q hk
    have h1 : (ws'.map (·.1))[k]? = some q.1 := by rw [List.getElem?_map, hk]; rfl
    rw [e, List.getElem?_map] at h1
    cases hq : ws[k]? with
    | none => rw [hq] at h1; cases h1
    | some q0 => rw [hq] at h1; exact ⟨q0, rfl, Option.some.inj h1⟩
  refine ⟨fun i j x y hi hj hxy => ?_, fun k q hk => ?_⟩
  · obtain ⟨x0, h1, h2⟩ := key i x hi
    obtain ⟨y0, h3, h4⟩ := key j y hj
    exact h.1 i j x0 y0 h1 h3 (h2.trans (hxy.trans h4.symm))
  · obtain ⟨q0, h1, h2⟩ := key k q hk
    rw [← h2]
    exact h.2 k q0 h1
theorem gw_s {own : String} {idx : Nat} {y : MethodName} {cd : Cond} (h1 : .methodLink own idx y ∈ GW) (h2 : .static y ∈ GW) (h3 : .initialized y.cls ∈ GW) (h4 : cd ∈ GW) : GoodIn GW (va_wsS own idx y (cd :: GW)) := by
  intro w hw
  have hm : w ∈ GW := by
    rcases List.mem_append.mp hw with h | h
    · simp only [List.mem_cons, List.not_mem_nil, or_false] at h
      rcases h with rfl | rfl | rfl
      · exact h1
      · exact h2
      · exact h3
    · rcases List.mem_cons.mp h with rfl | h
      · exact h4
      · exact h
  exact ⟨hm, good_of_word (gw_good hm)⟩
theorem gw_v {own C : String} {idx : Nat} {y : MethodName} {cd : Cond} (h1 : .methodLink own idx y ∈ GW) (h2 : .instanceMethod y ∈ GW) (h3 : .selects C y y ∈ GW) (h4 : .initialized C ∈ GW) (h5 : cd ∈ GW) : GoodIn GW (wsV own idx C y (cd :: GW)) := by
  intro w hw
  have hm : w ∈ GW := by
    rcases List.mem_append.mp hw with h | h
    · simp only [List.mem_cons, List.not_mem_nil, or_false] at h
      rcases h with rfl | rfl | rfl | rfl
      · exact h1
      · exact h2
      · exact h3
      · exact h4
    · rcases List.mem_cons.mp h with rfl | h
      · exact h5
      · exact h
  exact ⟨hm, good_of_word (gw_good hm)⟩
theorem gw_c {cd : Cond} (h5 : cd ∈ GW) : GoodIn GW (cd :: GW) := by
  intro w hw
  have hm : w ∈ GW := by
    rcases List.mem_cons.mp hw with rfl | h
    · exact h5
    · exact h
  exact ⟨hm, good_of_word (gw_good hm)⟩
/-- what a reading call, or a writing one, needs of the place where it stands -/
def Rd (G : gT) (s : State) (H : Heap) : Prop := ∀ U : State, U.heap = H → s.WarmedH U.vm → Kx G U ∧ Zs (fun _ => False) U
theorem Rd.of {G : gT} {s : State} {H : Heap} {A : Nat → Prop} {locs : List Loc} (hK : Kx G s) (hZ : Zs A s) (hS : va_S A s.heap H locs) : Rd G s H := fun U hU hW => ⟨hK.warm hW, hZ.to hS hU hW (fun _ h => h.elim)⟩
abbrev hdY (y : MethodName) (n : Nat) : Prop := y.cls ≠ "java/lang/invoke/MethodHandle" ∧ y.cls ≠ "java/lang/invoke/VarHandle" ∧ (parseMethodDescriptor y.desc).map (fun d => d.parameters.length) = some n
section CALLS
variable {p : Program} {l : Launch} {e : Env} {R : Room} {s : State} {m : MethodId} {args : Array Value} {below : List Frame} {meth : Method} {c : Code} {H : Heap} {locs : List Loc} {cells slots : Nat} {Q : State → Prop}
variable {pc : Nat} {ls : Array Slot} {rest st : List Value} {cc bytes : ByteArray} {own host C : String} {index maxL nL n d : Nat} {y : MethodName} {ret : Option FieldType} {G : gT} {ws wc wr wc' : va_W} {As : List Value} {res : Int32} {rq : Option Nat} {b q0 ci : Nat} {fs : List Value} {A : Nat → Prop}
theorem k_recv (hK : Kx G s) (hP : va_P G.1 vwCl ws H) {q : vw_C} (hc : vwCl[ci]? = some q) (he : ws[q0]? = some (b, .inr (ci, fs))) : ∃ cell : Cell, H[b]? = some cell ∧ cell.vm.isStatics = false ∧ s.vm.findClass q.1 = some cell.cls := va_recv hK.1 hP hc he
/-- a static method of the own class that reads -/
theorem k_roS (F : CallFix p m c cc nL s args GW own) (hM : Ro l G y bytes maxL ret d wc As res) (h1 : Cond.methodLink own index y ∈ GW) (h2 : Cond.static y ∈ GW) (h3 : Cond.initialized y.cls ∈ GW) (h4 : Cond.code y bytes maxL ret ∈ GW) (hd : hdY y n) (hR : d + 1 ≤ R.frames ∧ 8 + (maxL + 11) + 40 * d ≤ R.locals)
    (X : Rd G s H) (hP : va_P G.1 vwCl wc H) (hn : As.length = n) (hsize : ls.size = nL) (hst : st = As.reverse ++ rest) (hW : (rest.map fun v => v.category).sum ≤ 8) (hdg : decode cc pc = .ok (.invokestatic index, 3)) (hf : cells ≤ R.cells ∧ slots ≤ R.slots)
    (kk : W p l e R s m args below meth c H locs cells slots Q (F0 m (pc + 3) ls (.int res :: rest))) : W p l e R s m args below meth c H locs cells slots Q (F0 m pc ls st) :=
  vp_callSi (va_Run.run (va_runS F hM (va_cwS n F.2.2.2.2 (gw_s h1 h2 h3 h4) rfl rfl rfl hd hR) ⟨Pr.fb, fun U hU hW => ⟨rfl, (X U hU hW).1, (X U hU hW).2, by rw [hU]; exact hP⟩⟩ rfl hn hsize hst (lv_room hW) hdg hf)) (fun r hr => by rw [hr]; exact kk)
theorem k_roN (F : CallFix p m c cc nL s args GW own) (hM : Ro l G y bytes maxL ret d wc As res) (h1 : va_Nw (.methodLinkNest own index y host) s) (h2 : Cond.static y ∈ GW) (h3 : Cond.initialized y.cls ∈ GW) (h4 : Cond.code y bytes maxL ret ∈ GW) (hd : hdY y n) (hR : d + 1 ≤ R.frames ∧ 8 + (maxL + 11) + 40 * d ≤ R.locals)
    (X : Rd G s H) (hP : va_P G.1 vwCl wc H) (hn : As.length = n) (hsize : ls.size = nL) (hst : st = As.reverse ++ rest) (hW : (rest.map fun v => v.category).sum ≤ 8) (hdg : decode cc pc = .ok (.invokestatic index, 3)) (hf : cells ≤ R.cells ∧ slots ≤ R.slots)
    (kk : W p l e R s m args below meth c H locs cells slots Q (F0 m (pc + 3) ls (.int res :: rest))) : W p l e R s m args below meth c H locs cells slots Q (F0 m pc ls st) :=
  vp_callSi (va_Run.run (va_runSN F hM ⟨va_cnB n F.2.2.2.2 (gw_c h4) rfl rfl rfl h1 (F.2.2.2.2 _ h3) hd hR, F.2.2.2.2 _ h2, trivial⟩ ⟨Pr.fb, fun U hU hW => ⟨rfl, (X U hU hW).1, (X U hU hW).2, by rw [hU]; exact hP⟩⟩ rfl hn hsize hst (lv_room hW) hdg hf)) (fun r hr => by rw [hr]; exact kk)
theorem k_roV (F : CallFix p m c cc nL s args GW own) (hM : Ro l G y bytes maxL ret d wc (.ref b :: As) res) (hK : Kx G s) (hP0 : va_P G.1 vwCl ws H) (hc : ∃ q, vwCl[ci]? = some q ∧ q.1 = C) (he : ws[q0]? = some (b, .inr (ci, fs))) (hyC : y.cls = C) (h1 : Cond.methodLink own index y ∈ GW) (h2 : Cond.instanceMethod y ∈ GW) (h3 : Cond.selects C y y ∈ GW) (h4 : Cond.initialized C ∈ GW) (h5 : Cond.code y bytes maxL ret ∈ GW) (hd : hdY y n) (hR : d + 1 ≤ R.frames ∧ 8 + (maxL + 11) + 40 * d ≤ R.locals)
    (X : Rd G s H) (hP : va_P G.1 vwCl wc H) (hn : As.length = n) (hsize : ls.size = nL) (hst : st = As.reverse ++ .ref b :: rest) (hW : (rest.map fun v => v.category).sum ≤ 8) (hdg : decode cc pc = .ok (.invokevirtual index, 3)) (hf : cells ≤ R.cells ∧ slots ≤ R.slots)
    (kk : W p l e R s m args below meth c H locs cells slots Q (F0 m (pc + 3) ls (.int res :: rest))) : W p l e R s m args below meth c H locs cells slots Q (F0 m pc ls st) := by
  obtain ⟨q, hq, rfl⟩ := hc
  exact vp_callSi (va_Run.run (va_runV F hM (cwV n F.2.2.2.2 (gw_v h1 h2 h3 h4 h5) rfl rfl rfl ⟨hyC, hd⟩ hR) ⟨Pr.fb, k_recv hK hP0 hq he, fun U hU hW => ⟨rfl, (X U hU hW).1, (X U hU hW).2, by rw [hU]; exact hP⟩⟩ rfl hn hsize hst (lv_room hW) hdg hf)) (fun r hr => by rw [hr]; exact kk)
theorem k_rqS (F : CallFix p m c cc nL s args GW own) (hM : Rq l G y bytes maxL ret d wc As rq) (h1 : Cond.methodLink own index y ∈ GW) (h2 : Cond.static y ∈ GW) (h3 : Cond.initialized y.cls ∈ GW) (h4 : Cond.code y bytes maxL ret ∈ GW) (hd : hdY y n) (hR : d + 1 ≤ R.frames ∧ 8 + (maxL + 11) + 40 * d ≤ R.locals)
    (X : Rd G s H) (hP : va_P G.1 vwCl wc H) (hn : As.length = n) (hsize : ls.size = nL) (hst : st = As.reverse ++ rest) (hW : (rest.map fun v => v.category).sum ≤ 8) (hdg : decode cc pc = .ok (.invokestatic index, 3)) (hf : cells ≤ R.cells ∧ slots ≤ R.slots)
    (kk : W p l e R s m args below meth c H locs cells slots Q (F0 m (pc + 3) ls (va_rf rq :: rest))) : W p l e R s m args below meth c H locs cells slots Q (F0 m pc ls st) :=
  va_csq (va_Run.run (va_runS F hM (va_cwS n F.2.2.2.2 (gw_s h1 h2 h3 h4) rfl rfl rfl hd hR) ⟨Pr.fb, fun U hU hW => ⟨rfl, (X U hU hW).1, (X U hU hW).2, by rw [hU]; exact hP⟩⟩ rfl hn hsize hst (lv_room hW) hdg hf)) (fun r hr => by rw [hr]; exact kk)
theorem k_rqV (F : CallFix p m c cc nL s args GW own) (hM : Rq l G y bytes maxL ret d wc (.ref b :: As) rq) (hK : Kx G s) (hP0 : va_P G.1 vwCl ws H) (hc : ∃ q, vwCl[ci]? = some q ∧ q.1 = C) (he : ws[q0]? = some (b, .inr (ci, fs))) (hyC : y.cls = C) (h1 : Cond.methodLink own index y ∈ GW) (h2 : Cond.instanceMethod y ∈ GW) (h3 : Cond.selects C y y ∈ GW) (h4 : Cond.initialized C ∈ GW) (h5 : Cond.code y bytes maxL ret ∈ GW) (hd : hdY y n) (hR : d + 1 ≤ R.frames ∧ 8 + (maxL + 11) + 40 * d ≤ R.locals)
    (X : Rd G s H) (hP : va_P G.1 vwCl wc H) (hn : As.length = n) (hsize : ls.size = nL) (hst : st = As.reverse ++ .ref b :: rest) (hW : (rest.map fun v => v.category).sum ≤ 8) (hdg : decode cc pc = .ok (.invokevirtual index, 3)) (hf : cells ≤ R.cells ∧ slots ≤ R.slots)
    (kk : W p l e R s m args below meth c H locs cells slots Q (F0 m (pc + 3) ls (va_rf rq :: rest))) : W p l e R s m args below meth c H locs cells slots Q (F0 m pc ls st) := by
  obtain ⟨q, hq, rfl⟩ := hc
  exact va_csq (va_Run.run (va_runV F hM (cwV n F.2.2.2.2 (gw_v h1 h2 h3 h4 h5) rfl rfl rfl ⟨hyC, hd⟩ hR) ⟨Pr.fb, k_recv hK hP0 hq he, fun U hU hW => ⟨rfl, (X U hU hW).1, (X U hU hW).2, by rw [hU]; exact hP⟩⟩ rfl hn hsize hst (lv_room hW) hdg hf)) (fun r hr => by rw [hr]; exact kk)
theorem k_pw (hK : Kx G s) (hZ : Zs A s) (hS : va_S A s.heap H locs) (hP : va_P G.1 vwCl ws H) (hD : va_D A ws) (hA : ∀ q, s.heap.size ≤ q → A q) (isC : List Nat) (hC : isC.map (fun i => ws[i]?) = wc.map some) (hnC : va_nd isC = true) (U : State) (hU : U.heap = H) (hW : s.WarmedH U.vm) : Pw G H.size wc U :=
  ⟨by rw [hU], hK.warm hW, hZ.to hS hU hW (va_free hD hS hA isC hC), by
    rw [hU]
    intro k q hk
    have h1 : (isC.map (fun i => ws[i]?))[k]? = some (some q) := by rw [hC, List.getElem?_map, hk]; rfl
    rw [List.getElem?_map] at h1
    cases hi : isC[k]? with
    | none => rw [hi] at h1; cases h1
    | some i => rw [hi] at h1; exact hP i q (Option.some.inj h1), (hD.sub isC hnC hC).weaken (fun _ _ _ _ => trivial)⟩
theorem k_join {H1 : Heap} (hP : va_P G.1 vwCl ws H) (hD : va_D A ws) (isC isR : List Nat) (hC : isC.map (fun i => ws[i]?) = wc.map some) (hR : isR.map (fun i => ws[i]?) = wr.map some) (hnC : va_nd isC = true) (hnR : va_nd isR = true) (hdis : ∀ i ∈ isR, i ∉ isC) (hF : ∀ q, va_A wc H.size q → A q) (hk : ∀ q : Nat, q < H.size → ¬ va_A wc H.size q → H1[q]? = H[q]?) (hB : va_P G.1 vwCl wc' H1) (hadr : wc'.map (·.1) = wc.map (·.1)) : va_P G.1 vwCl (wr ++ wc') H1 ∧ va_D A (wr ++ wc') :=
  va_join hP hD isC isR hC hR hnR hdis hk hF hB ((hD.sub isC hnC hC).self.adr hadr)
abbrev Kk (p : Program) (l : Launch) (e : Env) (R : Room) (s : State) (m : MethodId) (args : Array Value) (below : List Frame) (meth : Method) (c : Code) (cells slots : Nat) (Q : State → Prop) (G : gT) (A : Nat → Prop) (w : va_W) (g : JFrame) : Prop := ∀ (H1 : Heap) (locs1 : List Loc), va_P G.1 vwCl w H1 → va_D A w → va_S A s.heap H1 locs1 → W p l e R s m args below meth c H1 locs1 cells slots Q g
theorem k_rwS (F : CallFix p m c cc nL s args GW own) (hM : Rw l G y bytes maxL ret d H.size wc As res wc') (h1 : Cond.methodLink own index y ∈ GW) (h2 : Cond.static y ∈ GW) (h3 : Cond.initialized y.cls ∈ GW) (h4 : Cond.code y bytes maxL ret ∈ GW) (hd : hdY y n) (hR : d + 1 ≤ R.frames ∧ 8 + (maxL + 11) + 40 * d ≤ R.locals)
    (hK : Kx G s) (hZ : Zs A s) (hS : va_S A s.heap H locs) (hP : va_P G.1 vwCl ws H) (hD : va_D A ws) (hA : ∀ q, s.heap.size ≤ q → A q) (isC isR : List Nat) (hC : isC.map (fun i => ws[i]?) = wc.map some) (hRr : isR.map (fun i => ws[i]?) = wr.map some) (hnC : va_nd isC = true) (hnR : va_nd isR = true) (hdis : ∀ i ∈ isR, i ∉ isC) (hadr : wc'.map (·.1) = wc.map (·.1))
    (hn : As.length = n) (hsize : ls.size = nL) (hst : st = As.reverse ++ rest) (hW : (rest.map fun v => v.category).sum ≤ 8) (hdg : decode cc pc = .ok (.invokestatic index, 3)) (hf : cells ≤ R.cells ∧ slots ≤ R.slots)
    (kk : Kk p l e R s m args below meth c cells slots Q G A (wr ++ wc') (F0 m (pc + 3) ls (.int res :: rest))) : W p l e R s m args below meth c H locs cells slots Q (F0 m pc ls st) := by
  have hFc := va_free hD hS hA isC hC
  refine va_calli (va_runS F hM (va_cwS n F.2.2.2.2 (gw_s h1 h2 h3 h4) rfl rfl rfl hd hR) ⟨Pw.fb, fun U hU hW => ⟨rfl, k_pw hK hZ hS hP hD hA isC hC hnC U hU hW⟩⟩ rfl hn hsize hst (lv_room hW) hdg hf) hS (fun q _ h => hFc q h) hFc (fun r u t H1 locs1 ht hvm hw hB hz hk hS1 => ?_)
  rw [ht] at hB
  obtain ⟨hP1, hD1⟩ := k_join hP hD isC isR hC hRr hnC hnR hdis hFc hk hB hadr
  rw [hw]
  exact kk H1 locs1 hP1 hD1 hS1
theorem k_rvS (F : CallFix p m c cc nL s args GW own) (hM : Rv l G y bytes maxL ret d H.size wc As wc') (h1 : Cond.methodLink own index y ∈ GW) (h2 : Cond.static y ∈ GW) (h3 : Cond.initialized y.cls ∈ GW) (h4 : Cond.code y bytes maxL ret ∈ GW) (hd : hdY y n) (hR : d + 1 ≤ R.frames ∧ 8 + (maxL + 11) + 40 * d ≤ R.locals)
    (hK : Kx G s) (hZ : Zs A s) (hS : va_S A s.heap H locs) (hP : va_P G.1 vwCl ws H) (hD : va_D A ws) (hA : ∀ q, s.heap.size ≤ q → A q) (isC isR : List Nat) (hC : isC.map (fun i => ws[i]?) = wc.map some) (hRr : isR.map (fun i => ws[i]?) = wr.map some) (hnC : va_nd isC = true) (hnR : va_nd isR = true) (hdis : ∀ i ∈ isR, i ∉ isC) (hadr : wc'.map (·.1) = wc.map (·.1))
    (hn : As.length = n) (hsize : ls.size = nL) (hst : st = As.reverse ++ rest) (hW : (rest.map fun v => v.category).sum ≤ 8) (hdg : decode cc pc = .ok (.invokestatic index, 3)) (hf : cells ≤ R.cells ∧ slots ≤ R.slots)
    (kk : Kk p l e R s m args below meth c cells slots Q G A (wr ++ wc') (F0 m (pc + 3) ls rest)) : W p l e R s m args below meth c H locs cells slots Q (F0 m pc ls st) := by
  have hFc := va_free hD hS hA isC hC
  refine va_callv (va_runS F hM (va_cwS n F.2.2.2.2 (gw_s h1 h2 h3 h4) rfl rfl rfl hd hR) ⟨Pw.fb, fun U hU hW => ⟨rfl, k_pw hK hZ hS hP hD hA isC hC hnC U hU hW⟩⟩ rfl hn hsize hst (lv_room hW) hdg hf) hS (fun q _ h => hFc q h) hFc (fun u t H1 locs1 ht hvm hw hB hz hk hS1 => ?_)
  rw [ht] at hB
  obtain ⟨hP1, hD1⟩ := k_join hP hD isC isR hC hRr hnC hnR hdis hFc hk hB hadr
  exact kk H1 locs1 hP1 hD1 hS1
theorem k_rwV (F : CallFix p m c cc nL s args GW own) (hM : Rw l G y bytes maxL ret d H.size wc (.ref b :: As) res wc') (hc : ∃ q, vwCl[ci]? = some q ∧ q.1 = C) (he : ws[q0]? = some (b, .inr (ci, fs))) (hyC : y.cls = C) (h1 : Cond.methodLink own index y ∈ GW) (h2 : Cond.instanceMethod y ∈ GW) (h3 : Cond.selects C y y ∈ GW) (h4 : Cond.initialized C ∈ GW) (h5 : Cond.code y bytes maxL ret ∈ GW) (hd : hdY y n) (hR : d + 1 ≤ R.frames ∧ 8 + (maxL + 11) + 40 * d ≤ R.locals)
    (hK : Kx G s) (hZ : Zs A s) (hS : va_S A s.heap H locs) (hP : va_P G.1 vwCl ws H) (hD : va_D A ws) (hA : ∀ q, s.heap.size ≤ q → A q) (isC isR : List Nat) (hC : isC.map (fun i => ws[i]?) = wc.map some) (hRr : isR.map (fun i => ws[i]?) = wr.map some) (hnC : va_nd isC = true) (hnR : va_nd isR = true) (hdis : ∀ i ∈ isR, i ∉ isC) (hadr : wc'.map (·.1) = wc.map (·.1))
    (hn : As.length = n) (hsize : ls.size = nL) (hst : st = As.reverse ++ .ref b :: rest) (hW : (rest.map fun v => v.category).sum ≤ 8) (hdg : decode cc pc = .ok (.invokevirtual index, 3)) (hf : cells ≤ R.cells ∧ slots ≤ R.slots)
    (kk : Kk p l e R s m args below meth c cells slots Q G A (wr ++ wc') (F0 m (pc + 3) ls (.int res :: rest))) : W p l e R s m args below meth c H locs cells slots Q (F0 m pc ls st) := by
  have hFc := va_free hD hS hA isC hC
  obtain ⟨q, hq, rfl⟩ := hc
  refine va_calli (va_runV F hM (cwV n F.2.2.2.2 (gw_v h1 h2 h3 h4 h5) rfl rfl rfl ⟨hyC, hd⟩ hR) ⟨Pw.fb, k_recv hK hP hq he, fun U hU hW => ⟨rfl, k_pw hK hZ hS hP hD hA isC hC hnC U hU hW⟩⟩ rfl hn hsize hst (lv_room hW) hdg hf) hS (fun q _ h => hFc q h) hFc (fun r u t H1 locs1 ht hvm hw hB hz hk hS1 => ?_)
  rw [ht] at hB
  obtain ⟨hP1, hD1⟩ := k_join hP hD isC isR hC hRr hnC hnR hdis hFc hk hB hadr
  rw [hw]
  exact kk H1 locs1 hP1 hD1 hS1
theorem k_rvV (F : CallFix p m c cc nL s args GW own) (hM : Rv l G y bytes maxL ret d H.size wc (.ref b :: As) wc') (hc : ∃ q, vwCl[ci]? = some q ∧ q.1 = C) (he : ws[q0]? = some (b, .inr (ci, fs))) (hyC : y.cls = C) (h1 : Cond.methodLink own index y ∈ GW) (h2 : Cond.instanceMethod y ∈ GW) (h3 : Cond.selects C y y ∈ GW) (h4 : Cond.initialized C ∈ GW) (h5 : Cond.code y bytes maxL ret ∈ GW) (hd : hdY y n) (hR : d + 1 ≤ R.frames ∧ 8 + (maxL + 11) + 40 * d ≤ R.locals)
    (hK : Kx G s) (hZ : Zs A s) (hS : va_S A s.heap H locs) (hP : va_P G.1 vwCl ws H) (hD : va_D A ws) (hA : ∀ q, s.heap.size ≤ q → A q) (isC isR : List Nat) (hC : isC.map (fun i => ws[i]?) = wc.map some) (hRr : isR.map (fun i => ws[i]?) = wr.map some) (hnC : va_nd isC = true) (hnR : va_nd isR = true) (hdis : ∀ i ∈ isR, i ∉ isC) (hadr : wc'.map (·.1) = wc.map (·.1))
    (hn : As.length = n) (hsize : ls.size = nL) (hst : st = As.reverse ++ .ref b :: rest) (hW : (rest.map fun v => v.category).sum ≤ 8) (hdg : decode cc pc = .ok (.invokevirtual index, 3)) (hf : cells ≤ R.cells ∧ slots ≤ R.slots)
    (kk : Kk p l e R s m args below meth c cells slots Q G A (wr ++ wc') (F0 m (pc + 3) ls rest)) : W p l e R s m args below meth c H locs cells slots Q (F0 m pc ls st) := by
  have hFc := va_free hD hS hA isC hC
  obtain ⟨q, hq, rfl⟩ := hc
  refine va_callv (va_runV F hM (cwV n F.2.2.2.2 (gw_v h1 h2 h3 h4 h5) rfl rfl rfl ⟨hyC, hd⟩ hR) ⟨Pw.fb, k_recv hK hP hq he, fun U hU hW => ⟨rfl, k_pw hK hZ hS hP hD hA isC hC hnC U hU hW⟩⟩ rfl hn hsize hst (lv_room hW) hdg hf) hS (fun q _ h => hFc q h) hFc (fun u t H1 locs1 ht hvm hw hB hz hk hS1 => ?_)
  rw [ht] at hB
  obtain ⟨hP1, hD1⟩ := k_join hP hD isC isR hC hRr hnC hnR hdis hFc hk hB hadr
  exact kk H1 locs1 hP1 hD1 hS1
end CALLS
/-! ===== a method's begin and end ===== -/
theorem nz_0 : narrow .boolean (.int (nI 0)) = .int (nI 0) := by decide
theorem nz_1 : narrow .boolean (.int (nI 1)) = .int (nI 1) := by decide
theorem nz_p (P : Prop) : narrow .boolean (.int (pI P)) = .int (pI P) := by
  rcases pI_cases P with h | h <;> rw [h] <;> decide
theorem l64 {x : Int32} {X : Int} (h : x.toInt = X) : x.toInt64.toInt = X := by rw [Int32.toInt_toInt64]; exact h
section MK
variable {l : Launch} {y : MethodName} {bytes : ByteArray} {maxL d sz : Nat} {ret : Option FieldType} {G : gT} {ws ws' : va_W} {As : List Value} {res : Int32} {rq : Option Nat}
theorem Met.mk0 {Pc : State → Prop} {Qc : Array Value → State → Outcome → State → Prop} {free : Addr → Prop} (hy : plainName y.cls = true) (hlen : (lg_sl As).length ≤ maxL)
    (body : ∀ (p : Program) (e : Env) (s : State) (m : MethodId) (below : List Frame) (meth : Method) (c : Code) (ls : Array Slot), meth.sig.returnType = ret → meth.locks = false → CallFix p m c bytes maxL s As.toArray GW y.cls → Pc s → lv_has ls maxL (lv_args 0 As) → W p l e (rmL d) s m As.toArray below meth c s.heap [] 0 0 (MQ below Qc As.toArray s 0 0 free) (F0 m 0 ls [])) :
    Met l y (Cond.code y bytes maxL ret :: GW) (rmL d) (va_Pc As Pc) Qc 0 0 free := by
  refine Met.ofW (cc := bytes) (maxL := maxL) (ret := ret) hy rfl ?_
  intro p e s m args below meth c s₁ B hml hv
  obtain ⟨rfl, hv⟩ := hv
  have hts := atoms_spec (ws := Cond.code y bytes maxL ret :: GW) B.pre
  have hl := lv_entry As (n := maxL) hlen
  rw [lg_entry_eq]
  exact body p e s m below meth c _ B.returns B.notSynchronized ⟨B.exec, B.bytes, hml, findClass_of_methodNamed B.named, fun w h => hts w (List.mem_cons_of_mem _ h)⟩ hv hl
theorem Ro.mk (hy : plainName y.cls = true) (hlen : (lg_sl As).length ≤ maxL)
    (body : ∀ (p : Program) (e : Env) (s : State) (m : MethodId) (below : List Frame) (meth : Method) (c : Code) (ls : Array Slot), meth.sig.returnType = ret → meth.locks = false → CallFix p m c bytes maxL s As.toArray GW y.cls → Kx G s → Zs (fun _ => False) s → va_P G.1 vwCl ws s.heap → lv_has ls maxL (lv_args 0 As) → W p l e (rmL d) s m As.toArray below meth c s.heap [] 0 0 (MQ below (vp_Si (fun r => r = res)) As.toArray s 0 0 (fun _ => False)) (F0 m 0 ls [])) :
    Ro l G y bytes maxL ret d ws As res := Met.mk0 hy hlen (fun p e s m below meth c ls h1 h2 h3 h4 h5 => body p e s m below meth c ls h1 h2 h3 h4.1 h4.2.1 h4.2.2 h5)
theorem Rq.mk (hy : plainName y.cls = true) (hlen : (lg_sl As).length ≤ maxL)
    (body : ∀ (p : Program) (e : Env) (s : State) (m : MethodId) (below : List Frame) (meth : Method) (c : Code) (ls : Array Slot), meth.sig.returnType = ret → meth.locks = false → CallFix p m c bytes maxL s As.toArray GW y.cls → Kx G s → Zs (fun _ => False) s → va_P G.1 vwCl ws s.heap → lv_has ls maxL (lv_args 0 As) → W p l e (rmL d) s m As.toArray below meth c s.heap [] 0 0 (MQ below (va_Sq (fun r => r = rq)) As.toArray s 0 0 (fun _ => False)) (F0 m 0 ls [])) :
    Rq l G y bytes maxL ret d ws As rq := Met.mk0 hy hlen (fun p e s m below meth c ls h1 h2 h3 h4 h5 => body p e s m below meth c ls h1 h2 h3 h4.1 h4.2.1 h4.2.2 h5)
theorem Rw.mk (hy : plainName y.cls = true) (hlen : (lg_sl As).length ≤ maxL)
    (body : ∀ (p : Program) (e : Env) (s : State) (m : MethodId) (below : List Frame) (meth : Method) (c : Code) (ls : Array Slot) (A : Nat → Prop), meth.sig.returnType = ret → meth.locks = false → CallFix p m c bytes maxL s As.toArray GW y.cls → Kx G s → Zs A s → (∀ q, s.heap.size ≤ q → A q) → va_P G.1 vwCl ws s.heap → va_D A ws → va_S A s.heap s.heap [] → lv_has ls maxL (lv_args 0 As) → W p l e (rmL d) s m As.toArray below meth c s.heap [] 0 0 (MQ below (va_Qi (fun r (_ : Unit) => r = res) (fun _ t => va_P G.1 vwCl ws' t.heap) A) As.toArray s 0 0 A) (F0 m 0 ls [])) :
    Rw l G y bytes maxL ret d sz ws As res ws' := Met.mk0 hy hlen (fun p e s m below meth c ls h1 h2 h3 h4 h5 => by
      obtain ⟨rfl, hK, hZ, hP, hD⟩ := h4
      exact body p e s m below meth c ls _ h1 h2 h3 hK hZ (fun q h => Or.inr h) hP hD.self va_S.rf h5)
theorem Rv.mk (hy : plainName y.cls = true) (hlen : (lg_sl As).length ≤ maxL)
    (body : ∀ (p : Program) (e : Env) (s : State) (m : MethodId) (below : List Frame) (meth : Method) (c : Code) (ls : Array Slot) (A : Nat → Prop), meth.sig.returnType = ret → meth.locks = false → CallFix p m c bytes maxL s As.toArray GW y.cls → Kx G s → Zs A s → (∀ q, s.heap.size ≤ q → A q) → va_P G.1 vwCl ws s.heap → va_D A ws → va_S A s.heap s.heap [] → lv_has ls maxL (lv_args 0 As) → W p l e (rmL d) s m As.toArray below meth c s.heap [] 0 0 (MQ below (va_Qv (fun (_ : Unit) => True) (fun _ t => va_P G.1 vwCl ws' t.heap) A) As.toArray s 0 0 A) (F0 m 0 ls [])) :
    Rv l G y bytes maxL ret d sz ws As ws' := Met.mk0 hy hlen (fun p e s m below meth c ls h1 h2 h3 h4 h5 => by
      obtain ⟨rfl, hK, hZ, hP, hD⟩ := h4
      exact body p e s m below meth c ls _ h1 h2 h3 hK hZ (fun q h => Or.inr h) hP hD.self va_S.rf h5)
end MK
section EN
variable {p : Program} {l : Launch} {e : Env} {R : Room} {s : State} {m : MethodId} {args : Array Value} {below : List Frame} {meth : Method} {c : Code} {H : Heap} {locs : List Loc}
variable {pc : Nat} {ls : Array Slot} {cc : ByteArray} {G : gT} {ws ws' : va_W} {res v : Int32} {rq rv : Option Nat} {A : Nat → Prop} {ty : FieldType}
theorem e_ri (hx : p.tables.exec = Jvm.exec) (hb : c.code = cc) (hr : meth.sig.returnType = some .int) (hlk : meth.locks = false) (hv : v = res) (hdg : decode cc pc = .ok (.ireturn, 1)) : W p l e R s m args below meth c s.heap [] 0 0 (MQ below (vp_Si (fun r => r = res)) args s 0 0 (fun _ => False)) (F0 m pc ls [.int v]) :=
  W.iret hx hb hr (fun t ht hW => ⟨v, rfl, hv, ht⟩) (fun q h => by cases h) hdg hlk
theorem e_rz (hx : p.tables.exec = Jvm.exec) (hb : c.code = cc) (hr : meth.sig.returnType = some ty) (hlk : meth.locks = false) (hn : narrow ty (.int v) = .int v) (hv : v = res) (hdg : decode cc pc = .ok (.ireturn, 1)) : W p l e R s m args below meth c s.heap [] 0 0 (MQ below (vp_Si (fun r => r = res)) args s 0 0 (fun _ => False)) (F0 m pc ls [.int v]) :=
  W.zret hx hb hr hn (fun t ht hW => ⟨v, rfl, hv, ht⟩) (fun q h => by cases h) hdg hlk
theorem e_rq {rt : String} (hx : p.tables.exec = Jvm.exec) (hb : c.code = cc) (hr : meth.sig.returnType = some (.object rt)) (hlk : meth.locks = false) {w : Value} (hw : w = va_rf rv) (hv : rv = rq) (hdg : decode cc pc = .ok (.areturn, 1)) : W p l e R s m args below meth c s.heap [] 0 0 (MQ below (va_Sq (fun r => r = rq)) args s 0 0 (fun _ => False)) (F0 m pc ls [w]) :=
  W.aret hx hb hr (Or.inl ⟨rt, rfl⟩) (by subst hw; cases rv with | none => exact Or.inl rfl | some a => exact Or.inr ⟨a, rfl⟩) (fun t ht hW => ⟨rv, by rw [hw], hv, ht⟩) (fun q h => by cases h) hdg hlk
theorem e_wi (hx : p.tables.exec = Jvm.exec) (hb : c.code = cc) (hr : meth.sig.returnType = some .int) (hlk : meth.locks = false) (hP : va_P G.1 vwCl ws' H) (hS : va_S A s.heap H locs) (hv : v = res) (hdg : decode cc pc = .ok (.ireturn, 1)) : W p l e R s m args below meth c H locs 0 0 (MQ below (va_Qi (fun r (_ : Unit) => r = res) (fun _ t => va_P G.1 vwCl ws' t.heap) A) args s 0 0 A) (F0 m pc ls [.int v]) :=
  W.iret hx hb hr (fun t ht hW => ⟨⟨v, (), rfl, hv, by subst ht; exact hP⟩, hS.F ht⟩) hS.2.2 hdg hlk
theorem e_wz (hx : p.tables.exec = Jvm.exec) (hb : c.code = cc) (hr : meth.sig.returnType = some ty) (hlk : meth.locks = false) (hn : narrow ty (.int v) = .int v) (hP : va_P G.1 vwCl ws' H) (hS : va_S A s.heap H locs) (hv : v = res) (hdg : decode cc pc = .ok (.ireturn, 1)) : W p l e R s m args below meth c H locs 0 0 (MQ below (va_Qi (fun r (_ : Unit) => r = res) (fun _ t => va_P G.1 vwCl ws' t.heap) A) args s 0 0 A) (F0 m pc ls [.int v]) :=
  W.zret hx hb hr hn (fun t ht hW => ⟨⟨v, (), rfl, hv, by subst ht; exact hP⟩, hS.F ht⟩) hS.2.2 hdg hlk
theorem e_wv (hx : p.tables.exec = Jvm.exec) (hb : c.code = cc) (hr : meth.sig.returnType = none) (hlk : meth.locks = false) (hP : va_P G.1 vwCl ws' H) (hS : va_S A s.heap H locs) (hdg : decode cc pc = .ok (.return_, 1)) : W p l e R s m args below meth c H locs 0 0 (MQ below (va_Qv (fun (_ : Unit) => True) (fun _ t => va_P G.1 vwCl ws' t.heap) A) args s 0 0 A) (F0 m pc ls []) :=
  W.vret hx hb hr (fun t ht hW => ⟨⟨(), rfl, trivial, by subst ht; exact hP⟩, hS.F ht⟩) hS.2.2 hdg hlk
end EN
section LC
variable {p : Program} {l : Launch} {e : Env} {R : Room} {s : State} {m : MethodId} {args : Array Value} {below : List Frame} {meth : Method} {c : Code} {H : Heap} {locs : List Loc} {cells slots : Nat} {Q : State → Prop}
variable {pc : Nat} {ls : Array Slot} {rest : List Value} {cc : ByteArray} {x y : Int64} {X Y : Int}
theorem lc_lt (hX : x.toInt = X) (hY : y.toInt = Y) : (lg_cmp x y).toInt < 0 ↔ X < Y := by
  unfold lg_cmp
  have h1 : x > y ↔ Y < X := by rw [gt_iff_lt, Int64.lt_iff_toInt_lt, hX, hY]
  have h2 : x = y ↔ X = Y := by rw [← Int64.toInt_inj, hX, hY]
  by_cases q : x > y
  · rw [if_pos q]; have := h1.mp q; exact ⟨fun z => absurd z (by decide), fun z => by omega⟩
  · rw [if_neg q]
    by_cases q2 : x = y
    · rw [if_pos q2]; have := h2.mp q2; exact ⟨fun z => absurd z (by decide), fun z => by omega⟩
    · rw [if_neg q2]; have a1 : ¬ Y < X := fun z => q (h1.mpr z); have a2 : ¬ X = Y := fun z => q2 (h2.mpr z); exact ⟨fun _ => by omega, fun _ => by decide⟩
theorem lc_gt (hX : x.toInt = X) (hY : y.toInt = Y) : 0 < (lg_cmp x y).toInt ↔ Y < X := by
  unfold lg_cmp
  have h1 : x > y ↔ Y < X := by rw [gt_iff_lt, Int64.lt_iff_toInt_lt, hX, hY]
  have h2 : x = y ↔ X = Y := by rw [← Int64.toInt_inj, hX, hY]
  by_cases q : x > y
  · rw [if_pos q]; have := h1.mp q; exact ⟨fun z => by omega, fun z => by decide⟩
  · rw [if_neg q]
    have a1 : ¬ Y < X := fun z => q (h1.mpr z)
    by_cases q2 : x = y
    · rw [if_pos q2]; exact ⟨fun z => absurd z (by decide), fun z => absurd z a1⟩
    · rw [if_neg q2]; exact ⟨fun z => absurd z (by decide), fun z => absurd z a1⟩
theorem zc_lt (hx : p.tables.exec = Jvm.exec) (hb : c.code = cc) {off : Int} {tgt : Nat} (hdg : decode cc pc = .ok (.ifCond .lt off, 3)) (ht : (pc : Int) + off = (tgt : Int)) (hX : x.toInt = X) (hY : y.toInt = Y)
    (kt : X < Y → W p l e R s m args below meth c H locs cells slots Q (F0 m tgt ls rest)) (kf : Y ≤ X → W p l e R s m args below meth c H locs cells slots Q (F0 m (pc + 3) ls rest)) : W p l e R s m args below meth c H locs cells slots Q (F0 m pc ls (.int (lg_cmp x y) :: rest)) :=
  z0_lt hx hb _ hdg ht rfl (fun h => kt ((lc_lt hX hY).mp h)) (fun h => kf (by have := mt (lc_lt hX hY).mpr (Int.not_lt.mpr h); omega))
theorem zc_gt (hx : p.tables.exec = Jvm.exec) (hb : c.code = cc) {off : Int} {tgt : Nat} (hdg : decode cc pc = .ok (.ifCond .gt off, 3)) (ht : (pc : Int) + off = (tgt : Int)) (hX : x.toInt = X) (hY : y.toInt = Y)
    (kt : Y < X → W p l e R s m args below meth c H locs cells slots Q (F0 m tgt ls rest)) (kf : X ≤ Y → W p l e R s m args below meth c H locs cells slots Q (F0 m (pc + 3) ls rest)) : W p l e R s m args below meth c H locs cells slots Q (F0 m pc ls (.int (lg_cmp x y) :: rest)) :=
  z0_gt hx hb _ hdg ht rfl (fun h => kt ((lc_gt hX hY).mp h)) (fun h => kf (by have := mt (lc_gt hX hY).mpr (Int.not_lt.mpr h); omega))
theorem zc_eq (hx : p.tables.exec = Jvm.exec) (hb : c.code = cc) {off : Int} {tgt : Nat} (hdg : decode cc pc = .ok (.ifCond .eq off, 3)) (ht : (pc : Int) + off = (tgt : Int)) (hX : x.toInt = X) (hY : y.toInt = Y)
    (kt : X = Y → W p l e R s m args below meth c H locs cells slots Q (F0 m tgt ls rest)) (kf : ¬ X = Y → W p l e R s m args below meth c H locs cells slots Q (F0 m (pc + 3) ls rest)) : W p l e R s m args below meth c H locs cells slots Q (F0 m pc ls (.int (lg_cmp x y) :: rest)) := by
  have hl := lc_lt hX hY
  have hg := lc_gt hX hY
  exact z0_eq hx hb _ hdg ht rfl (fun h => kt (by
    rcases Int.lt_trichotomy X Y with q | q | q
    · exact absurd (hl.mpr q) (by omega)
    · exact q
    · exact absurd (hg.mpr q) (by omega))) (fun h => kf (fun q => by
    rcases Int.lt_trichotomy (lg_cmp x y).toInt 0 with z | z | z
    · have := hl.mp z; omega
    · exact h z
    · have := hg.mp z; omega))
end LC
theorem nI_dec {n : Nat} (h : 1 ≤ n) : nI n + Int32.ofInt (-1) = nI (n - 1) := by
  obtain ⟨k, rfl⟩ : ∃ k, n = k + 1 := ⟨n - 1, by omega⟩
  exact pk_m1 k
end
section
/-! ===== the pure picture: bits, the calendar, a diary as a row of numbers (r k: the cell k of the reference's row) ===== -/
noncomputable def cI {α : Type} (P : Prop) (a b : α) : α := @ite α P (Classical.propDecidable P) a b
theorem cI_t {α : Type} {P : Prop} {a b : α} (h : P) : cI P a b = a := @if_pos _ (Classical.propDecidable P) h _ _ _
theorem cI_f {α : Type} {P : Prop} {a b : α} (h : ¬ P) : cI P a b = b := @if_neg _ (Classical.propDecidable P) h _ _ _
theorem cI_c {α : Type} {P P' : Prop} {a b a' b' : α} (h : P ↔ P') (ha : a = a') (hb : b = b') : cI P a b = cI P' a' b' := by rw [propext h, ha, hb]
theorem pI_cI (P : Prop) : pI P = cI P 1 0 := rfl
/-- bits of an int (rows of kit/laws/BITS) -/
def bt (x : Int32) (i : Nat) : Bool := x.toBitVec.getLsbD i
theorem b_ext {x y : Int32} (h : ∀ i, i < 32 → bt x i = bt y i) : x = y := Int32.toBitVec_inj.mp (BitVec.eq_of_getLsbD_eq (fun i hi => h i hi))
theorem b_or (x y : Int32) (i : Nat) : bt (x ||| y) i = (bt x i || bt y i) := by unfold bt; rw [Int32.toBitVec_or, BitVec.getLsbD_or]
theorem b_and (x y : Int32) (i : Nat) : bt (x &&& y) i = (bt x i && bt y i) := by unfold bt; rw [Int32.toBitVec_and, BitVec.getLsbD_and]
theorem b_xor (x y : Int32) (i : Nat) : bt (x ^^^ y) i = (bt x i ^^ bt y i) := by unfold bt; rw [Int32.toBitVec_xor, BitVec.getLsbD_xor]
theorem b_big {x : Int32} {i : Nat} (h : 32 ≤ i) : bt x i = false := BitVec.getLsbD_of_ge _ _ h
theorem b_m1 : ∀ i, i < 32 → bt (-1) i = true := by decide +kernel
theorem b_0 (i : Nat) : bt 0 i = false := BitVec.getLsbD_zero
theorem b_1 : ∀ i, i < 32 → bt (nI 1) i = decide (i = 0) := by decide +kernel
theorem s_l : ∀ n, n < 32 → ((nI n &&& 31).toBitVec.smod 32).toNat = n := by decide +kernel
theorem s_u : ∀ n, n < 32 → (((nI n).toUInt32 &&& Int32.toUInt32 31).toBitVec % 32).toNat = n := by decide +kernel
theorem b_shl (n : Nat) (hn : n < 32) (x : Int32) {i : Nat} (hi : i < 32) : bt (x <<< (nI n &&& 31)) i = (decide (n ≤ i) && bt x (i - n)) := by
  unfold bt
  rw [Int32.toBitVec_shiftLeft]
  show (x.toBitVec <<< ((nI n &&& 31).toBitVec.smod 32).toNat).getLsbD i = _
  rw [s_l n hn, BitVec.getLsbD_shiftLeft]
  rcases Nat.lt_or_ge i n with h | h
  · simp [h, Nat.not_le.mpr h]
  · simp [hi, h, Nat.not_lt.mpr h]
theorem b_ushr (n : Nat) (hn : n < 32) (x : Int32) (i : Nat) : bt ((x.toUInt32 >>> ((nI n).toUInt32 &&& Int32.toUInt32 31)).toInt32) i = bt x (n + i) := by
  show (x.toUInt32 >>> ((nI n).toUInt32 &&& Int32.toUInt32 31)).toBitVec.getLsbD i = x.toUInt32.toBitVec.getLsbD (n + i)
  rw [UInt32.toBitVec_shiftRight]
  show (x.toUInt32.toBitVec >>> (((nI n).toUInt32 &&& Int32.toUInt32 31).toBitVec % 32).toNat).getLsbD i = _
  rw [s_u n hn, BitVec.getLsbD_ushiftRight]
theorem b_sshr (n : Nat) (hn : n < 32) (x : Int32) {i : Nat} (hi : i < 32) : bt (x >>> (nI n &&& 31)) i = if n + i < 32 then bt x (n + i) else bt x 31 := by
  unfold bt
  rw [Int32.toBitVec_shiftRight]
  show (x.toBitVec.sshiftRight ((nI n &&& 31).toBitVec.smod 32).toNat).getLsbD i = _
  rw [s_l n hn, BitVec.getLsbD_sshiftRight, BitVec.msb_eq_getLsbD_last]
  simp [hi]
def bn (x : Int32) (k : Nat) : Nat := (bt x k).toNat
theorem bn_le (x : Int32) (k : Nat) : bn x k ≤ 1 := by unfold bn; cases bt x k <;> decide
theorem bn_1 {x : Int32} {k : Nat} : bn x k = 1 ↔ bt x k = true := by unfold bn; cases bt x k <;> decide
theorem b_n {b : Bool} : ∀ i, i < 32 → bt (nI b.toNat) i = (decide (i = 0) && b) := by
  cases b
  · exact (by decide +kernel : ∀ i, i < 32 → bt (nI 0) i = (decide (i = 0) && false))
  · exact (by decide +kernel : ∀ i, i < 32 → bt (nI 1) i = (decide (i = 0) && true))
theorem b_sra {x : Int32} {k : Nat} (h : k < 32) : (x >>> (nI k &&& 31)) &&& nI 1 = nI (bn x k) := by
  refine b_ext (fun i hi => ?_)
  rw [b_and, b_1 i hi, bn, b_n i hi]
  rcases Nat.eq_zero_or_pos i with rfl | h0
  · rw [b_sshr k h x hi, if_pos (by omega)]; simp
  · simp [Nat.ne_of_gt h0]
theorem b_srl {x : Int32} {k : Nat} (h : k < 32) : ((x.toUInt32 >>> ((nI k).toUInt32 &&& Int32.toUInt32 31)).toInt32) &&& nI 1 = nI (bn x k) := by
  refine b_ext (fun i hi => ?_)
  rw [b_and, b_1 i hi, bn, b_n i hi, b_ushr k h x i]
  rcases Nat.eq_zero_or_pos i with rfl | h0
  · simp
  · simp [Nat.ne_of_gt h0]
/-- how many of the lowest bits are set -/
def pcn (x : Int32) : Nat → Nat
  | 0 => 0
  | k + 1 => pcn x k + bn x k
theorem pcn_le (x : Int32) : ∀ k, pcn x k ≤ k
  | 0 => Nat.le_refl 0
  | k + 1 => by have h := pcn_le x k; have h2 := bn_le x k; show pcn x k + bn x k ≤ k + 1; omega
abbrev ons (x : Int32) : Nat := pcn x 31
theorem ons_le (x : Int32) : ons x ≤ 31 := pcn_le x 31
/-! the calendar -/
def fdy (m : Nat) : Nat := m / 12 * 365 + mst (m % 12)
def dys (m : Nat) : Nat := mst (m % 12 + 1) - mst (m % 12)
def moy (e : Nat) : Nat := if e < 31 then 0 else if e < 59 then 1 else if e < 90 then 2 else if e < 120 then 3 else if e < 151 then 4 else if e < 181 then 5 else if e < 212 then 6 else if e < 243 then 7 else if e < 273 then 8 else if e < 304 then 9 else if e < 334 then 10 else 11
def mot (d : Nat) : Nat := d / 365 * 12 + moy (d % 365)
theorem mst_row : ∀ r, r < 12 → mst r < mst (r + 1) ∧ mst (r + 1) - mst r ≤ 31 ∧ 28 ≤ mst (r + 1) - mst r ∧ mst (r + 1) ≤ 365 := by decide +kernel
theorem moy_row : ∀ e, e < 365 → moy e < 12 ∧ mst (moy e) ≤ e ∧ e < mst (moy e + 1) := by decide +kernel
theorem mst_mono : ∀ a, a < 13 → ∀ b, b < 13 → a ≤ b → mst a ≤ mst b := by decide +kernel
theorem dys_in (m : Nat) : 28 ≤ dys m ∧ dys m ≤ 31 := by
  have h := mst_row (m % 12) (Nat.mod_lt _ (by decide))
  exact ⟨h.2.2.1, h.2.1⟩
theorem fdy_succ (m : Nat) : fdy (m + 1) = fdy m + dys m := by
  have h := mst_row (m % 12) (Nat.mod_lt _ (by decide))
  unfold fdy dys
  rcases Nat.lt_or_ge (m % 12 + 1) 12 with h1 | h1
  · rw [show (m + 1) / 12 = m / 12 by omega, show (m + 1) % 12 = m % 12 + 1 by omega]; omega
  · rw [show (m + 1) / 12 = m / 12 + 1 by omega, show (m + 1) % 12 = 0 by omega, show m % 12 = 11 by omega]
    show (m / 12 + 1) * 365 + 0 = m / 12 * 365 + 334 + 31
    omega
theorem fdy_mono {a b : Nat} (h : a ≤ b) : fdy a ≤ fdy b := by
  induction h with
  | refl => exact Nat.le_refl _
  | step _ ih => rw [fdy_succ]; omega
theorem fdy_lt {m : Nat} (h : m ≤ 120) : fdy m ≤ 3650 := fdy_mono (b := 120) h
theorem fdy_lt' {m : Nat} (h : m < 120) : fdy m + dys m ≤ 3650 := by rw [← fdy_succ]; exact fdy_lt h
theorem mot_row {d : Nat} (h : d < 3650) : mot d < 120 ∧ fdy (mot d) ≤ d ∧ d < fdy (mot d + 1) := by
  have h1 := moy_row (d % 365) (Nat.mod_lt _ (by decide))
  have h2 := mst_row (moy (d % 365)) h1.1
  rw [fdy_succ]
  unfold mot fdy dys
  rw [show (d / 365 * 12 + moy (d % 365)) / 12 = d / 365 by omega, show (d / 365 * 12 + moy (d % 365)) % 12 = moy (d % 365) by omega]
  omega
theorem mot_lo {d m : Nat} (h : d < 3650) (h2 : m ≤ mot d) : fdy m ≤ d := Nat.le_trans (fdy_mono h2) (mot_row h).2.1
theorem mot_hi {d m : Nat} (h : d < 3650) (h2 : mot d < m) : d < fdy m := Nat.lt_of_lt_of_le (mot_row h).2.2 (fdy_mono h2)
theorem mot_le {d m : Nat} (h : d < 3650) (h2 : fdy m ≤ d) : m ≤ mot d := by
  rcases Nat.lt_or_ge (mot d) m with h3 | h3
  · have := mot_hi h h3; omega
  · exact h3
theorem mot_ge {d m : Nat} (h : d < 3650) (h2 : d < fdy (m + 1)) : mot d ≤ m := by
  rcases Nat.lt_or_ge m (mot d) with h3 | h3
  · have := mot_lo h (show m + 1 ≤ mot d from h3); omega
  · exact h3
theorem mot_mono {a b : Nat} (hb : b < 3650) (h : a ≤ b) : mot a ≤ mot b := mot_le hb (Nat.le_trans (mot_row (by omega)).2.1 h)
theorem mot_12 {d : Nat} (h : d < 3650) : d / 365 * 12 ≤ mot d := by unfold mot; omega
/-- the days of a month that are meant, day by day -/
noncomputable def mtk (m f t : Nat) : Nat → Int32
  | 0 => 0
  | k + 1 => mtk m f t k ||| cI (f ≤ fdy m + k ∧ fdy m + k ≤ t) (nI 1 <<< (nI k &&& 31)) (nI 0)
noncomputable abbrev mnt (m f t : Nat) : Int32 := mtk m f t (dys m)
theorem mtk_t {m f t k : Nat} (h : f ≤ fdy m + k ∧ fdy m + k ≤ t) : mtk m f t k ||| (nI 1 <<< (nI k &&& 31)) = mtk m f t (k + 1) := by
  show _ = mtk m f t k ||| cI _ _ _
  rw [cI_t h]
theorem mtk_f {m f t k : Nat} (h : ¬ (f ≤ fdy m + k ∧ fdy m + k ≤ t)) : mtk m f t k ||| nI 0 = mtk m f t (k + 1) := by
  show _ = mtk m f t k ||| cI _ _ _
  rw [cI_f h]
theorem b_one (k : Nat) (hk : k < 32) {i : Nat} (hi : i < 32) : bt (nI 1 <<< (nI k &&& 31)) i = decide (i = k) := by
  rw [b_shl k hk _ hi, b_1 _ (by omega)]
  by_cases h : i = k
  · subst h; simp
  · simp only [h, decide_false, Bool.and_eq_false_iff, decide_eq_false_iff_not]; omega
theorem b_mtk (m f t : Nat) : ∀ (k : Nat), k ≤ 31 → ∀ i, i < 32 → bt (mtk m f t k) i = decide (i < k ∧ f ≤ fdy m + i ∧ fdy m + i ≤ t)
  | 0, _, i, _ => by rw [show mtk m f t 0 = 0 from rfl, b_0]; simp
  | k + 1, hk, i, hi => by
    show bt (mtk m f t k ||| cI _ _ _) i = _
    rw [b_or, b_mtk m f t k (by omega) i hi]
    by_cases h : f ≤ fdy m + k ∧ fdy m + k ≤ t
    · rw [cI_t h, b_one k (by omega) hi]
      by_cases e : i = k
      · subst e; simp [h]
      · by_cases h1 : i < k
        · simp [e, h1, Nat.lt_succ_of_lt h1]
        · simp [e, h1, show ¬ i < k + 1 by omega]
    · rw [cI_f h, show nI 0 = 0 from rfl, b_0]
      by_cases e : i = k
      · subst e; simp [h]
      · by_cases h1 : i < k
        · simp [h1, Nat.lt_succ_of_lt h1]
        · simp [h1, show ¬ i < k + 1 by omega]
theorem b_mnt (m f t : Nat) {i : Nat} (hi : i < 32) : bt (mnt m f t) i = decide (i < dys m ∧ f ≤ fdy m + i ∧ fdy m + i ≤ t) := b_mtk m f t (dys m) (dys_in m).2 i hi
/-! what is read of a diary's row -/
def mIk (r : Nat → Int32) (m : Nat) : Nat → Nat
  | 0 => 0
  | s + 1 => mIk r m s + ons (r (255 + 16 * m + s))
abbrev mIn (r : Nat → Int32) (m : Nat) : Nat := mIk r m 16
theorem mIk_le (r : Nat → Int32) (m : Nat) : ∀ k, mIk r m k ≤ 31 * k
  | 0 => Nat.le_refl 0
  | k + 1 => by have h := mIk_le r m k; have h2 := ons_le (r (255 + 16 * m + k)); show mIk r m k + ons _ ≤ _; omega
def rnk (r : Nat → Int32) (m : Nat) : Nat → Nat
  | 0 => 0
  | s + 1 => rnk r m s + ons (r (255 + 16 * m + s) &&& (((r (255 + 16 * m + s)) <<< (nI 1 &&& 31)) ^^^ (-1)))
abbrev rns (r : Nat → Int32) (m : Nat) : Nat := rnk r m 16
theorem rnk_le (r : Nat → Int32) (m : Nat) : ∀ k, rnk r m k ≤ 31 * k
  | 0 => Nat.le_refl 0
  | k + 1 => by have h := rnk_le r m k; have h2 := ons_le (r (255 + 16 * m + k) &&& (((r (255 + 16 * m + k)) <<< (nI 1 &&& 31)) ^^^ (-1))); show rnk r m k + ons _ ≤ _; omega
def alk (r : Nat → Int32) (m o k : Nat) : Prop := ∀ s, s < k → r (255 + 16 * m + s) = r (255 + 16 * o + s)
theorem alk_0 (r : Nat → Int32) (m o : Nat) : alk r m o 0 := fun s h => absurd h (Nat.not_lt_zero s)
theorem alk_s {r : Nat → Int32} {m o k : Nat} (h : alk r m o k) (e : r (255 + 16 * m + k) = r (255 + 16 * o + k)) : alk r m o (k + 1) := by
  intro s hs
  rcases Nat.lt_or_ge s k with h1 | h1
  · exact h s h1
  · rw [show s = k by omega]; exact e
theorem alk_n {r : Nat → Int32} {m o k n : Nat} (h : ¬ alk r m o k) (hk : k ≤ n) : ¬ alk r m o n := fun z => h (fun s hs => z s (by omega))
def tOk (r : Nat → Int32) (m : Nat) (but : Int) (o : Nat) : Prop := ((o : Int) ≠ but ∧ 0 < (r (15 + o)).toInt ∧ (r (15 + o)).toInt ≠ 2) ∧ alk r m o 16
noncomputable def twf (r : Nat → Int32) (m : Nat) (but : Int) : Nat → Nat → Int32
  | 0, _ => -6
  | n + 1, o => cI (tOk r m but o) (nI o) (twf r m but n (o + 1))
noncomputable abbrev tw (r : Nat → Int32) (m : Nat) (but : Int) : Int32 := twf r m but m 0
theorem twf_t {r : Nat → Int32} {m k : Nat} {but : Int} (hk : k < m) (h : tOk r m but k) : twf r m but (m - k) k = nI k := by
  rw [show m - k = (m - (k + 1)) + 1 by omega]; exact cI_t h
theorem twf_f {r : Nat → Int32} {m k : Nat} {but : Int} (hk : k < m) (h : ¬ tOk r m but k) : twf r m but (m - k) k = twf r m but (m - (k + 1)) (k + 1) := by
  rw [show m - k = (m - (k + 1)) + 1 by omega]; exact cI_f h
theorem twf_e {r : Nat → Int32} {m k : Nat} {but : Int} (hk : m ≤ k) : twf r m but (m - k) k = -6 := by
  rw [show m - k = 0 by omega]; rfl
theorem twf_in (r : Nat → Int32) (m : Nat) (but : Int) : ∀ n o, twf r m but n o = -6 ∨ ∃ j, j < o + n ∧ twf r m but n o = nI j
  | 0, o => Or.inl rfl
  | n + 1, o => by
    by_cases h : tOk r m but o
    · exact Or.inr ⟨o, by omega, cI_t h⟩
    · show cI _ _ _ = _ ∨ ∃ j, _ ∧ cI _ _ _ = _
      rw [cI_f h]
      rcases twf_in r m but n (o + 1) with h1 | ⟨j, h1, h2⟩
      · exact Or.inl h1
      · exact Or.inr ⟨j, by omega, h2⟩
theorem tw_in (r : Nat → Int32) (m : Nat) (but : Int) : tw r m but = -6 ∨ ∃ j, j < m ∧ tw r m but = nI j := by
  have := twf_in r m but m 0; rwa [Nat.zero_add] at this
/-- the size in a form -/
noncomputable def siz (r : Nat → Int32) (m : Nat) (but : Int) (f : Int) : Int32 :=
  if f = 0 then (if mIn r m = 0 then nI 0 else -6) else if f = 1 then (if tw r m but = -6 then -6 else nI 1) else if f = 2 then nI (1 + rns r m) else if f = 3 then nI (1 + (mIn r m + 2) / 3) else nI 16
noncomputable def szo (r : Nat → Int32) (m : Nat) : Int32 :=
  if (r (15 + m) - nI 1).toInt < 0 then nI 16 else if (r (15 + m) - nI 1).toInt = 1 then nI 1 else siz r m (-6) (r (15 + m) - nI 1).toInt
/-- today, keep as numbers -/
def oldP (r : Nat → Int32) (m : Nat) : Prop := (nI m + r 1).toInt ≤ (mot (r 0).toNatClampNeg : Int)
end
section
/-! ===== what writes a diary's row ===== -/
theorem nI_ne6 {n : Nat} (h : n < 2147483648) : ¬ nI n = -6 := fun z => by
  have h2 := congrArg Int32.toInt z
  rw [toI h, show (-6 : Int32).toInt = -6 from by decide] at h2
  omega
abbrev ny (r : Nat → Int32) : Nat := (r 6).toNatClampNeg
abbrev td (r : Nat → Int32) : Nat := (r 0).toNatClampNeg
abbrev kpn (r : Nat → Int32) : Nat := (r 1).toNatClampNeg
abbrev opn (r : Nat → Int32) : Nat := (r 2).toNatClampNeg
theorem upd_s {f : Nat → Int32} {k : Nat} {x : Int32} : upd f k x k = x := by simp [upd]
theorem upd_n {f : Nat → Int32} {k j : Nat} {x : Int32} (h : j ≠ k) : upd f k x j = f j := by simp [upd, h]
/-- the row of unfolded months holds months -/
def Rx (r : Nat → Int32) (c : Nat) : Prop := ∀ i, i < c → ∃ m, m < 120 ∧ r (7 + i) = nI m
/-- the numbers of a diary's head are in their ranges -/
def Bs (r : Nat → Int32) (n : Nat) : Prop := r 0 = nI (td r) ∧ td r < 3650 ∧ r 1 = nI (kpn r) ∧ kpn r ≤ 12 ∧ r 2 = nI (opn r) ∧ opn r ≤ 6 ∧ r 6 = nI (ny r) ∧ ny r ≤ n ∧ Rx r (ny r)
theorem Bs.mono {r : Nat → Int32} {n k : Nat} (h : Bs r n) (hk : n ≤ k) : Bs r k := by
  obtain ⟨a, b, c, d, e, f, g, i, j⟩ := h
  exact ⟨a, b, c, d, e, f, g, Nat.le_trans i hk, j⟩
/-- a row with the same head -/
theorem Bs.same {r r' : Nat → Int32} {n : Nat} (h : Bs r n) (e0 : r' 0 = r 0) (e1 : r' 1 = r 1) (e2 : r' 2 = r 2) (e6 : r' 6 = r 6) (e7 : ∀ i, i < ny r → r' (7 + i) = r (7 + i)) : Bs r' n := by
  obtain ⟨a, b, c, d, e, f, g, i, j⟩ := h
  unfold Bs
  rw [show td r' = td r by unfold td; rw [e0], show kpn r' = kpn r by unfold kpn; rw [e1], show opn r' = opn r by unfold opn; rw [e2], show ny r' = ny r by unfold ny; rw [e6], e0, e1, e2, e6]
  refine ⟨a, b, c, d, e, f, g, i, fun k hk => ?_⟩
  rw [e7 k hk]
  exact j k hk
/-! fold -/
def fof : Nat → Int32
  | 0 => 3 | 1 => 2 | 2 => 1 | 3 => 0 | _ => -1
theorem fof_s : ∀ k, k < 4 → fof k + (-1) = fof (k + 1) := by decide +kernel
theorem fof_n : ∀ k, k < 4 → fof k = nI (3 - k) := by decide +kernel
theorem fof_i {k : Nat} (h : k ≤ 4) : (fof k).toInt = 3 - (k : Int) := by
  match k, h with
  | 0, _ => rfl
  | 1, _ => rfl
  | 2, _ => rfl
  | 3, _ => rfl
  | 4, _ => rfl
noncomputable def bsj (r : Nat → Int32) (m : Nat) (B : Int) : Nat → Nat
  | 0 => 4
  | k + 1 => cI (siz r m B (3 - (k : Int)) ≠ -6 ∧ (siz r m B (3 - (k : Int))).toInt ≤ (siz r m B ((bsj r m B k : Nat) : Int)).toInt) (3 - k) (bsj r m B k)
theorem bsj_t {r : Nat → Int32} {m k : Nat} {B : Int} (h : siz r m B (3 - (k : Int)) ≠ -6 ∧ (siz r m B (3 - (k : Int))).toInt ≤ (siz r m B ((bsj r m B k : Nat) : Int)).toInt) : bsj r m B (k + 1) = 3 - k := cI_t h
theorem bsj_f {r : Nat → Int32} {m k : Nat} {B : Int} (h : ¬ (siz r m B (3 - (k : Int)) ≠ -6 ∧ (siz r m B (3 - (k : Int))).toInt ≤ (siz r m B ((bsj r m B k : Nat) : Int)).toInt)) : bsj r m B (k + 1) = bsj r m B k := cI_f h
theorem bsj_le (r : Nat → Int32) (m : Nat) (B : Int) : ∀ k, bsj r m B k ≤ 4
  | 0 => Nat.le_refl 4
  | k + 1 => by
    by_cases h : siz r m B (3 - (k : Int)) ≠ -6 ∧ (siz r m B (3 - (k : Int))).toInt ≤ (siz r m B ((bsj r m B k : Nat) : Int)).toInt
    · rw [bsj_t h]; omega
    · rw [bsj_f h]; exact bsj_le r m B k
noncomputable abbrev bst (r : Nat → Int32) (m : Nat) (B : Int) : Nat := bsj r m B 4
noncomputable def fl1 (r : Nat → Int32) (m : Nat) (B : Int) : Nat → Int32 := upd r (135 + m) (cI (bst r m B = 1) (tw r m B) (nI 0))
noncomputable def fl2 (r : Nat → Int32) (m : Nat) (B : Int) : Nat → Int32 := upd (fl1 r m B) (15 + m) (nI (bst r m B + 1))
noncomputable def fl3 (r : Nat → Int32) (m : Nat) (B : Int) : Nat → Int32 := upd (fl2 r m B) 3 (fl2 r m B 3 + szo (fl2 r m B) m)
noncomputable def fld (r : Nat → Int32) (m : Nat) (B : Int) : Nat → Int32 := upd (fl3 r m B) 5 (fl3 r m B 5 + nI 1)
theorem fld_o {r : Nat → Int32} {m j : Nat} {B : Int} (h1 : j ≠ 135 + m) (h2 : j ≠ 15 + m) (h3 : j ≠ 3) (h4 : j ≠ 5) : fld r m B j = r j := by
  unfold fld fl3 fl2 fl1
  rw [upd_n h4, upd_n h3, upd_n h2, upd_n h1]
theorem Bs_fld {r : Nat → Int32} {m n : Nat} {B : Int} (h : Bs r n) (hn : n ≤ 8) : Bs (fld r m B) n :=
  h.same (fld_o (by omega) (by omega) (by omega) (by omega)) (fld_o (by omega) (by omega) (by omega) (by omega)) (fld_o (by omega) (by omega) (by omega) (by omega)) (fld_o (by omega) (by omega) (by omega) (by omega)) (fun i hi => by
    have := h.2.2.2.2.2.2.2.1
    exact fld_o (by omega) (by omega) (by omega) (by omega))
/-! the row of unfolded months -/
def plf (r : Nat → Int32) (m : Nat) : Nat → Nat → Int32
  | 0, _ => -6
  | n + 1, o => if (r (7 + o)).toInt = (m : Int) then nI o else plf r m n (o + 1)
abbrev plo (r : Nat → Int32) (m : Nat) : Int32 := plf r m (ny r) 0
theorem plf_t {r : Nat → Int32} {m c k : Nat} (hk : k < c) (h : (r (7 + k)).toInt = (m : Int)) : plf r m (c - k) k = nI k := by
  rw [show c - k = (c - (k + 1)) + 1 by omega]; exact if_pos h
theorem plf_f {r : Nat → Int32} {m c k : Nat} (hk : k < c) (h : ¬ (r (7 + k)).toInt = (m : Int)) : plf r m (c - k) k = plf r m (c - (k + 1)) (k + 1) := by
  rw [show c - k = (c - (k + 1)) + 1 by omega]; exact if_neg h
theorem plf_e {r : Nat → Int32} {m c k : Nat} (hk : c ≤ k) : plf r m (c - k) k = -6 := by
  rw [show c - k = 0 by omega]; rfl
theorem plf_in (r : Nat → Int32) (m : Nat) : ∀ n o, plf r m n o = -6 ∨ ∃ j, o ≤ j ∧ j < o + n ∧ plf r m n o = nI j ∧ (r (7 + j)).toInt = (m : Int)
  | 0, o => Or.inl rfl
  | n + 1, o => by
    by_cases h : (r (7 + o)).toInt = (m : Int)
    · exact Or.inr ⟨o, Nat.le_refl _, by omega, if_pos h, h⟩
    · have e : plf r m (n + 1) o = plf r m n (o + 1) := if_neg h
      rw [e]
      rcases plf_in r m n (o + 1) with h1 | ⟨j, h0, h1, h2, h3⟩
      · exact Or.inl h1
      · exact Or.inr ⟨j, by omega, by omega, h2, h3⟩
theorem plo_in (r : Nat → Int32) (m : Nat) : plo r m = -6 ∨ ∃ j, j < ny r ∧ plo r m = nI j ∧ (r (7 + j)).toInt = (m : Int) := by
  rcases plf_in r m (ny r) 0 with h | ⟨j, _, h1, h2, h3⟩
  · exact Or.inl h
  · exact Or.inr ⟨j, by omega, h2, h3⟩
def tkk (r : Nat → Int32) (k i : Nat) : Nat → Int32 := fun j => if j = 6 then nI (ny r - 1) else if 7 + k ≤ j ∧ j < 7 + i then r (j + 1) else r j
abbrev tko (r : Nat → Int32) (k : Nat) : Nat → Int32 := tkk r k (ny r - 1)
theorem tkk_6 {r : Nat → Int32} {k i : Nat} : tkk r k i 6 = nI (ny r - 1) := rfl
theorem tkk_o {r : Nat → Int32} {k i j : Nat} (h6 : j ≠ 6) (h : j < 7 + k ∨ 7 + i ≤ j) : tkk r k i j = r j := by
  unfold tkk
  rw [if_neg h6, if_neg (by omega)]
theorem tkk_i {r : Nat → Int32} {k i j : Nat} (h : 7 + k ≤ j) (h2 : j < 7 + i) : tkk r k i j = r (j + 1) := by
  unfold tkk
  rw [if_neg (by omega), if_pos ⟨h, h2⟩]
theorem tkk_0 {r : Nat → Int32} {k : Nat} : upd r 6 (nI (ny r - 1)) = tkk r k k := by
  funext j
  unfold tkk upd
  by_cases h : j = 6
  · rw [if_pos h, if_pos h]
  · rw [if_neg h, if_neg h, if_neg (by omega)]
theorem tkk_s {r : Nat → Int32} {k i : Nat} (h : k ≤ i) : upd (tkk r k i) (7 + i) (tkk r k i (7 + i + 1)) = tkk r k (i + 1) := by
  funext j
  by_cases e : j = 7 + i
  · subst e
    rw [upd_s, tkk_o (by omega) (by omega), tkk_i (by omega) (by omega)]
  · rw [upd_n e]
    by_cases h6 : j = 6
    · subst h6; rfl
    · by_cases q : 7 + k ≤ j ∧ j < 7 + i
      · rw [tkk_i q.1 q.2, tkk_i q.1 (by omega)]
      · rw [tkk_o h6 (by omega), tkk_o h6 (by omega)]
theorem tko_o {r : Nat → Int32} {k j : Nat} (h6 : j ≠ 6) (h : j < 7 + k ∨ 7 + (ny r - 1) ≤ j) : tko r k j = r j := tkk_o h6 h
theorem tko_i {r : Nat → Int32} {k j : Nat} (h : 7 + k ≤ j) (h2 : j < 7 + (ny r - 1)) : tko r k j = r (j + 1) := tkk_i h h2
theorem tko_6 {r : Nat → Int32} {k : Nat} : tko r k 6 = nI (ny r - 1) := rfl
theorem ny_tko {r : Nat → Int32} {k : Nat} (h : ny r ≤ 8) : ny (tko r k) = ny r - 1 := by
  show (nI (ny r - 1)).toNatClampNeg = ny r - 1
  exact nI_clamp (by omega)
theorem Bs_tko {r : Nat → Int32} {k n : Nat} (h : Bs r n) (hn : n ≤ 8) (hk : k < ny r) : Bs (tko r k) (n - 1) := by
  obtain ⟨a, b, c, d, e, f, g, i, j⟩ := h
  have e0 : tko r k 0 = r 0 := tko_o (by omega) (by omega)
  have e1 : tko r k 1 = r 1 := tkk_o (by omega) (by omega)
  have e2 : tko r k 2 = r 2 := tkk_o (by omega) (by omega)
  have e6 := ny_tko (r := r) (k := k) (by omega)
  unfold Bs
  rw [show td (tko r k) = td r by unfold td; rw [e0], show kpn (tko r k) = kpn r by unfold kpn; rw [e1], show opn (tko r k) = opn r by unfold opn; rw [e2], e6, e0, e1, e2]
  refine ⟨a, b, c, d, e, f, rfl, by omega, fun q hq => ?_⟩
  rcases Nat.lt_or_ge q k with h1 | h1
  · rw [tko_o (by omega) (by omega)]; exact j q (by omega)
  · rw [tko_i (by omega) (by omega)]; exact j (q + 1) (by omega)
/-! folding again -/
noncomputable def fgs (r : Nat → Int32) : Nat → Int32 := fld (tko r 0) (r 7).toNatClampNeg (-6)
noncomputable def fgk (r : Nat → Int32) : Nat → Nat → Int32
  | 0 => r
  | j + 1 => fgs (fgk r j)
noncomputable abbrev fga (r : Nat → Int32) : Nat → Int32 := fgk r (ny r - opn r)
theorem Bs_fgs {r : Nat → Int32} {n : Nat} (h : Bs r n) (hn : n ≤ 8) (hc : 0 < ny r) : Bs (fgs r) (n - 1) ∧ ny (fgs r) = ny r - 1 ∧ opn (fgs r) = opn r := by
  have h8 := h.2.2.2.2.2.2.2.1
  refine ⟨Bs_fld (Bs_tko h hn hc) (by omega), ?_, ?_⟩
  · unfold fgs; rw [show ny (fld (tko r 0) (r 7).toNatClampNeg (-6)) = ny (tko r 0) by unfold ny; rw [fld_o (by omega) (by omega) (by omega) (by omega)]]
    exact ny_tko (by omega)
  · unfold fgs opn; rw [fld_o (by omega) (by omega) (by omega) (by omega), tko_o (by omega) (by omega)]
theorem Bs_fgk {r : Nat → Int32} {n : Nat} (h : Bs r n) (hn : n ≤ 8) : ∀ j, j ≤ ny r → Bs (fgk r j) (n - j) ∧ ny (fgk r j) = ny r - j ∧ opn (fgk r j) = opn r
  | 0, _ => ⟨h, rfl, rfl⟩
  | j + 1, hj => by
    obtain ⟨h1, h2, h3⟩ := Bs_fgk h hn j (by omega)
    obtain ⟨g1, g2, g3⟩ := Bs_fgs h1 (by omega) (by omega)
    exact ⟨g1.mono (by omega), by rw [show fgk r (j + 1) = fgs (fgk r j) from rfl, g2, h2]; omega, by rw [show fgk r (j + 1) = fgs (fgk r j) from rfl, g3, h3]⟩
theorem Bs_fga {r : Nat → Int32} (h : Bs r 8) : Bs (fga r) 6 ∧ ny (fga r) ≤ opn (fga r) ∧ opn (fga r) = opn r := by
  obtain ⟨h1, h2, h3⟩ := Bs_fgk h (Nat.le_refl 8) (ny r - opn r) (by omega)
  have ho := h.2.2.2.2.2.1
  have hb := h1.2.2.2.2.2.1
  refine ⟨?_, by rw [h2, h3]; omega, h3⟩
  obtain ⟨a, b, c, d, e, f, g, i, j⟩ := h1
  exact ⟨a, b, c, d, e, f, g, by rw [h2]; omega, j⟩
/-! unfold, to the end, look -/
noncomputable def uf1 (r : Nat → Int32) (m : Nat) : Nat → Int32 := upd r 3 (r 3 + szo r m)
noncomputable def uf2 (r : Nat → Int32) (m : Nat) : Nat → Int32 := upd (uf1 r m) 4 (uf1 r m 4 + nI 1)
noncomputable def ufd (r : Nat → Int32) (m : Nat) : Nat → Int32 := upd (uf2 r m) (15 + m) (nI 0)
theorem ufd_o {r : Nat → Int32} {m j : Nat} (h1 : j ≠ 15 + m) (h2 : j ≠ 3) (h3 : j ≠ 4) : ufd r m j = r j := by
  unfold ufd uf2 uf1
  rw [upd_n h1, upd_n h3, upd_n h2]
theorem Bs_ufd {r : Nat → Int32} {m n : Nat} (h : Bs r n) (hn : n ≤ 8) : Bs (ufd r m) n :=
  h.same (ufd_o (by omega) (by omega) (by omega)) (ufd_o (by omega) (by omega) (by omega)) (ufd_o (by omega) (by omega) (by omega)) (ufd_o (by omega) (by omega) (by omega)) (fun i hi => by
    have := h.2.2.2.2.2.2.2.1
    exact ufd_o (by omega) (by omega) (by omega))
noncomputable def te1 (r : Nat → Int32) (m : Nat) : Nat → Int32 := cI (plo r m = -6) r (tko r (plo r m).toNatClampNeg)
noncomputable def ten (r : Nat → Int32) (m : Nat) : Nat → Int32 := upd (upd (te1 r m) (7 + ny (te1 r m)) (nI m)) 6 (nI (ny (te1 r m) + 1))
theorem Bs_te1 {r : Nat → Int32} {m n : Nat} (h : Bs r n) (hn : n ≤ 8) : Bs (te1 r m) n := by
  unfold te1
  rcases plo_in r m with e | ⟨j, hj, e, _⟩
  · rw [cI_t e]; exact h
  · have h8 := h.2.2.2.2.2.2.2.1
    rw [cI_f (by rw [e]; exact nI_ne6 (by omega)), e, nI_clamp (by omega)]
    exact (Bs_tko h hn hj).mono (by omega)
theorem ny_ten {r : Nat → Int32} {m n : Nat} (h : Bs r n) (hn : n ≤ 8) : ny (ten r m) = ny (te1 r m) + 1 := by
  have h8 := (Bs_te1 (m := m) h hn).2.2.2.2.2.2.2.1
  show (upd _ 6 _ 6).toNatClampNeg = _
  rw [upd_s, nI_clamp (by omega)]
theorem ten_o {r : Nat → Int32} {m j : Nat} (h6 : j ≠ 6) (h7 : j ≠ 7 + ny (te1 r m)) : ten r m j = te1 r m j := by
  unfold ten
  rw [upd_n h6, upd_n h7]
theorem Bs_ten {r : Nat → Int32} {m n : Nat} (h : Bs r n) (hn : n ≤ 7) (hm : m < 120) : Bs (ten r m) (n + 1) := by
  have h1 := Bs_te1 (m := m) h (by omega)
  have h2 := ny_ten (m := m) h (by omega)
  obtain ⟨a, b, c, d, e, f, g, i, j⟩ := h1
  have e0 : ten r m 0 = te1 r m 0 := ten_o (by omega) (by omega)
  have e1 : ten r m 1 = te1 r m 1 := ten_o (by omega) (by omega)
  have e2 : ten r m 2 = te1 r m 2 := ten_o (by omega) (by omega)
  have e6 : ten r m 6 = nI (ny (te1 r m) + 1) := by unfold ten; exact upd_s
  unfold Bs
  rw [show td (ten r m) = td (te1 r m) by unfold td; rw [e0], show kpn (ten r m) = kpn (te1 r m) by unfold kpn; rw [e1], show opn (ten r m) = opn (te1 r m) by unfold opn; rw [e2], h2, e0, e1, e2]
  refine ⟨a, b, c, d, e, f, e6, by omega, fun q hq => ?_⟩
  by_cases z : q = ny (te1 r m)
  · subst z
    refine ⟨m, hm, ?_⟩
    unfold ten
    rw [upd_n (by omega), upd_s]
  · rw [ten_o (by omega) (by omega)]; exact j q (by omega)
noncomputable def lk1 (r : Nat → Int32) (m : Nat) : Nat → Int32 := cI (0 < (r (15 + m)).toInt) (ufd r m) r
noncomputable def lok (r : Nat → Int32) (m : Nat) : Nat → Int32 := cI (m + kpn r ≤ mot (td r) ∧ ¬ (r (15 + m)).toInt = 1) (fga (ten (lk1 r m) m)) r
theorem Bs_lk1 {r : Nat → Int32} {m n : Nat} (h : Bs r n) (hn : n ≤ 8) : Bs (lk1 r m) n := by
  by_cases q : 0 < (r (15 + m)).toInt
  · unfold lk1; rw [cI_t q]; exact Bs_ufd h hn
  · unfold lk1; rw [cI_f q]; exact h
theorem Bs_lok {r : Nat → Int32} {m : Nat} (h : Bs r 7) (hm : m < 120) (hr : ny r ≤ opn r) : Bs (lok r m) 6 ∧ ny (lok r m) ≤ opn (lok r m) := by
  unfold lok
  by_cases q : m + kpn r ≤ mot (td r) ∧ ¬ (r (15 + m)).toInt = 1
  · rw [cI_t q]
    have := Bs_fga (Bs_ten (m := m) (Bs_lk1 (m := m) h (by omega)) (Nat.le_refl 7) hm)
    exact ⟨this.1, this.2.1⟩
  · rw [cI_f q]
    obtain ⟨a, b, c, d, e, f, g, i, j⟩ := h
    exact ⟨⟨a, b, c, d, e, f, g, by omega, j⟩, hr⟩
/-! laying marks -/
noncomputable def lnk (r : Nat → Int32) (m : Nat) : Nat → Nat → Int32
  | 0 => r
  | o + 1 => cI ((lnk r m o (15 + o)).toInt = 2 ∧ (lnk r m o (135 + o)).toInt = (m : Int)) (fld (lnk r m o) o (m : Int)) (lnk r m o)
theorem lnk_t {r : Nat → Int32} {m o : Nat} (h : (lnk r m o (15 + o)).toInt = 2 ∧ (lnk r m o (135 + o)).toInt = (m : Int)) : fld (lnk r m o) o (m : Int) = lnk r m (o + 1) := (cI_t h).symm
theorem lnk_f {r : Nat → Int32} {m o : Nat} (h : ¬ ((lnk r m o (15 + o)).toInt = 2 ∧ (lnk r m o (135 + o)).toInt = (m : Int))) : lnk r m o = lnk r m (o + 1) := (cI_f h).symm
theorem Bs_lnk {r : Nat → Int32} {m n : Nat} (h : Bs r n) (hn : n ≤ 8) : ∀ o, Bs (lnk r m o) n
  | 0 => h
  | o + 1 => by
    by_cases q : (lnk r m o (15 + o)).toInt = 2 ∧ (lnk r m o (135 + o)).toInt = (m : Int)
    · rw [← lnk_t q]; exact Bs_fld (Bs_lnk h hn o) hn
    · rw [← lnk_f q]; exact Bs_lnk h hn o
noncomputable def ly1 (r : Nat → Int32) (m : Nat) : Nat → Int32 := cI (m + kpn r ≤ mot (td r)) (lnk r m 120) r
noncomputable def ly2 (r : Nat → Int32) (m : Nat) : Nat → Int32 := cI (m + kpn r ≤ mot (td r) ∧ 0 < (ly1 r m (15 + m)).toInt) (ufd (ly1 r m) m) (ly1 r m)
noncomputable def lyv (r : Nat → Int32) (s m : Nat) (x : Int32) (P : Prop) : Int32 := cI P (ly2 r m (255 + 16 * m + s) ||| x) (ly2 r m (255 + 16 * m + s) &&& (x ^^^ (-1)))
noncomputable def ly3 (r : Nat → Int32) (s m : Nat) (x : Int32) (P : Prop) : Nat → Int32 := upd (ly2 r m) (255 + 16 * m + s) (lyv r s m x P)
noncomputable def lay (r : Nat → Int32) (s m : Nat) (x : Int32) (P : Prop) : Nat → Int32 := cI (m + kpn r ≤ mot (td r)) (fga (ten (ly3 r s m x P) m)) (ly3 r s m x P)
theorem Bs_ly1 {r : Nat → Int32} {m n : Nat} (h : Bs r n) (hn : n ≤ 8) : Bs (ly1 r m) n := by
  unfold ly1
  by_cases q : m + kpn r ≤ mot (td r)
  · rw [cI_t q]; exact Bs_lnk h hn 120
  · rw [cI_f q]; exact h
theorem Bs_ly2 {r : Nat → Int32} {m n : Nat} (h : Bs r n) (hn : n ≤ 8) : Bs (ly2 r m) n := by
  unfold ly2
  by_cases q : m + kpn r ≤ mot (td r) ∧ 0 < (ly1 r m (15 + m)).toInt
  · rw [cI_t q]; exact Bs_ufd (Bs_ly1 h hn) hn
  · rw [cI_f q]; exact Bs_ly1 h hn
theorem Bs_ly3 {r : Nat → Int32} {s m n : Nat} {x : Int32} {P : Prop} (h : Bs r n) (hn : n ≤ 8) : Bs (ly3 r s m x P) n := by
  have h2 := Bs_ly2 (m := m) h hn
  exact h2.same (upd_n (by omega)) (upd_n (by omega)) (upd_n (by omega)) (upd_n (by omega)) (fun i hi => upd_n (by have := h2.2.2.2.2.2.2.2.1; omega))
end
section
theorem hd_X4_in : hdY yX4_in 3 := ⟨by decide +kernel, by decide +kernel, by decide +kernel⟩
theorem hd_X4_isDay : hdY yX4_isDay 1 := ⟨by decide +kernel, by decide +kernel, by decide +kernel⟩
theorem hd_X4_isSubject : hdY yX4_isSubject 1 := ⟨by decide +kernel, by decide +kernel, by decide +kernel⟩
theorem hd_X4_isMonth : hdY yX4_isMonth 1 := ⟨by decide +kernel, by decide +kernel, by decide +kernel⟩
theorem hd_X4_monthOf : hdY yX4_monthOf 1 := ⟨by decide +kernel, by decide +kernel, by decide +kernel⟩
theorem hd_X4_daysOf : hdY yX4_daysOf 1 := ⟨by decide +kernel, by decide +kernel, by decide +kernel⟩
theorem hd_X4_at : hdY yX4_at 2 := ⟨by decide +kernel, by decide +kernel, by decide +kernel⟩
theorem hd_X4_ones : hdY yX4_ones 1 := ⟨by decide +kernel, by decide +kernel, by decide +kernel⟩
theorem hd_X4_meant : hdY yX4_meant 3 := ⟨by decide +kernel, by decide +kernel, by decide +kernel⟩
theorem hd_X4_whole : hdY yX4_whole 1 := ⟨by decide +kernel, by decide +kernel, by decide +kernel⟩
theorem hd_X4_isOld : hdY yX4_isOld 2 := ⟨by decide +kernel, by decide +kernel, by decide +kernel⟩
theorem hd_X4_marksIn : hdY yX4_marksIn 2 := ⟨by decide +kernel, by decide +kernel, by decide +kernel⟩
theorem hd_X4_runsIn : hdY yX4_runsIn 2 := ⟨by decide +kernel, by decide +kernel, by decide +kernel⟩
theorem hd_X4_areAlike : hdY yX4_areAlike 3 := ⟨by decide +kernel, by decide +kernel, by decide +kernel⟩
theorem hd_X4_twin : hdY yX4_twin 3 := ⟨by decide +kernel, by decide +kernel, by decide +kernel⟩
theorem hd_X4_sizeIn : hdY yX4_sizeIn 4 := ⟨by decide +kernel, by decide +kernel, by decide +kernel⟩
theorem hd_X4_sizeOf : hdY yX4_sizeOf 2 := ⟨by decide +kernel, by decide +kernel, by decide +kernel⟩
set_option maxHeartbeats 4000000 in
set_option maxRecDepth 100000 in
theorem c_X4_in (l : Launch) (G : gT) (v : Int64) (w : Int64) (z : Int64) (V : Int) (W0 : Int) (Z : Int) (hv : v.toInt = V) (hw : w.toInt = W0) (hz : z.toInt = Z) : Ro l G yX4_in cX4_in 6 (some .boolean) 0 [] [.long v, .long w, .long z] (pI (W0 ≤ V ∧ V ≤ Z)) := by
  refine Ro.mk (by decide) (Nat.le_of_ble_eq_true rfl) (fun pq eq sq mq bq tq cq ls hr hlk hF hKx hZ hP hl => ?_)
  have hx := hF.1
  have hb := hF.2.1
  have hml := hF.2.2.1
  have hown : sq.vm.findClass RX4 = some mq.cls := hF.2.2.2.1
  have hts : ∀ w ∈ GW, w.before _ sq = true := hF.2.2.2.2
  have hK := hKx.1
  have hl : lv_has ls 6 [(0, .long v), (2, .long w), (4, .long z)] := hl
  have hS : va_S (fun _ => False) sq.heap sq.heap [] := va_S.rf
  have hP : va_P G.1 vwCl [] sq.heap := hP
  refine lv_lload_n hx hb dX4_in_0 rfl (lv_at hl 0 rfl) ?_
  refine lv_lload_n hx hb dX4_in_1 rfl (lv_at hl 1 rfl) ?_
  refine W.lcmp hx hb dX4_in_2 ?_
  refine zc_lt hx hb (tgt := 17) dX4_in_3 (by decide) hv hw (fun c_3 => ?_) (fun c_3 => ?_)
  · skip
    refine lv_iconst (v := nI 0) hx hb dX4_in_17 (by decide) ?_
    exact e_rz hx hb hr hlk (nz_0) (pI_f' (by omega)) dX4_in_18
  · skip
    refine lv_lload_n hx hb dX4_in_6 rfl (lv_at hl 0 rfl) ?_
    refine lv_lload hx hb dX4_in_7 (lv_at hl 2 rfl) ?_
    refine W.lcmp hx hb dX4_in_9 ?_
    refine zc_gt hx hb (tgt := 17) dX4_in_10 (by decide) hv hz (fun c_10 => ?_) (fun c_10 => ?_)
    · skip
      refine lv_iconst (v := nI 0) hx hb dX4_in_17 (by decide) ?_
      exact e_rz hx hb hr hlk (nz_0) (pI_f' (by omega)) dX4_in_18
    · skip
      refine lv_iconst (v := nI 1) hx hb dX4_in_13 (by decide) ?_
      refine lv_goto (tgt := 18) hx hb dX4_in_14 (by decide) ?_
      exact e_rz hx hb hr hlk (nz_1) (pI_t' (by omega)) dX4_in_18
set_option maxHeartbeats 4000000 in
set_option maxRecDepth 100000 in
theorem c_X4_isDay (l : Launch) (G : gT) (x : Int32) (X : Int) (hX : x.toInt = X) : Ro l G yX4_isDay cX4_isDay 1 (some .boolean) 1 [] [.int x] (pI (0 ≤ X ∧ X ≤ 3649)) := by
  refine Ro.mk (by decide) (Nat.le_of_ble_eq_true rfl) (fun pq eq sq mq bq tq cq ls hr hlk hF hKx hZ hP hl => ?_)
  have hx := hF.1
  have hb := hF.2.1
  have hml := hF.2.2.1
  have hown : sq.vm.findClass RX4 = some mq.cls := hF.2.2.2.1
  have hts : ∀ w ∈ GW, w.before _ sq = true := hF.2.2.2.2
  have hK := hKx.1
  have hl : lv_has ls 1 [(0, .int x)] := hl
  have hS : va_S (fun _ => False) sq.heap sq.heap [] := va_S.rf
  have hP : va_P G.1 vwCl [] sq.heap := hP
  refine lv_iload_n hx hb dX4_isDay_0 rfl (lv_at hl 0 rfl) ?_
  refine lv_i2l (v := x.toInt64) hx hb dX4_isDay_1 rfl ?_
  refine lv_lconst (v := 0) hx hb dX4_isDay_2 (by decide) ?_
  refine lv_ldc2 (v := 3649) hx hb hown (hts _ mw_3_175) dX4_isDay_3 ?_
  refine k_roS (As := [.long x.toInt64, .long 0, .long 3649]) (rest := []) hF (c_X4_in l G x.toInt64 0 3649 X 0 3649 (l64 hX) (by decide) (by decide)) mw_3_92 mw_3_93 mw_1_5 mw_3_94 hd_X4_in ⟨Nat.le_of_ble_eq_true rfl, Nat.le_of_ble_eq_true rfl⟩ (Rd.of hKx hZ hS) (hP.sub (ws' := []) [] rfl) rfl hl.1 rfl (Nat.le_of_ble_eq_true rfl) dX4_isDay_6 ⟨Nat.zero_le _, Nat.zero_le _⟩ ?_
  exact e_rz hx hb hr hlk (nz_p _) (rfl) dX4_isDay_9
set_option maxHeartbeats 4000000 in
set_option maxRecDepth 100000 in
theorem c_X4_isSubject (l : Launch) (G : gT) (x : Int32) (X : Int) (hX : x.toInt = X) : Ro l G yX4_isSubject cX4_isSubject 1 (some .boolean) 1 [] [.int x] (pI (0 ≤ X ∧ X ≤ 15)) := by
  refine Ro.mk (by decide) (Nat.le_of_ble_eq_true rfl) (fun pq eq sq mq bq tq cq ls hr hlk hF hKx hZ hP hl => ?_)
  have hx := hF.1
  have hb := hF.2.1
  have hml := hF.2.2.1
  have hown : sq.vm.findClass RX4 = some mq.cls := hF.2.2.2.1
  have hts : ∀ w ∈ GW, w.before _ sq = true := hF.2.2.2.2
  have hK := hKx.1
  have hl : lv_has ls 1 [(0, .int x)] := hl
  have hS : va_S (fun _ => False) sq.heap sq.heap [] := va_S.rf
  have hP : va_P G.1 vwCl [] sq.heap := hP
  refine lv_iload_n hx hb dX4_isSubject_0 rfl (lv_at hl 0 rfl) ?_
  refine lv_i2l (v := x.toInt64) hx hb dX4_isSubject_1 rfl ?_
  refine lv_lconst (v := 0) hx hb dX4_isSubject_2 (by decide) ?_
  refine lv_ldc2 (v := 15) hx hb hown (hts _ mw_3_168) dX4_isSubject_3 ?_
  refine k_roS (As := [.long x.toInt64, .long 0, .long 15]) (rest := []) hF (c_X4_in l G x.toInt64 0 15 X 0 15 (l64 hX) (by decide) (by decide)) mw_3_92 mw_3_93 mw_1_5 mw_3_94 hd_X4_in ⟨Nat.le_of_ble_eq_true rfl, Nat.le_of_ble_eq_true rfl⟩ (Rd.of hKx hZ hS) (hP.sub (ws' := []) [] rfl) rfl hl.1 rfl (Nat.le_of_ble_eq_true rfl) dX4_isSubject_6 ⟨Nat.zero_le _, Nat.zero_le _⟩ ?_
  exact e_rz hx hb hr hlk (nz_p _) (rfl) dX4_isSubject_9
set_option maxHeartbeats 4000000 in
set_option maxRecDepth 100000 in
theorem c_X4_isMonth (l : Launch) (G : gT) (x : Int32) (X : Int) (hX : x.toInt = X) : Ro l G yX4_isMonth cX4_isMonth 1 (some .boolean) 1 [] [.int x] (pI (0 ≤ X ∧ X ≤ 119)) := by
  refine Ro.mk (by decide) (Nat.le_of_ble_eq_true rfl) (fun pq eq sq mq bq tq cq ls hr hlk hF hKx hZ hP hl => ?_)
  have hx := hF.1
  have hb := hF.2.1
  have hml := hF.2.2.1
  have hown : sq.vm.findClass RX4 = some mq.cls := hF.2.2.2.1
  have hts : ∀ w ∈ GW, w.before _ sq = true := hF.2.2.2.2
  have hK := hKx.1
  have hl : lv_has ls 1 [(0, .int x)] := hl
  have hS : va_S (fun _ => False) sq.heap sq.heap [] := va_S.rf
  have hP : va_P G.1 vwCl [] sq.heap := hP
  refine lv_iload_n hx hb dX4_isMonth_0 rfl (lv_at hl 0 rfl) ?_
  refine lv_i2l (v := x.toInt64) hx hb dX4_isMonth_1 rfl ?_
  refine lv_lconst (v := 0) hx hb dX4_isMonth_2 (by decide) ?_
  refine lv_ldc2 (v := 119) hx hb hown (hts _ mw_4_5) dX4_isMonth_3 ?_
  refine k_roS (As := [.long x.toInt64, .long 0, .long 119]) (rest := []) hF (c_X4_in l G x.toInt64 0 119 X 0 119 (l64 hX) (by decide) (by decide)) mw_3_92 mw_3_93 mw_1_5 mw_3_94 hd_X4_in ⟨Nat.le_of_ble_eq_true rfl, Nat.le_of_ble_eq_true rfl⟩ (Rd.of hKx hZ hS) (hP.sub (ws' := []) [] rfl) rfl hl.1 rfl (Nat.le_of_ble_eq_true rfl) dX4_isMonth_6 ⟨Nat.zero_le _, Nat.zero_le _⟩ ?_
  exact e_rz hx hb hr hlk (nz_p _) (rfl) dX4_isMonth_9
set_option maxHeartbeats 4000000 in
set_option maxRecDepth 100000 in
theorem c_X4_monthOf (l : Launch) (G : gT) (h : Nat) (an : Nat) (tr : Nat) (ah : Nat) (ch : Int32) (ak : Nat) (ai : Nat) (ap : Nat) (sy : Int32) (af : Nat) (sp : Int32) (d : Nat) (hd : d < 3650) : Ro l G yX4_monthOf cX4_monthOf 3 (some .int) 0 [(h, .inr (4, [.ref an, .ref tr, .ref ah, .int ch, .ref ak, .ref ai, .ref ap, .int sy, .ref af, .int sp])), (af, .inl (gI G, 121, .inl (fun m => nI (fdy m))))] [.ref h, .int (nI d)] (nI (mot d)) := by
  refine Ro.mk (by decide) (Nat.le_of_ble_eq_true rfl) (fun pq eq sq mq bq tq cq ls hr hlk hF hKx hZ hP hl => ?_)
  have hx := hF.1
  have hb := hF.2.1
  have hml := hF.2.2.1
  have hown : sq.vm.findClass RX4 = some mq.cls := hF.2.2.2.1
  have hts : ∀ w ∈ GW, w.before _ sq = true := hF.2.2.2.2
  have hK := hKx.1
  have hl : lv_has ls 3 [(0, .ref h), (1, .int (nI d))] := hl
  have hS : va_S (fun _ => False) sq.heap sq.heap [] := va_S.rf
  have hP : va_P G.1 vwCl [(h, .inr (4, [.ref an, .ref tr, .ref ah, .int ch, .ref ak, .ref ai, .ref ap, .int sy, .ref af, .int sp])), (af, .inl (gI G, 121, .inl (fun m => nI (fdy m))))] sq.heap := hP
  have hm := mot_row hd
  have hm2 := mot_12 hd
  refine lv_iload_n hx hb dX4_monthOf_0 rfl (lv_at hl 1 rfl) ?_
  refine lv_sipush (v := nI 365) hx hb dX4_monthOf_1 (by decide) ?_
  refine n_idiv hx hb (by omega) (by omega) (by omega) dX4_monthOf_4 ?_
  refine lv_bipush (v := nI 12) hx hb dX4_monthOf_5 (by decide) ?_
  refine n_imul hx hb dX4_monthOf_7 ?_
  refine lv_istore_n (lv' := [(2, .int (nI ((d / 365) * 12))), (0, .ref h), (1, .int (nI d))]) hx hb dX4_monthOf_8 rfl hl (by decide) rfl (fun ls hl => ?_)
  refine wloop (n := 0) [] (fun k ls => (k ≤ mot d) ∧ lv_has ls 3 [(2, .int (nI k)), (0, .ref h), (1, .int (nI d))]) (fun k => mot d - k) ?_ (d / 365 * 12) ⟨(by omega), lv_sub hl [0, 1, 2] (lvc (by first | rfl | exact congrArg nI (by omega)) (lvr (lvr rfl)))⟩
  intro k ih
  intro ls ⟨hk, hl⟩
  have hb1 := fdy_lt (show k + 1 ≤ 120 by omega)
  refine lv_aload_n hx hb dX4_monthOf_9 rfl (lv_at hl 1 rfl) ?_
  refine va_get (ci := 4) (v := .ref af) (C := RX4) (T := TX4) (N := 10) hx hb hts inGX4 hown hK hP 0 rfl rfl 8 (by decide) (hts _ mw_3_63) (fun _ h9 => h9) rfl dX4_monthOf_10 ?_
  refine lv_iload_n hx hb dX4_monthOf_13 rfl (lv_at hl 0 rfl) ?_
  refine lv_iconst (v := nI 1) hx hb dX4_monthOf_14 (by decide) ?_
  refine n_iadd hx hb dX4_monthOf_15 ?_
  refine n_iald hx hb hK hP 1 0 rfl rfl (by omega) (by decide) dX4_monthOf_16 ?_
  refine lv_iload_n hx hb dX4_monthOf_17 rfl (lv_at hl 2 rfl) ?_
  refine z_gt hx hb (tgt := 27) ((fdy (k + 1) : Nat) : Int) ((d : Nat) : Int) dX4_monthOf_18 (by decide) (toI (by omega)) (toI (by omega)) (fun c_18 => ?_) (fun c_18 => ?_)
  · skip
    have hge : mot d = k := by have := mot_ge hd (show d < fdy (k + 1) by omega); omega
    refine lv_iload_n hx hb dX4_monthOf_27 rfl (lv_at hl 0 rfl) ?_
    exact e_ri hx hb hr hlk (by rw [hge]) dX4_monthOf_28
  · skip
    have hlt : k < mot d := Nat.lt_of_not_le (fun z => absurd (mot_hi hd (show mot d < k + 1 by omega)) (by omega))
    refine lv_iinc (v := nI (k + 1)) (lv' := [(2, .int (nI (k + 1))), (0, .ref h), (1, .int (nI d))]) hx hb dX4_monthOf_21 hl (k := 0) rfl (nI_add _ _) (by decide) rfl (fun ls hl => ?_)
    refine lv_goto (tgt := 9) hx hb dX4_monthOf_24 (by decide) ?_
    exact ih (k + 1) ls (by omega) ⟨(by omega), lv_sub hl [0, 1, 2] rfl⟩
set_option maxHeartbeats 4000000 in
set_option maxRecDepth 100000 in
theorem c_X4_daysOf (l : Launch) (G : gT) (h : Nat) (an : Nat) (tr : Nat) (ah : Nat) (ch : Int32) (ak : Nat) (ai : Nat) (ap : Nat) (sy : Int32) (af : Nat) (sp : Int32) (m : Nat) (hm : m < 120) : Ro l G yX4_daysOf cX4_daysOf 2 (some .int) 0 [(h, .inr (4, [.ref an, .ref tr, .ref ah, .int ch, .ref ak, .ref ai, .ref ap, .int sy, .ref af, .int sp])), (af, .inl (gI G, 121, .inl (fun m => nI (fdy m))))] [.ref h, .int (nI m)] (nI (dys m)) := by
  refine Ro.mk (by decide) (Nat.le_of_ble_eq_true rfl) (fun pq eq sq mq bq tq cq ls hr hlk hF hKx hZ hP hl => ?_)
  have hx := hF.1
  have hb := hF.2.1
  have hml := hF.2.2.1
  have hown : sq.vm.findClass RX4 = some mq.cls := hF.2.2.2.1
  have hts : ∀ w ∈ GW, w.before _ sq = true := hF.2.2.2.2
  have hK := hKx.1
  have hl : lv_has ls 2 [(0, .ref h), (1, .int (nI m))] := hl
  have hS : va_S (fun _ => False) sq.heap sq.heap [] := va_S.rf
  have hP : va_P G.1 vwCl [(h, .inr (4, [.ref an, .ref tr, .ref ah, .int ch, .ref ak, .ref ai, .ref ap, .int sy, .ref af, .int sp])), (af, .inl (gI G, 121, .inl (fun m => nI (fdy m))))] sq.heap := hP
  have hm2 := fdy_succ m
  refine lv_aload_n hx hb dX4_daysOf_0 rfl (lv_at hl 0 rfl) ?_
  refine va_get (ci := 4) (v := .ref af) (C := RX4) (T := TX4) (N := 10) hx hb hts inGX4 hown hK hP 0 rfl rfl 8 (by decide) (hts _ mw_3_63) (fun _ h9 => h9) rfl dX4_daysOf_1 ?_
  refine lv_iload_n hx hb dX4_daysOf_4 rfl (lv_at hl 1 rfl) ?_
  refine lv_iconst (v := nI 1) hx hb dX4_daysOf_5 (by decide) ?_
  refine n_iadd hx hb dX4_daysOf_6 ?_
  refine n_iald hx hb hK hP 1 0 rfl rfl (by omega) (by decide) dX4_daysOf_7 ?_
  refine lv_aload_n hx hb dX4_daysOf_8 rfl (lv_at hl 0 rfl) ?_
  refine va_get (ci := 4) (v := .ref af) (C := RX4) (T := TX4) (N := 10) hx hb hts inGX4 hown hK hP 0 rfl rfl 8 (by decide) (hts _ mw_3_63) (fun _ h9 => h9) rfl dX4_daysOf_9 ?_
  refine lv_iload_n hx hb dX4_daysOf_12 rfl (lv_at hl 1 rfl) ?_
  refine n_iald hx hb hK hP 1 0 rfl rfl (by omega) (by decide) dX4_daysOf_13 ?_
  refine n_isub hx hb (by omega) dX4_daysOf_14 ?_
  exact e_ri hx hb hr hlk (congrArg nI (by omega)) dX4_daysOf_15
set_option maxHeartbeats 4000000 in
set_option maxRecDepth 100000 in
theorem c_X4_at (l : Launch) (G : gT) (m : Nat) (s0 : Nat)  : Ro l G yX4_at cX4_at 2 (some .int) 0 [] [.int (nI m), .int (nI s0)] (nI (255 + 16 * m + s0)) := by
  refine Ro.mk (by decide) (Nat.le_of_ble_eq_true rfl) (fun pq eq sq mq bq tq cq ls hr hlk hF hKx hZ hP hl => ?_)
  have hx := hF.1
  have hb := hF.2.1
  have hml := hF.2.2.1
  have hown : sq.vm.findClass RX4 = some mq.cls := hF.2.2.2.1
  have hts : ∀ w ∈ GW, w.before _ sq = true := hF.2.2.2.2
  have hK := hKx.1
  have hl : lv_has ls 2 [(0, .int (nI m)), (1, .int (nI s0))] := hl
  have hS : va_S (fun _ => False) sq.heap sq.heap [] := va_S.rf
  have hP : va_P G.1 vwCl [] sq.heap := hP
  refine lv_sipush (v := nI 255) hx hb dX4_at_0 (by decide) ?_
  refine lv_bipush (v := nI 16) hx hb dX4_at_3 (by decide) ?_
  refine lv_iload_n hx hb dX4_at_5 rfl (lv_at hl 0 rfl) ?_
  refine n_imul hx hb dX4_at_6 ?_
  refine n_iadd hx hb dX4_at_7 ?_
  refine lv_iload_n hx hb dX4_at_8 rfl (lv_at hl 1 rfl) ?_
  refine n_iadd hx hb dX4_at_9 ?_
  exact e_ri hx hb hr hlk (rfl) dX4_at_10
set_option maxHeartbeats 4000000 in
set_option maxRecDepth 100000 in
theorem c_X4_ones (l : Launch) (G : gT) (x : Int32)  : Ro l G yX4_ones cX4_ones 3 (some .int) 0 [] [.int x] (nI (ons x)) := by
  refine Ro.mk (by decide) (Nat.le_of_ble_eq_true rfl) (fun pq eq sq mq bq tq cq ls hr hlk hF hKx hZ hP hl => ?_)
  have hx := hF.1
  have hb := hF.2.1
  have hml := hF.2.2.1
  have hown : sq.vm.findClass RX4 = some mq.cls := hF.2.2.2.1
  have hts : ∀ w ∈ GW, w.before _ sq = true := hF.2.2.2.2
  have hK := hKx.1
  have hl : lv_has ls 3 [(0, .int x)] := hl
  have hS : va_S (fun _ => False) sq.heap sq.heap [] := va_S.rf
  have hP : va_P G.1 vwCl [] sq.heap := hP
  refine lv_iconst (v := nI 0) hx hb dX4_ones_0 (by decide) ?_
  refine lv_istore_n (lv' := [(1, .int (nI 0)), (0, .int x)]) hx hb dX4_ones_1 rfl hl (by decide) rfl (fun ls hl => ?_)
  refine lv_iconst (v := nI 0) hx hb dX4_ones_2 (by decide) ?_
  refine lv_istore_n (lv' := [(2, .int (nI 0)), (1, .int (nI 0)), (0, .int x)]) hx hb dX4_ones_3 rfl hl (by decide) rfl (fun ls hl => ?_)
  refine wloop (n := 0) [] (fun k ls => (k ≤ 31) ∧ lv_has ls 3 [(2, .int (nI k)), (1, .int (nI (pcn x k))), (0, .int x)]) (fun k => 31 - k) ?_ 0 ⟨(by omega), lv_sub hl [0, 1, 2] (lvr (lvc (by first | rfl | exact congrArg nI (by omega)) (lvr rfl)))⟩
  intro k ih
  intro ls ⟨hk, hl⟩
  refine lv_iload_n hx hb dX4_ones_4 rfl (lv_at hl 0 rfl) ?_
  refine lv_bipush (v := nI 31) hx hb dX4_ones_5 (by decide) ?_
  refine z_ge hx hb (tgt := 24) ((k : Nat) : Int) 31 dX4_ones_7 (by decide) (toI (by omega)) (by decide) (fun c_7 => ?_) (fun c_7 => ?_)
  · skip
    have hk2 : k = 31 := by omega
    subst hk2
    refine lv_iload_n hx hb dX4_ones_24 rfl (lv_at hl 1 rfl) ?_
    exact e_ri hx hb hr hlk (rfl) dX4_ones_25
  · skip
    refine lv_iload_n hx hb dX4_ones_10 rfl (lv_at hl 1 rfl) ?_
    refine lv_iload_n hx hb dX4_ones_11 rfl (lv_at hl 2 rfl) ?_
    refine lv_iload_n hx hb dX4_ones_12 rfl (lv_at hl 0 rfl) ?_
    refine lv_ishr hx hb dX4_ones_13 ?_
    refine lv_iconst (v := nI 1) hx hb dX4_ones_14 (by decide) ?_
    refine lv_iand hx hb dX4_ones_15 ?_
    refine lv_cv (y := nI (bn x k)) (b_sra (by omega)) ?_
    refine n_iadd hx hb dX4_ones_16 ?_
    refine lv_istore_n (lv' := [(1, .int (nI (pcn x k + bn x k))), (2, .int (nI k)), (0, .int x)]) hx hb dX4_ones_17 rfl hl (by decide) rfl (fun ls hl => ?_)
    refine lv_iinc (v := nI (k + 1)) (lv' := [(2, .int (nI (k + 1))), (1, .int (nI (pcn x k + bn x k))), (0, .int x)]) hx hb dX4_ones_18 hl (k := 1) rfl (nI_add _ _) (by decide) rfl (fun ls hl => ?_)
    refine lv_goto (tgt := 4) hx hb dX4_ones_21 (by decide) ?_
    exact ih (k + 1) ls (by omega) ⟨(by omega), lv_sub hl [0, 1, 2] (lvr (lvc (by first | rfl | exact congrArg nI (by omega)) (lvr rfl)))⟩
set_option maxHeartbeats 4000000 in
set_option maxRecDepth 100000 in
theorem c_X4_meant (l : Launch) (G : gT) (h : Nat) (an : Nat) (tr : Nat) (ah : Nat) (ch : Int32) (ak : Nat) (ai : Nat) (ap : Nat) (sy : Int32) (af : Nat) (sp : Int32) (m : Nat) (f : Nat) (t : Nat) (hm : m < 120) (hf : f < 3650) (ht : t < 3650) : Ro l G yX4_meant cX4_meant 6 (some .int) 1 [(h, .inr (4, [.ref an, .ref tr, .ref ah, .int ch, .ref ak, .ref ai, .ref ap, .int sy, .ref af, .int sp])), (af, .inl (gI G, 121, .inl (fun m => nI (fdy m))))] [.ref h, .int (nI m), .int (nI f), .int (nI t)] (mnt m f t) := by
  refine Ro.mk (by decide) (Nat.le_of_ble_eq_true rfl) (fun pq eq sq mq bq tq cq ls hr hlk hF hKx hZ hP hl => ?_)
  have hx := hF.1
  have hb := hF.2.1
  have hml := hF.2.2.1
  have hown : sq.vm.findClass RX4 = some mq.cls := hF.2.2.2.1
  have hts : ∀ w ∈ GW, w.before _ sq = true := hF.2.2.2.2
  have hK := hKx.1
  have hl : lv_has ls 6 [(0, .ref h), (1, .int (nI m)), (2, .int (nI f)), (3, .int (nI t))] := hl
  have hS : va_S (fun _ => False) sq.heap sq.heap [] := va_S.rf
  have hP : va_P G.1 vwCl [(h, .inr (4, [.ref an, .ref tr, .ref ah, .int ch, .ref ak, .ref ai, .ref ap, .int sy, .ref af, .int sp])), (af, .inl (gI G, 121, .inl (fun m => nI (fdy m))))] sq.heap := hP
  have hm2 := fdy_lt' hm
  have hm3 := dys_in m
  refine lv_iconst (v := nI 0) hx hb dX4_meant_0 (by decide) ?_
  refine lv_istore (lv' := [(4, .int (nI 0)), (0, .ref h), (1, .int (nI m)), (2, .int (nI f)), (3, .int (nI t))]) hx hb dX4_meant_1 hl (by decide) rfl (fun ls hl => ?_)
  refine lv_iconst (v := nI 0) hx hb dX4_meant_3 (by decide) ?_
  refine lv_istore (lv' := [(5, .int (nI 0)), (4, .int (nI 0)), (0, .ref h), (1, .int (nI m)), (2, .int (nI f)), (3, .int (nI t))]) hx hb dX4_meant_4 hl (by decide) rfl (fun ls hl => ?_)
  refine wloop (n := 0) [] (fun k ls => (k ≤ dys m) ∧ lv_has ls 6 [(5, .int (nI k)), (4, .int (mtk m f t k)), (0, .ref h), (1, .int (nI m)), (2, .int (nI f)), (3, .int (nI t))]) (fun k => dys m - k) ?_ 0 ⟨(by omega), lv_sub hl [0, 1, 2, 3, 4, 5] rfl⟩
  intro k ih
  intro ls ⟨hk, hl⟩
  refine lv_iload hx hb dX4_meant_6 (lv_at hl 0 rfl) ?_
  refine lv_aload_n hx hb dX4_meant_8 rfl (lv_at hl 2 rfl) ?_
  refine lv_iload_n hx hb dX4_meant_9 rfl (lv_at hl 3 rfl) ?_
  refine k_roV (ci := 4) (q0 := 0) (As := [.int (nI m)]) (rest := [.int (nI k)]) hF (c_X4_daysOf l G h an tr ah ch ak ai ap sy af sp m (by omega)) hKx hP ⟨_, rfl, rfl⟩ rfl rfl mw_3_184 mw_3_186 mw_p2_0 mw_1_5 mw_3_187 hd_X4_daysOf ⟨Nat.le_of_ble_eq_true rfl, Nat.le_of_ble_eq_true rfl⟩ (Rd.of hKx hZ hS) (hP.sub (ws' := [(h, .inr (4, [.ref an, .ref tr, .ref ah, .int ch, .ref ak, .ref ai, .ref ap, .int sy, .ref af, .int sp])), (af, .inl (gI G, 121, .inl (fun m => nI (fdy m))))]) [0, 1] rfl) rfl hl.1 rfl (Nat.le_of_ble_eq_true rfl) dX4_meant_10 ⟨Nat.zero_le _, Nat.zero_le _⟩ ?_
  refine z_ge hx hb (tgt := 55) ((k : Nat) : Int) ((dys m : Nat) : Int) dX4_meant_13 (by decide) (toI (by omega)) (toI (by omega)) (fun c_13 => ?_) (fun c_13 => ?_)
  · skip
    have hk2 : k = dys m := by omega
    subst hk2
    refine lv_iload hx hb dX4_meant_55 (lv_at hl 1 rfl) ?_
    exact e_ri hx hb hr hlk (rfl) dX4_meant_57
  · skip
    refine lv_iload hx hb dX4_meant_16 (lv_at hl 1 rfl) ?_
    refine lv_aload_n hx hb dX4_meant_18 rfl (lv_at hl 2 rfl) ?_
    refine va_get (ci := 4) (v := .ref af) (C := RX4) (T := TX4) (N := 10) hx hb hts inGX4 hown hK hP 0 rfl rfl 8 (by decide) (hts _ mw_3_63) (fun _ h9 => h9) rfl dX4_meant_19 ?_
    refine lv_iload_n hx hb dX4_meant_22 rfl (lv_at hl 3 rfl) ?_
    refine n_iald hx hb hK hP 1 0 rfl rfl (by omega) (by decide) dX4_meant_23 ?_
    refine lv_iload hx hb dX4_meant_24 (lv_at hl 0 rfl) ?_
    refine n_iadd hx hb dX4_meant_26 ?_
    refine lv_i2l (v := (nI (fdy m + k)).toInt64) hx hb dX4_meant_27 rfl ?_
    refine lv_iload_n hx hb dX4_meant_28 rfl (lv_at hl 4 rfl) ?_
    refine lv_i2l (v := (nI f).toInt64) hx hb dX4_meant_29 rfl ?_
    refine lv_iload_n hx hb dX4_meant_30 rfl (lv_at hl 5 rfl) ?_
    refine lv_i2l (v := (nI t).toInt64) hx hb dX4_meant_31 rfl ?_
    refine k_roS (As := [.long ((nI (fdy m + k)).toInt64), .long ((nI f).toInt64), .long ((nI t).toInt64)]) (rest := [.int (mtk m f t k)]) hF (c_X4_in l G ((nI (fdy m + k)).toInt64) ((nI f).toInt64) ((nI t).toInt64) ((fdy m + k : Nat) : Int) ((f : Nat) : Int) ((t : Nat) : Int) (l64 (toI (by omega))) (l64 (toI (by omega))) (l64 (toI (by omega)))) mw_3_92 mw_3_93 mw_1_5 mw_3_94 hd_X4_in ⟨Nat.le_of_ble_eq_true rfl, Nat.le_of_ble_eq_true rfl⟩ (Rd.of hKx hZ hS) (hP.sub (ws' := []) [] rfl) rfl hl.1 rfl (Nat.le_of_ble_eq_true rfl) dX4_meant_32 ⟨Nat.zero_le _, Nat.zero_le _⟩ ?_
    refine p0_eq hx hb (tgt := 45) dX4_meant_35 (by decide) (fun c_35 => ?_) (fun c_35 => ?_)
    · skip
      refine lv_iconst (v := nI 0) hx hb dX4_meant_45 (by decide) ?_
      refine lv_ior hx hb dX4_meant_46 ?_
      refine lv_istore (lv' := [(4, .int ((mtk m f t k) ||| (nI 0))), (5, .int (nI k)), (0, .ref h), (1, .int (nI m)), (2, .int (nI f)), (3, .int (nI t))]) hx hb dX4_meant_47 hl (by decide) rfl (fun ls hl => ?_)
      refine lv_iinc (v := nI (k + 1)) (lv' := [(5, .int (nI (k + 1))), (4, .int ((mtk m f t k) ||| (nI 0))), (0, .ref h), (1, .int (nI m)), (2, .int (nI f)), (3, .int (nI t))]) hx hb dX4_meant_49 hl (k := 1) rfl (nI_add _ _) (by decide) rfl (fun ls hl => ?_)
      refine lv_goto (tgt := 6) hx hb dX4_meant_52 (by decide) ?_
      exact ih (k + 1) ls (by omega) ⟨(by omega), lv_sub hl [0, 1, 2, 3, 4, 5] (lvr (lvc (by first | exact mtk_t (by omega) | exact mtk_f (by omega)) (lvr (lvr (lvr (lvr rfl))))))⟩
    · skip
      refine lv_iconst (v := nI 1) hx hb dX4_meant_38 (by decide) ?_
      refine lv_iload hx hb dX4_meant_39 (lv_at hl 0 rfl) ?_
      refine lv_ishl hx hb dX4_meant_41 ?_
      refine lv_goto (tgt := 46) hx hb dX4_meant_42 (by decide) ?_
      refine lv_ior hx hb dX4_meant_46 ?_
      refine lv_istore (lv' := [(4, .int ((mtk m f t k) ||| ((nI 1) <<< ((nI k) &&& 31)))), (5, .int (nI k)), (0, .ref h), (1, .int (nI m)), (2, .int (nI f)), (3, .int (nI t))]) hx hb dX4_meant_47 hl (by decide) rfl (fun ls hl => ?_)
      refine lv_iinc (v := nI (k + 1)) (lv' := [(5, .int (nI (k + 1))), (4, .int ((mtk m f t k) ||| ((nI 1) <<< ((nI k) &&& 31)))), (0, .ref h), (1, .int (nI m)), (2, .int (nI f)), (3, .int (nI t))]) hx hb dX4_meant_49 hl (k := 1) rfl (nI_add _ _) (by decide) rfl (fun ls hl => ?_)
      refine lv_goto (tgt := 6) hx hb dX4_meant_52 (by decide) ?_
      exact ih (k + 1) ls (by omega) ⟨(by omega), lv_sub hl [0, 1, 2, 3, 4, 5] (lvr (lvc (by first | exact mtk_t (by omega) | exact mtk_f (by omega)) (lvr (lvr (lvr (lvr rfl))))))⟩
set_option maxHeartbeats 4000000 in
set_option maxRecDepth 100000 in
theorem c_X4_whole (l : Launch) (G : gT) (h : Nat) (an : Nat) (tr : Nat) (ah : Nat) (ch : Int32) (ak : Nat) (ai : Nat) (ap : Nat) (sy : Int32) (af : Nat) (sp : Int32) (m : Nat) (hm : m < 120) : Ro l G yX4_whole cX4_whole 2 (some .int) 2 [(h, .inr (4, [.ref an, .ref tr, .ref ah, .int ch, .ref ak, .ref ai, .ref ap, .int sy, .ref af, .int sp])), (af, .inl (gI G, 121, .inl (fun m => nI (fdy m))))] [.ref h, .int (nI m)] (mnt m 0 3649) := by
  refine Ro.mk (by decide) (Nat.le_of_ble_eq_true rfl) (fun pq eq sq mq bq tq cq ls hr hlk hF hKx hZ hP hl => ?_)
  have hx := hF.1
  have hb := hF.2.1
  have hml := hF.2.2.1
  have hown : sq.vm.findClass RX4 = some mq.cls := hF.2.2.2.1
  have hts : ∀ w ∈ GW, w.before _ sq = true := hF.2.2.2.2
  have hK := hKx.1
  have hl : lv_has ls 2 [(0, .ref h), (1, .int (nI m))] := hl
  have hS : va_S (fun _ => False) sq.heap sq.heap [] := va_S.rf
  have hP : va_P G.1 vwCl [(h, .inr (4, [.ref an, .ref tr, .ref ah, .int ch, .ref ak, .ref ai, .ref ap, .int sy, .ref af, .int sp])), (af, .inl (gI G, 121, .inl (fun m => nI (fdy m))))] sq.heap := hP
  refine lv_aload_n hx hb dX4_whole_0 rfl (lv_at hl 0 rfl) ?_
  refine lv_iload_n hx hb dX4_whole_1 rfl (lv_at hl 1 rfl) ?_
  refine lv_iconst (v := nI 0) hx hb dX4_whole_2 (by decide) ?_
  refine lv_sipush (v := nI 3649) hx hb dX4_whole_3 (by decide) ?_
  refine k_roV (ci := 4) (q0 := 0) (As := [.int (nI m), .int (nI 0), .int (nI 3649)]) (rest := []) hF (c_X4_meant l G h an tr ah ch ak ai ap sy af sp m 0 3649 (by omega) (by omega) (by omega)) hKx hP ⟨_, rfl, rfl⟩ rfl rfl mw_3_180 mw_3_182 mw_p1_15 mw_1_5 mw_3_183 hd_X4_meant ⟨Nat.le_of_ble_eq_true rfl, Nat.le_of_ble_eq_true rfl⟩ (Rd.of hKx hZ hS) (hP.sub (ws' := [(h, .inr (4, [.ref an, .ref tr, .ref ah, .int ch, .ref ak, .ref ai, .ref ap, .int sy, .ref af, .int sp])), (af, .inl (gI G, 121, .inl (fun m => nI (fdy m))))]) [0, 1] rfl) rfl hl.1 rfl (Nat.le_of_ble_eq_true rfl) dX4_whole_6 ⟨Nat.zero_le _, Nat.zero_le _⟩ ?_
  exact e_ri hx hb hr hlk (rfl) dX4_whole_9
set_option maxHeartbeats 4000000 in
set_option maxRecDepth 100000 in
theorem c_X4_isOld (l : Launch) (G : gT) (h : Nat) (an : Nat) (tr : Nat) (ah : Nat) (ch : Int32) (ak : Nat) (ai : Nat) (ap : Nat) (sy : Int32) (af : Nat) (sp : Int32) (a : Nat) (r : Nat → Int32) (m : Nat) (hm : m < 120) (hB : Bs r 8) : Ro l G yX4_isOld cX4_isOld 3 (some .boolean) 1 [(h, .inr (4, [.ref an, .ref tr, .ref ah, .int ch, .ref ak, .ref ai, .ref ap, .int sy, .ref af, .int sp])), (af, .inl (gI G, 121, .inl (fun m => nI (fdy m)))), (a, .inl (gI G, 2175, .inl r))] [.ref h, .ref a, .int (nI m)] (pI (m + kpn r ≤ mot (td r))) := by
  refine Ro.mk (by decide) (Nat.le_of_ble_eq_true rfl) (fun pq eq sq mq bq tq cq ls hr hlk hF hKx hZ hP hl => ?_)
  have hx := hF.1
  have hb := hF.2.1
  have hml := hF.2.2.1
  have hown : sq.vm.findClass RX4 = some mq.cls := hF.2.2.2.1
  have hts : ∀ w ∈ GW, w.before _ sq = true := hF.2.2.2.2
  have hK := hKx.1
  have hl : lv_has ls 3 [(0, .ref h), (1, .ref a), (2, .int (nI m))] := hl
  have hS : va_S (fun _ => False) sq.heap sq.heap [] := va_S.rf
  have hP : va_P G.1 vwCl [(h, .inr (4, [.ref an, .ref tr, .ref ah, .int ch, .ref ak, .ref ai, .ref ap, .int sy, .ref af, .int sp])), (af, .inl (gI G, 121, .inl (fun m => nI (fdy m)))), (a, .inl (gI G, 2175, .inl r))] sq.heap := hP
  obtain ⟨h0, ht, h1, hkp, -⟩ := hB
  have hm2 := mot_row ht
  refine lv_iload_n hx hb dX4_isOld_0 rfl (lv_at hl 2 rfl) ?_
  refine lv_aload_n hx hb dX4_isOld_1 rfl (lv_at hl 1 rfl) ?_
  refine lv_iconst (v := nI 1) hx hb dX4_isOld_2 (by decide) ?_
  refine n_iald hx hb hK hP 2 0 rfl rfl (by omega) (by decide) dX4_isOld_3 ?_
  refine lv_cv (y := nI (kpn r)) (h1) ?_
  refine n_iadd hx hb dX4_isOld_4 ?_
  refine lv_aload_n hx hb dX4_isOld_5 rfl (lv_at hl 0 rfl) ?_
  refine lv_aload_n hx hb dX4_isOld_6 rfl (lv_at hl 1 rfl) ?_
  refine lv_iconst (v := nI 0) hx hb dX4_isOld_7 (by decide) ?_
  refine n_iald hx hb hK hP 2 0 rfl rfl (by omega) (by decide) dX4_isOld_8 ?_
  refine lv_cv (y := nI (td r)) (h0) ?_
  refine k_roV (ci := 4) (q0 := 0) (As := [.int (nI (td r))]) (rest := [.int (nI (m + kpn r))]) hF (c_X4_monthOf l G h an tr ah ch ak ai ap sy af sp (td r) (by omega)) hKx hP ⟨_, rfl, rfl⟩ rfl rfl mw_3_149 mw_3_151 mw_p1_11 mw_1_5 mw_3_152 hd_X4_monthOf ⟨Nat.le_of_ble_eq_true rfl, Nat.le_of_ble_eq_true rfl⟩ (Rd.of hKx hZ hS) (hP.sub (ws' := [(h, .inr (4, [.ref an, .ref tr, .ref ah, .int ch, .ref ak, .ref ai, .ref ap, .int sy, .ref af, .int sp])), (af, .inl (gI G, 121, .inl (fun m => nI (fdy m))))]) [0, 1] rfl) rfl hl.1 rfl (Nat.le_of_ble_eq_true rfl) dX4_isOld_9 ⟨Nat.zero_le _, Nat.zero_le _⟩ ?_
  refine z_gt hx hb (tgt := 19) ((m + kpn r : Nat) : Int) ((mot (td r) : Nat) : Int) dX4_isOld_12 (by decide) (toI (by omega)) (toI (by omega)) (fun c_12 => ?_) (fun c_12 => ?_)
  · skip
    refine lv_iconst (v := nI 0) hx hb dX4_isOld_19 (by decide) ?_
    exact e_rz hx hb hr hlk (nz_0) (pI_f' (by omega)) dX4_isOld_20
  · skip
    refine lv_iconst (v := nI 1) hx hb dX4_isOld_15 (by decide) ?_
    refine lv_goto (tgt := 20) hx hb dX4_isOld_16 (by decide) ?_
    exact e_rz hx hb hr hlk (nz_1) (pI_t' (by omega)) dX4_isOld_20
set_option maxHeartbeats 4000000 in
set_option maxRecDepth 100000 in
theorem c_X4_marksIn (l : Launch) (G : gT) (a : Nat) (r : Nat → Int32) (m : Nat) (hm : m < 120) : Ro l G yX4_marksIn cX4_marksIn 4 (some .int) 1 [(a, .inl (gI G, 2175, .inl r))] [.ref a, .int (nI m)] (nI (mIn r m)) := by
  refine Ro.mk (by decide) (Nat.le_of_ble_eq_true rfl) (fun pq eq sq mq bq tq cq ls hr hlk hF hKx hZ hP hl => ?_)
  have hx := hF.1
  have hb := hF.2.1
  have hml := hF.2.2.1
  have hown : sq.vm.findClass RX4 = some mq.cls := hF.2.2.2.1
  have hts : ∀ w ∈ GW, w.before _ sq = true := hF.2.2.2.2
  have hK := hKx.1
  have hl : lv_has ls 4 [(0, .ref a), (1, .int (nI m))] := hl
  have hS : va_S (fun _ => False) sq.heap sq.heap [] := va_S.rf
  have hP : va_P G.1 vwCl [(a, .inl (gI G, 2175, .inl r))] sq.heap := hP
  refine lv_iconst (v := nI 0) hx hb dX4_marksIn_0 (by decide) ?_
  refine lv_istore_n (lv' := [(2, .int (nI 0)), (0, .ref a), (1, .int (nI m))]) hx hb dX4_marksIn_1 rfl hl (by decide) rfl (fun ls hl => ?_)
  refine lv_iconst (v := nI 0) hx hb dX4_marksIn_2 (by decide) ?_
  refine lv_istore_n (lv' := [(3, .int (nI 0)), (2, .int (nI 0)), (0, .ref a), (1, .int (nI m))]) hx hb dX4_marksIn_3 rfl hl (by decide) rfl (fun ls hl => ?_)
  refine wloop (n := 0) [] (fun k ls => (k ≤ 16) ∧ lv_has ls 4 [(3, .int (nI k)), (2, .int (nI (mIk r m k))), (0, .ref a), (1, .int (nI m))]) (fun k => 16 - k) ?_ 0 ⟨(by omega), lv_sub hl [0, 1, 2, 3] (lvr (lvc (by first | rfl | exact congrArg nI (by omega)) (lvr (lvr rfl))))⟩
  intro k ih
  intro ls ⟨hk, hl⟩
  refine lv_iload_n hx hb dX4_marksIn_4 rfl (lv_at hl 0 rfl) ?_
  refine lv_bipush (v := nI 16) hx hb dX4_marksIn_5 (by decide) ?_
  refine z_ge hx hb (tgt := 29) ((k : Nat) : Int) 16 dX4_marksIn_7 (by decide) (toI (by omega)) (by decide) (fun c_7 => ?_) (fun c_7 => ?_)
  · skip
    have hk2 : k = 16 := by omega
    subst hk2
    refine lv_iload_n hx hb dX4_marksIn_29 rfl (lv_at hl 1 rfl) ?_
    exact e_ri hx hb hr hlk (rfl) dX4_marksIn_30
  · skip
    refine lv_iload_n hx hb dX4_marksIn_10 rfl (lv_at hl 1 rfl) ?_
    refine lv_aload_n hx hb dX4_marksIn_11 rfl (lv_at hl 2 rfl) ?_
    refine lv_iload_n hx hb dX4_marksIn_12 rfl (lv_at hl 3 rfl) ?_
    refine lv_iload_n hx hb dX4_marksIn_13 rfl (lv_at hl 0 rfl) ?_
    refine k_roS (As := [.int (nI m), .int (nI k)]) (rest := [.ref a, .int (nI (mIk r m k))]) hF (c_X4_at l G m k) mw_3_118 mw_3_119 mw_1_5 mw_3_120 hd_X4_at ⟨Nat.le_of_ble_eq_true rfl, Nat.le_of_ble_eq_true rfl⟩ (Rd.of hKx hZ hS) (hP.sub (ws' := []) [] rfl) rfl hl.1 rfl (Nat.le_of_ble_eq_true rfl) dX4_marksIn_14 ⟨Nat.zero_le _, Nat.zero_le _⟩ ?_
    refine n_iald hx hb hK hP 0 0 rfl rfl (by omega) (by decide) dX4_marksIn_17 ?_
    refine k_roS (As := [.int (r (255 + 16 * m + k))]) (rest := [.int (nI (mIk r m k))]) hF (c_X4_ones l G (r (255 + 16 * m + k))) mw_3_121 mw_3_122 mw_1_5 mw_3_123 hd_X4_ones ⟨Nat.le_of_ble_eq_true rfl, Nat.le_of_ble_eq_true rfl⟩ (Rd.of hKx hZ hS) (hP.sub (ws' := []) [] rfl) rfl hl.1 rfl (Nat.le_of_ble_eq_true rfl) dX4_marksIn_18 ⟨Nat.zero_le _, Nat.zero_le _⟩ ?_
    refine n_iadd hx hb dX4_marksIn_21 ?_
    refine lv_istore_n (lv' := [(2, .int (nI (mIk r m k + ons (r (255 + 16 * m + k))))), (3, .int (nI k)), (0, .ref a), (1, .int (nI m))]) hx hb dX4_marksIn_22 rfl hl (by decide) rfl (fun ls hl => ?_)
    refine lv_iinc (v := nI (k + 1)) (lv' := [(3, .int (nI (k + 1))), (2, .int (nI (mIk r m k + ons (r (255 + 16 * m + k))))), (0, .ref a), (1, .int (nI m))]) hx hb dX4_marksIn_23 hl (k := 1) rfl (nI_add _ _) (by decide) rfl (fun ls hl => ?_)
    refine lv_goto (tgt := 4) hx hb dX4_marksIn_26 (by decide) ?_
    exact ih (k + 1) ls (by omega) ⟨(by omega), lv_sub hl [0, 1, 2, 3] (lvr (lvc (by first | rfl | exact congrArg nI (by omega)) (lvr (lvr rfl))))⟩
set_option maxHeartbeats 4000000 in
set_option maxRecDepth 100000 in
theorem c_X4_runsIn (l : Launch) (G : gT) (a : Nat) (r : Nat → Int32) (m : Nat) (hm : m < 120) : Ro l G yX4_runsIn cX4_runsIn 5 (some .int) 1 [(a, .inl (gI G, 2175, .inl r))] [.ref a, .int (nI m)] (nI (rns r m)) := by
  refine Ro.mk (by decide) (Nat.le_of_ble_eq_true rfl) (fun pq eq sq mq bq tq cq ls hr hlk hF hKx hZ hP hl => ?_)
  have hx := hF.1
  have hb := hF.2.1
  have hml := hF.2.2.1
  have hown : sq.vm.findClass RX4 = some mq.cls := hF.2.2.2.1
  have hts : ∀ w ∈ GW, w.before _ sq = true := hF.2.2.2.2
  have hK := hKx.1
  have hl : lv_has ls 5 [(0, .ref a), (1, .int (nI m))] := hl
  have hS : va_S (fun _ => False) sq.heap sq.heap [] := va_S.rf
  have hP : va_P G.1 vwCl [(a, .inl (gI G, 2175, .inl r))] sq.heap := hP
  refine lv_iconst (v := nI 0) hx hb dX4_runsIn_0 (by decide) ?_
  refine lv_istore_n (lv' := [(2, .int (nI 0)), (0, .ref a), (1, .int (nI m))]) hx hb dX4_runsIn_1 rfl hl (by decide) rfl (fun ls hl => ?_)
  refine lv_iconst (v := nI 0) hx hb dX4_runsIn_2 (by decide) ?_
  refine lv_istore_n (lv' := [(3, .int (nI 0)), (2, .int (nI 0)), (0, .ref a), (1, .int (nI m))]) hx hb dX4_runsIn_3 rfl hl (by decide) rfl (fun ls hl => ?_)
  refine wloop (n := 0) [] (fun k ls => (k ≤ 16) ∧ lv_has ls 5 [(3, .int (nI k)), (2, .int (nI (rnk r m k))), (0, .ref a), (1, .int (nI m))]) (fun k => 16 - k) ?_ 0 ⟨(by omega), lv_sub hl [0, 1, 2, 3] (lvr (lvc (by first | rfl | exact congrArg nI (by omega)) (lvr (lvr rfl))))⟩
  intro k ih
  intro ls ⟨hk, hl⟩
  refine lv_iload_n hx hb dX4_runsIn_4 rfl (lv_at hl 0 rfl) ?_
  refine lv_bipush (v := nI 16) hx hb dX4_runsIn_5 (by decide) ?_
  refine z_ge hx hb (tgt := 40) ((k : Nat) : Int) 16 dX4_runsIn_7 (by decide) (toI (by omega)) (by decide) (fun c_7 => ?_) (fun c_7 => ?_)
  · skip
    have hk2 : k = 16 := by omega
    subst hk2
    refine lv_iload_n hx hb dX4_runsIn_40 rfl (lv_at hl 1 rfl) ?_
    exact e_ri hx hb hr hlk (rfl) dX4_runsIn_41
  · skip
    refine lv_aload_n hx hb dX4_runsIn_10 rfl (lv_at hl 2 rfl) ?_
    refine lv_iload_n hx hb dX4_runsIn_11 rfl (lv_at hl 3 rfl) ?_
    refine lv_iload_n hx hb dX4_runsIn_12 rfl (lv_at hl 0 rfl) ?_
    refine k_roS (As := [.int (nI m), .int (nI k)]) (rest := [.ref a]) hF (c_X4_at l G m k) mw_3_118 mw_3_119 mw_1_5 mw_3_120 hd_X4_at ⟨Nat.le_of_ble_eq_true rfl, Nat.le_of_ble_eq_true rfl⟩ (Rd.of hKx hZ hS) (hP.sub (ws' := []) [] rfl) rfl hl.1 rfl (Nat.le_of_ble_eq_true rfl) dX4_runsIn_13 ⟨Nat.zero_le _, Nat.zero_le _⟩ ?_
    refine n_iald hx hb hK hP 0 0 rfl rfl (by omega) (by decide) dX4_runsIn_16 ?_
    refine lv_istore (lv' := [(4, .int (r (255 + 16 * m + k))), (3, .int (nI k)), (2, .int (nI (rnk r m k))), (0, .ref a), (1, .int (nI m))]) hx hb dX4_runsIn_17 hl (by decide) rfl (fun ls hl => ?_)
    refine lv_iload_n hx hb dX4_runsIn_19 rfl (lv_at hl 2 rfl) ?_
    refine lv_iload hx hb dX4_runsIn_20 (lv_at hl 0 rfl) ?_
    refine lv_iload hx hb dX4_runsIn_22 (lv_at hl 0 rfl) ?_
    refine lv_iconst (v := nI 1) hx hb dX4_runsIn_24 (by decide) ?_
    refine lv_ishl hx hb dX4_runsIn_25 ?_
    refine lv_iconst (v := (-1)) hx hb dX4_runsIn_26 (by decide) ?_
    refine lv_ixor hx hb dX4_runsIn_27 ?_
    refine lv_iand hx hb dX4_runsIn_28 ?_
    refine k_roS (As := [.int ((r (255 + 16 * m + k)) &&& (((r (255 + 16 * m + k)) <<< ((nI 1) &&& 31)) ^^^ (-1)))]) (rest := [.int (nI (rnk r m k))]) hF (c_X4_ones l G ((r (255 + 16 * m + k)) &&& (((r (255 + 16 * m + k)) <<< ((nI 1) &&& 31)) ^^^ (-1)))) mw_3_121 mw_3_122 mw_1_5 mw_3_123 hd_X4_ones ⟨Nat.le_of_ble_eq_true rfl, Nat.le_of_ble_eq_true rfl⟩ (Rd.of hKx hZ hS) (hP.sub (ws' := []) [] rfl) rfl hl.1 rfl (Nat.le_of_ble_eq_true rfl) dX4_runsIn_29 ⟨Nat.zero_le _, Nat.zero_le _⟩ ?_
    refine n_iadd hx hb dX4_runsIn_32 ?_
    refine lv_istore_n (lv' := [(2, .int (nI (rnk r m k + ons ((r (255 + 16 * m + k)) &&& (((r (255 + 16 * m + k)) <<< ((nI 1) &&& 31)) ^^^ (-1)))))), (4, .int (r (255 + 16 * m + k))), (3, .int (nI k)), (0, .ref a), (1, .int (nI m))]) hx hb dX4_runsIn_33 rfl hl (by decide) rfl (fun ls hl => ?_)
    refine lv_iinc (v := nI (k + 1)) (lv' := [(3, .int (nI (k + 1))), (2, .int (nI (rnk r m k + ons ((r (255 + 16 * m + k)) &&& (((r (255 + 16 * m + k)) <<< ((nI 1) &&& 31)) ^^^ (-1)))))), (4, .int (r (255 + 16 * m + k))), (0, .ref a), (1, .int (nI m))]) hx hb dX4_runsIn_34 hl (k := 2) rfl (nI_add _ _) (by decide) rfl (fun ls hl => ?_)
    refine lv_goto (tgt := 4) hx hb dX4_runsIn_37 (by decide) ?_
    exact ih (k + 1) ls (by omega) ⟨(by omega), lv_sub hl [0, 1, 3, 4] (lvr (lvc (by first | rfl | exact congrArg nI (by omega)) (lvr (lvr rfl))))⟩
set_option maxHeartbeats 4000000 in
set_option maxRecDepth 100000 in
theorem c_X4_areAlike (l : Launch) (G : gT) (a : Nat) (r : Nat → Int32) (m : Nat) (o : Nat) (hm : m < 120) (ho : o < 120) : Ro l G yX4_areAlike cX4_areAlike 5 (some .boolean) 1 [(a, .inl (gI G, 2175, .inl r))] [.ref a, .int (nI m), .int (nI o)] (pI (alk r m o 16)) := by
  refine Ro.mk (by decide) (Nat.le_of_ble_eq_true rfl) (fun pq eq sq mq bq tq cq ls hr hlk hF hKx hZ hP hl => ?_)
  have hx := hF.1
  have hb := hF.2.1
  have hml := hF.2.2.1
  have hown : sq.vm.findClass RX4 = some mq.cls := hF.2.2.2.1
  have hts : ∀ w ∈ GW, w.before _ sq = true := hF.2.2.2.2
  have hK := hKx.1
  have hl : lv_has ls 5 [(0, .ref a), (1, .int (nI m)), (2, .int (nI o))] := hl
  have hS : va_S (fun _ => False) sq.heap sq.heap [] := va_S.rf
  have hP : va_P G.1 vwCl [(a, .inl (gI G, 2175, .inl r))] sq.heap := hP
  refine lv_iconst (v := nI 1) hx hb dX4_areAlike_0 (by decide) ?_
  refine lv_istore_n (lv' := [(3, .int (nI 1)), (0, .ref a), (1, .int (nI m)), (2, .int (nI o))]) hx hb dX4_areAlike_1 rfl hl (by decide) rfl (fun ls hl => ?_)
  refine lv_iconst (v := nI 0) hx hb dX4_areAlike_2 (by decide) ?_
  refine lv_istore (lv' := [(4, .int (nI 0)), (3, .int (nI 1)), (0, .ref a), (1, .int (nI m)), (2, .int (nI o))]) hx hb dX4_areAlike_3 hl (by decide) rfl (fun ls hl => ?_)
  refine wloop (n := 0) [] (fun k ls => (k ≤ 16) ∧ lv_has ls 5 [(4, .int (nI k)), (3, .int (pI (alk r m o k))), (0, .ref a), (1, .int (nI m)), (2, .int (nI o))]) (fun k => 16 - k) ?_ 0 ⟨(by omega), lv_sub hl [0, 1, 2, 3, 4] (lvr (lvc (pI_t' (alk_0 r m o)) (lvr (lvr (lvr rfl)))))⟩
  intro k ih
  intro ls ⟨hk, hl⟩
  refine lv_iload hx hb dX4_areAlike_5 (lv_at hl 0 rfl) ?_
  refine lv_bipush (v := nI 16) hx hb dX4_areAlike_7 (by decide) ?_
  refine z_ge hx hb (tgt := 47) ((k : Nat) : Int) 16 dX4_areAlike_9 (by decide) (toI (by omega)) (by decide) (fun c_9 => ?_) (fun c_9 => ?_)
  · skip
    have hk2 : k = 16 := by omega
    subst hk2
    refine lv_iload_n hx hb dX4_areAlike_47 rfl (lv_at hl 1 rfl) ?_
    exact e_rz hx hb hr hlk (nz_p _) (by first | rfl | exact pI_c ⟨fun z => absurd z c_13, fun z => absurd z (alk_n c_13 hk)⟩) dX4_areAlike_48
  · skip
    refine lv_iload_n hx hb dX4_areAlike_12 rfl (lv_at hl 1 rfl) ?_
    refine p0_eq hx hb (tgt := 47) dX4_areAlike_13 (by decide) (fun c_13 => ?_) (fun c_13 => ?_)
    · skip
      refine lv_iload_n hx hb dX4_areAlike_47 rfl (lv_at hl 1 rfl) ?_
      exact e_rz hx hb hr hlk (nz_p _) (by first | rfl | exact pI_c ⟨fun z => absurd z c_13, fun z => absurd z (alk_n c_13 hk)⟩) dX4_areAlike_48
    · skip
      refine lv_aload_n hx hb dX4_areAlike_16 rfl (lv_at hl 2 rfl) ?_
      refine lv_iload_n hx hb dX4_areAlike_17 rfl (lv_at hl 3 rfl) ?_
      refine lv_iload hx hb dX4_areAlike_18 (lv_at hl 0 rfl) ?_
      refine k_roS (As := [.int (nI m), .int (nI k)]) (rest := [.ref a]) hF (c_X4_at l G m k) mw_3_118 mw_3_119 mw_1_5 mw_3_120 hd_X4_at ⟨Nat.le_of_ble_eq_true rfl, Nat.le_of_ble_eq_true rfl⟩ (Rd.of hKx hZ hS) (hP.sub (ws' := []) [] rfl) rfl hl.1 rfl (Nat.le_of_ble_eq_true rfl) dX4_areAlike_20 ⟨Nat.zero_le _, Nat.zero_le _⟩ ?_
      refine n_iald hx hb hK hP 0 0 rfl rfl (by omega) (by decide) dX4_areAlike_23 ?_
      refine lv_aload_n hx hb dX4_areAlike_24 rfl (lv_at hl 2 rfl) ?_
      refine lv_iload_n hx hb dX4_areAlike_25 rfl (lv_at hl 4 rfl) ?_
      refine lv_iload hx hb dX4_areAlike_26 (lv_at hl 0 rfl) ?_
      refine k_roS (As := [.int (nI o), .int (nI k)]) (rest := [.ref a, .int (r (255 + 16 * m + k))]) hF (c_X4_at l G o k) mw_3_118 mw_3_119 mw_1_5 mw_3_120 hd_X4_at ⟨Nat.le_of_ble_eq_true rfl, Nat.le_of_ble_eq_true rfl⟩ (Rd.of hKx hZ hS) (hP.sub (ws' := []) [] rfl) rfl hl.1 rfl (Nat.le_of_ble_eq_true rfl) dX4_areAlike_28 ⟨Nat.zero_le _, Nat.zero_le _⟩ ?_
      refine n_iald hx hb hK hP 0 0 rfl rfl (by omega) (by decide) dX4_areAlike_31 ?_
      refine z_ne hx hb (tgt := 39) ((r (255 + 16 * m + k)).toInt) ((r (255 + 16 * o + k)).toInt) dX4_areAlike_32 (by decide) rfl rfl (fun c_32 => ?_) (fun c_32 => ?_)
      · skip
        refine lv_iconst (v := nI 0) hx hb dX4_areAlike_39 (by decide) ?_
        refine lv_istore_n (lv' := [(3, .int (nI 0)), (4, .int (nI k)), (0, .ref a), (1, .int (nI m)), (2, .int (nI o))]) hx hb dX4_areAlike_40 rfl hl (by decide) rfl (fun ls hl => ?_)
        refine lv_iinc (v := nI (k + 1)) (lv' := [(4, .int (nI (k + 1))), (3, .int (nI 0)), (0, .ref a), (1, .int (nI m)), (2, .int (nI o))]) hx hb dX4_areAlike_41 hl (k := 1) rfl (nI_add _ _) (by decide) rfl (fun ls hl => ?_)
        refine lv_goto (tgt := 5) hx hb dX4_areAlike_44 (by decide) ?_
        exact ih (k + 1) ls (by omega) ⟨(by omega), lv_sub hl [0, 1, 2, 3, 4] (lvr (lvc (by first | exact pI_t' (alk_s c_13 (Int32.toInt_inj.mp c_32)) | exact pI_f' (fun z => c_32 (by rw [z k (by omega)]))) (lvr (lvr (lvr rfl)))))⟩
      · skip
        refine lv_iconst (v := nI 1) hx hb dX4_areAlike_35 (by decide) ?_
        refine lv_goto (tgt := 40) hx hb dX4_areAlike_36 (by decide) ?_
        refine lv_istore_n (lv' := [(3, .int (nI 1)), (4, .int (nI k)), (0, .ref a), (1, .int (nI m)), (2, .int (nI o))]) hx hb dX4_areAlike_40 rfl hl (by decide) rfl (fun ls hl => ?_)
        refine lv_iinc (v := nI (k + 1)) (lv' := [(4, .int (nI (k + 1))), (3, .int (nI 1)), (0, .ref a), (1, .int (nI m)), (2, .int (nI o))]) hx hb dX4_areAlike_41 hl (k := 1) rfl (nI_add _ _) (by decide) rfl (fun ls hl => ?_)
        refine lv_goto (tgt := 5) hx hb dX4_areAlike_44 (by decide) ?_
        exact ih (k + 1) ls (by omega) ⟨(by omega), lv_sub hl [0, 1, 2, 3, 4] (lvr (lvc (by first | exact pI_t' (alk_s c_13 (Int32.toInt_inj.mp c_32)) | exact pI_f' (fun z => c_32 (by rw [z k (by omega)]))) (lvr (lvr (lvr rfl)))))⟩
set_option maxHeartbeats 4000000 in
set_option maxRecDepth 100000 in
theorem c_X4_twin (l : Launch) (G : gT) (a : Nat) (r : Nat → Int32) (m : Nat) (but : Int32) (B : Int) (hm : m < 120) (hB : but.toInt = B) : Ro l G yX4_twin cX4_twin 5 (some .int) 2 [(a, .inl (gI G, 2175, .inl r))] [.ref a, .int (nI m), .int but] (tw r m B) := by
  refine Ro.mk (by decide) (Nat.le_of_ble_eq_true rfl) (fun pq eq sq mq bq tq cq ls hr hlk hF hKx hZ hP hl => ?_)
  have hx := hF.1
  have hb := hF.2.1
  have hml := hF.2.2.1
  have hown : sq.vm.findClass RX4 = some mq.cls := hF.2.2.2.1
  have hts : ∀ w ∈ GW, w.before _ sq = true := hF.2.2.2.2
  have hK := hKx.1
  have hl : lv_has ls 5 [(0, .ref a), (1, .int (nI m)), (2, .int but)] := hl
  have hS : va_S (fun _ => False) sq.heap sq.heap [] := va_S.rf
  have hP : va_P G.1 vwCl [(a, .inl (gI G, 2175, .inl r))] sq.heap := hP
  refine lv_iconst (v := nI 0) hx hb dX4_twin_0 (by decide) ?_
  refine lv_istore_n (lv' := [(3, .int (nI 0)), (0, .ref a), (1, .int (nI m)), (2, .int but)]) hx hb dX4_twin_1 rfl hl (by decide) rfl (fun ls hl => ?_)
  refine wloop (n := 0) [] (fun k ls => (k ≤ m) ∧ (tw r m B = twf r m B (m - k) k) ∧ lv_has ls 5 [(3, .int (nI k)), (0, .ref a), (1, .int (nI m)), (2, .int but)]) (fun k => m - k) ?_ 0 ⟨(by omega), (rfl), lv_sub hl [0, 1, 2, 3] rfl⟩
  intro k ih
  intro ls ⟨hk, ht, hl⟩
  refine lv_iload_n hx hb dX4_twin_2 rfl (lv_at hl 0 rfl) ?_
  refine lv_iload_n hx hb dX4_twin_3 rfl (lv_at hl 2 rfl) ?_
  refine z_ge hx hb (tgt := 60) ((k : Nat) : Int) ((m : Nat) : Int) dX4_twin_4 (by decide) (toI (by omega)) (toI (by omega)) (fun c_4 => ?_) (fun c_4 => ?_)
  · skip
    refine lv_bipush (v := (-6)) hx hb dX4_twin_60 (by decide) ?_
    exact e_ri hx hb hr hlk ((ht.trans (twf_e (by omega))).symm) dX4_twin_62
  · skip
    refine lv_iload_n hx hb dX4_twin_7 rfl (lv_at hl 0 rfl) ?_
    refine lv_iload_n hx hb dX4_twin_8 rfl (lv_at hl 3 rfl) ?_
    refine z_eq hx hb (tgt := 35) ((k : Nat) : Int) B dX4_twin_9 (by decide) (toI (by omega)) hB (fun c_9 => ?_) (fun c_9 => ?_)
    · skip
      refine lv_iconst (v := nI 0) hx hb dX4_twin_35 (by decide) ?_
      refine lv_istore (lv' := [(4, .int (nI 0)), (3, .int (nI k)), (0, .ref a), (1, .int (nI m)), (2, .int but)]) hx hb dX4_twin_36 hl (by decide) rfl (fun ls hl => ?_)
      refine lv_iload hx hb dX4_twin_38 (lv_at hl 0 rfl) ?_
      refine z0_eq hx hb (tgt := 54) 0 dX4_twin_40 (by decide) (by decide) (fun c_40 => ?_) (fun c_40 => ?_)
      · skip
        refine lv_iinc (v := nI (k + 1)) (lv' := [(3, .int (nI (k + 1))), (4, .int (nI 0)), (0, .ref a), (1, .int (nI m)), (2, .int but)]) hx hb dX4_twin_54 hl (k := 1) rfl (nI_add _ _) (by decide) rfl (fun ls hl => ?_)
        refine lv_goto (tgt := 2) hx hb dX4_twin_57 (by decide) ?_
        exact ih (k + 1) ls (by omega) ⟨(by omega), (ht.trans (twf_f (by omega) (fun z => by first | exact z.1.1 c_9 | exact absurd z.1.2.1 (by omega) | exact z.1.2.2 c_28 | exact c_49 z.2))), lv_sub hl [0, 2, 3, 4] rfl⟩
      · skip
        exact absurd c_40 (by decide)
    · skip
      refine lv_aload_n hx hb dX4_twin_12 rfl (lv_at hl 1 rfl) ?_
      refine lv_bipush (v := nI 15) hx hb dX4_twin_13 (by decide) ?_
      refine lv_iload_n hx hb dX4_twin_15 rfl (lv_at hl 0 rfl) ?_
      refine n_iadd hx hb dX4_twin_16 ?_
      refine n_iald hx hb hK hP 0 0 rfl rfl (by omega) (by decide) dX4_twin_17 ?_
      refine z0_le hx hb (tgt := 35) ((r (15 + k)).toInt) dX4_twin_18 (by decide) rfl (fun c_18 => ?_) (fun c_18 => ?_)
      · skip
        refine lv_iconst (v := nI 0) hx hb dX4_twin_35 (by decide) ?_
        refine lv_istore (lv' := [(4, .int (nI 0)), (3, .int (nI k)), (0, .ref a), (1, .int (nI m)), (2, .int but)]) hx hb dX4_twin_36 hl (by decide) rfl (fun ls hl => ?_)
        refine lv_iload hx hb dX4_twin_38 (lv_at hl 0 rfl) ?_
        refine z0_eq hx hb (tgt := 54) 0 dX4_twin_40 (by decide) (by decide) (fun c_40 => ?_) (fun c_40 => ?_)
        · skip
          refine lv_iinc (v := nI (k + 1)) (lv' := [(3, .int (nI (k + 1))), (4, .int (nI 0)), (0, .ref a), (1, .int (nI m)), (2, .int but)]) hx hb dX4_twin_54 hl (k := 1) rfl (nI_add _ _) (by decide) rfl (fun ls hl => ?_)
          refine lv_goto (tgt := 2) hx hb dX4_twin_57 (by decide) ?_
          exact ih (k + 1) ls (by omega) ⟨(by omega), (ht.trans (twf_f (by omega) (fun z => by first | exact z.1.1 c_9 | exact absurd z.1.2.1 (by omega) | exact z.1.2.2 c_28 | exact c_49 z.2))), lv_sub hl [0, 2, 3, 4] rfl⟩
        · skip
          exact absurd c_40 (by decide)
      · skip
        refine lv_aload_n hx hb dX4_twin_21 rfl (lv_at hl 1 rfl) ?_
        refine lv_bipush (v := nI 15) hx hb dX4_twin_22 (by decide) ?_
        refine lv_iload_n hx hb dX4_twin_24 rfl (lv_at hl 0 rfl) ?_
        refine n_iadd hx hb dX4_twin_25 ?_
        refine n_iald hx hb hK hP 0 0 rfl rfl (by omega) (by decide) dX4_twin_26 ?_
        refine lv_iconst (v := nI 2) hx hb dX4_twin_27 (by decide) ?_
        refine z_eq hx hb (tgt := 35) ((r (15 + k)).toInt) 2 dX4_twin_28 (by decide) rfl (by decide) (fun c_28 => ?_) (fun c_28 => ?_)
        · skip
          refine lv_iconst (v := nI 0) hx hb dX4_twin_35 (by decide) ?_
          refine lv_istore (lv' := [(4, .int (nI 0)), (3, .int (nI k)), (0, .ref a), (1, .int (nI m)), (2, .int but)]) hx hb dX4_twin_36 hl (by decide) rfl (fun ls hl => ?_)
          refine lv_iload hx hb dX4_twin_38 (lv_at hl 0 rfl) ?_
          refine z0_eq hx hb (tgt := 54) 0 dX4_twin_40 (by decide) (by decide) (fun c_40 => ?_) (fun c_40 => ?_)
          · skip
            refine lv_iinc (v := nI (k + 1)) (lv' := [(3, .int (nI (k + 1))), (4, .int (nI 0)), (0, .ref a), (1, .int (nI m)), (2, .int but)]) hx hb dX4_twin_54 hl (k := 1) rfl (nI_add _ _) (by decide) rfl (fun ls hl => ?_)
            refine lv_goto (tgt := 2) hx hb dX4_twin_57 (by decide) ?_
            exact ih (k + 1) ls (by omega) ⟨(by omega), (ht.trans (twf_f (by omega) (fun z => by first | exact z.1.1 c_9 | exact absurd z.1.2.1 (by omega) | exact z.1.2.2 c_28 | exact c_49 z.2))), lv_sub hl [0, 2, 3, 4] rfl⟩
          · skip
            exact absurd c_40 (by decide)
        · skip
          refine lv_iconst (v := nI 1) hx hb dX4_twin_31 (by decide) ?_
          refine lv_goto (tgt := 36) hx hb dX4_twin_32 (by decide) ?_
          refine lv_istore (lv' := [(4, .int (nI 1)), (3, .int (nI k)), (0, .ref a), (1, .int (nI m)), (2, .int but)]) hx hb dX4_twin_36 hl (by decide) rfl (fun ls hl => ?_)
          refine lv_iload hx hb dX4_twin_38 (lv_at hl 0 rfl) ?_
          refine z0_eq hx hb (tgt := 54) 1 dX4_twin_40 (by decide) (by decide) (fun c_40 => ?_) (fun c_40 => ?_)
          · skip
            exact absurd c_40 (by decide)
          · skip
            refine lv_aload_n hx hb dX4_twin_43 rfl (lv_at hl 2 rfl) ?_
            refine lv_iload_n hx hb dX4_twin_44 rfl (lv_at hl 3 rfl) ?_
            refine lv_iload_n hx hb dX4_twin_45 rfl (lv_at hl 1 rfl) ?_
            refine k_roS (As := [.ref a, .int (nI m), .int (nI k)]) (rest := []) hF (c_X4_areAlike l G a r m k (by omega) (by omega)) mw_3_127 mw_3_128 mw_1_5 mw_3_129 hd_X4_areAlike ⟨Nat.le_of_ble_eq_true rfl, Nat.le_of_ble_eq_true rfl⟩ (Rd.of hKx hZ hS) (hP.sub (ws' := [(a, .inl (gI G, 2175, .inl r))]) [0] rfl) rfl hl.1 rfl (Nat.le_of_ble_eq_true rfl) dX4_twin_46 ⟨Nat.zero_le _, Nat.zero_le _⟩ ?_
            refine p0_eq hx hb (tgt := 54) dX4_twin_49 (by decide) (fun c_49 => ?_) (fun c_49 => ?_)
            · skip
              refine lv_iinc (v := nI (k + 1)) (lv' := [(3, .int (nI (k + 1))), (4, .int (nI 1)), (0, .ref a), (1, .int (nI m)), (2, .int but)]) hx hb dX4_twin_54 hl (k := 1) rfl (nI_add _ _) (by decide) rfl (fun ls hl => ?_)
              refine lv_goto (tgt := 2) hx hb dX4_twin_57 (by decide) ?_
              exact ih (k + 1) ls (by omega) ⟨(by omega), (ht.trans (twf_f (by omega) (fun z => by first | exact z.1.1 c_9 | exact absurd z.1.2.1 (by omega) | exact z.1.2.2 c_28 | exact c_49 z.2))), lv_sub hl [0, 2, 3, 4] rfl⟩
            · skip
              refine lv_iload_n hx hb dX4_twin_52 rfl (lv_at hl 1 rfl) ?_
              exact e_ri hx hb hr hlk ((ht.trans (twf_t (by omega) ⟨⟨c_9, by omega, c_28⟩, c_49⟩)).symm) dX4_twin_53
set_option maxHeartbeats 4000000 in
set_option maxRecDepth 100000 in
theorem c_X4_sizeIn (l : Launch) (G : gT) (a : Nat) (r : Nat → Int32) (m : Nat) (fo : Int32) (F : Int) (but : Int32) (B : Int) (hm : m < 120) (hF0 : fo.toInt = F) (hB : but.toInt = B) : Ro l G yX4_sizeIn cX4_sizeIn 5 (some .int) 3 [(a, .inl (gI G, 2175, .inl r))] [.ref a, .int (nI m), .int fo, .int but] (siz r m B F) := by
  refine Ro.mk (by decide) (Nat.le_of_ble_eq_true rfl) (fun pq eq sq mq bq tq cq ls hr hlk hF hKx hZ hP hl => ?_)
  have hx := hF.1
  have hb := hF.2.1
  have hml := hF.2.2.1
  have hown : sq.vm.findClass RX4 = some mq.cls := hF.2.2.2.1
  have hts : ∀ w ∈ GW, w.before _ sq = true := hF.2.2.2.2
  have hK := hKx.1
  have hl : lv_has ls 5 [(0, .ref a), (1, .int (nI m)), (2, .int fo), (3, .int but)] := hl
  have hS : va_S (fun _ => False) sq.heap sq.heap [] := va_S.rf
  have hP : va_P G.1 vwCl [(a, .inl (gI G, 2175, .inl r))] sq.heap := hP
  have hmi : mIn r m ≤ 496 := mIk_le r m 16
  have hri : rns r m ≤ 496 := rnk_le r m 16
  refine lv_aload_n hx hb dX4_sizeIn_0 rfl (lv_at hl 0 rfl) ?_
  refine lv_iload_n hx hb dX4_sizeIn_1 rfl (lv_at hl 1 rfl) ?_
  refine k_roS (As := [.ref a, .int (nI m)]) (rest := []) hF (c_X4_marksIn l G a r m (by omega)) mw_3_115 mw_3_116 mw_1_5 mw_3_117 hd_X4_marksIn ⟨Nat.le_of_ble_eq_true rfl, Nat.le_of_ble_eq_true rfl⟩ (Rd.of hKx hZ hS) (hP.sub (ws' := [(a, .inl (gI G, 2175, .inl r))]) [0] rfl) rfl hl.1 rfl (Nat.le_of_ble_eq_true rfl) dX4_sizeIn_2 ⟨Nat.zero_le _, Nat.zero_le _⟩ ?_
  refine lv_istore (lv' := [(4, .int (nI (mIn r m))), (0, .ref a), (1, .int (nI m)), (2, .int fo), (3, .int but)]) hx hb dX4_sizeIn_5 hl (by decide) rfl (fun ls hl => ?_)
  refine lv_iload_n hx hb dX4_sizeIn_7 rfl (lv_at hl 3 rfl) ?_
  have sw_8 : fo.toInt = F := hF0
  rcases (show (F < 0 ∨ 3 < F) ∨ F = 0 ∨ F = 1 ∨ F = 2 ∨ F = 3 by omega) with c_8 | c_8 | c_8 | c_8 | c_8
  · skip
    refine lv_tableOut (tgt := 87) hx hb dX4_sizeIn_8 (by rw [sw_8]; exact c_8) (by decide) ?_
    refine lv_bipush (v := nI 16) hx hb dX4_sizeIn_87 (by decide) ?_
    exact e_ri hx hb hr hlk (by unfold siz; rw [if_neg (by omega), if_neg (by omega), if_neg (by omega), if_neg (by omega)]) dX4_sizeIn_89
  · skip
    refine lv_tableIn (tgt := 40) hx hb dX4_sizeIn_8 (by rw [sw_8, c_8]; decide) (by rw [sw_8, c_8]; decide) (by rw [sw_8, c_8]; rfl) (by decide) ?_
    refine lv_iload hx hb dX4_sizeIn_40 (lv_at hl 0 rfl) ?_
    refine z0_ne hx hb (tgt := 49) ((mIn r m : Nat) : Int) dX4_sizeIn_42 (by decide) (toI (by omega)) (fun c_42 => ?_) (fun c_42 => ?_)
    · skip
      refine lv_bipush (v := (-6)) hx hb dX4_sizeIn_49 (by decide) ?_
      exact e_ri hx hb hr hlk (by unfold siz; rw [if_pos c_8]; first | rw [if_pos (by omega)] | rw [if_neg (by omega)]) dX4_sizeIn_51
    · skip
      refine lv_iconst (v := nI 0) hx hb dX4_sizeIn_45 (by decide) ?_
      refine lv_goto (tgt := 51) hx hb dX4_sizeIn_46 (by decide) ?_
      exact e_ri hx hb hr hlk (by unfold siz; rw [if_pos c_8]; first | rw [if_pos (by omega)] | rw [if_neg (by omega)]) dX4_sizeIn_51
  · skip
    refine lv_tableIn (tgt := 52) hx hb dX4_sizeIn_8 (by rw [sw_8, c_8]; decide) (by rw [sw_8, c_8]; decide) (by rw [sw_8, c_8]; rfl) (by decide) ?_
    refine lv_aload_n hx hb dX4_sizeIn_52 rfl (lv_at hl 1 rfl) ?_
    refine lv_iload_n hx hb dX4_sizeIn_53 rfl (lv_at hl 2 rfl) ?_
    refine lv_iload_n hx hb dX4_sizeIn_54 rfl (lv_at hl 4 rfl) ?_
    refine k_roS (As := [.ref a, .int (nI m), .int but]) (rest := []) hF (c_X4_twin l G a r m but B (by omega) hB) mw_3_124 mw_3_125 mw_1_5 mw_3_126 hd_X4_twin ⟨Nat.le_of_ble_eq_true rfl, Nat.le_of_ble_eq_true rfl⟩ (Rd.of hKx hZ hS) (hP.sub (ws' := [(a, .inl (gI G, 2175, .inl r))]) [0] rfl) rfl hl.1 rfl (Nat.le_of_ble_eq_true rfl) dX4_sizeIn_55 ⟨Nat.zero_le _, Nat.zero_le _⟩ ?_
    refine lv_bipush (v := (-6)) hx hb dX4_sizeIn_58 (by decide) ?_
    refine z_ne hx hb (tgt := 68) ((tw r m B).toInt) (-6) dX4_sizeIn_60 (by decide) rfl (by decide) (fun c_60 => ?_) (fun c_60 => ?_)
    · skip
      refine lv_iconst (v := nI 1) hx hb dX4_sizeIn_68 (by decide) ?_
      exact e_ri hx hb hr hlk (by unfold siz; rw [if_neg (by omega), if_pos c_8]; first | rw [if_pos (Int32.toInt_inj.mp c_60)] | rw [if_neg (fun z => c_60 (by rw [z]; rfl))]) dX4_sizeIn_69
    · skip
      refine lv_bipush (v := (-6)) hx hb dX4_sizeIn_63 (by decide) ?_
      refine lv_goto (tgt := 69) hx hb dX4_sizeIn_65 (by decide) ?_
      exact e_ri hx hb hr hlk (by unfold siz; rw [if_neg (by omega), if_pos c_8]; first | rw [if_pos (Int32.toInt_inj.mp c_60)] | rw [if_neg (fun z => c_60 (by rw [z]; rfl))]) dX4_sizeIn_69
  · skip
    refine lv_tableIn (tgt := 70) hx hb dX4_sizeIn_8 (by rw [sw_8, c_8]; decide) (by rw [sw_8, c_8]; decide) (by rw [sw_8, c_8]; rfl) (by decide) ?_
    refine lv_iconst (v := nI 1) hx hb dX4_sizeIn_70 (by decide) ?_
    refine lv_aload_n hx hb dX4_sizeIn_71 rfl (lv_at hl 1 rfl) ?_
    refine lv_iload_n hx hb dX4_sizeIn_72 rfl (lv_at hl 2 rfl) ?_
    refine k_roS (As := [.ref a, .int (nI m)]) (rest := [.int (nI 1)]) hF (c_X4_runsIn l G a r m (by omega)) mw_3_130 mw_3_131 mw_1_5 mw_3_132 hd_X4_runsIn ⟨Nat.le_of_ble_eq_true rfl, Nat.le_of_ble_eq_true rfl⟩ (Rd.of hKx hZ hS) (hP.sub (ws' := [(a, .inl (gI G, 2175, .inl r))]) [0] rfl) rfl hl.1 rfl (Nat.le_of_ble_eq_true rfl) dX4_sizeIn_73 ⟨Nat.zero_le _, Nat.zero_le _⟩ ?_
    refine n_iadd hx hb dX4_sizeIn_76 ?_
    exact e_ri hx hb hr hlk (by unfold siz; rw [if_neg (by omega), if_neg (by omega), if_pos c_8]) dX4_sizeIn_77
  · skip
    refine lv_tableIn (tgt := 78) hx hb dX4_sizeIn_8 (by rw [sw_8, c_8]; decide) (by rw [sw_8, c_8]; decide) (by rw [sw_8, c_8]; rfl) (by decide) ?_
    refine lv_iconst (v := nI 1) hx hb dX4_sizeIn_78 (by decide) ?_
    refine lv_iload hx hb dX4_sizeIn_79 (lv_at hl 0 rfl) ?_
    refine lv_iconst (v := nI 2) hx hb dX4_sizeIn_81 (by decide) ?_
    refine n_iadd hx hb dX4_sizeIn_82 ?_
    refine lv_iconst (v := nI 3) hx hb dX4_sizeIn_83 (by decide) ?_
    refine n_idiv hx hb (by omega) (by omega) (by omega) dX4_sizeIn_84 ?_
    refine n_iadd hx hb dX4_sizeIn_85 ?_
    exact e_ri hx hb hr hlk (by unfold siz; rw [if_neg (by omega), if_neg (by omega), if_neg (by omega), if_pos c_8]) dX4_sizeIn_86
set_option maxHeartbeats 4000000 in
set_option maxRecDepth 100000 in
theorem c_X4_sizeOf (l : Launch) (G : gT) (a : Nat) (r : Nat → Int32) (m : Nat) (hm : m < 120) : Ro l G yX4_sizeOf cX4_sizeOf 3 (some .int) 4 [(a, .inl (gI G, 2175, .inl r))] [.ref a, .int (nI m)] (szo r m) := by
  refine Ro.mk (by decide) (Nat.le_of_ble_eq_true rfl) (fun pq eq sq mq bq tq cq ls hr hlk hF hKx hZ hP hl => ?_)
  have hx := hF.1
  have hb := hF.2.1
  have hml := hF.2.2.1
  have hown : sq.vm.findClass RX4 = some mq.cls := hF.2.2.2.1
  have hts : ∀ w ∈ GW, w.before _ sq = true := hF.2.2.2.2
  have hK := hKx.1
  have hl : lv_has ls 3 [(0, .ref a), (1, .int (nI m))] := hl
  have hS : va_S (fun _ => False) sq.heap sq.heap [] := va_S.rf
  have hP : va_P G.1 vwCl [(a, .inl (gI G, 2175, .inl r))] sq.heap := hP
  refine lv_aload_n hx hb dX4_sizeOf_0 rfl (lv_at hl 0 rfl) ?_
  refine lv_bipush (v := nI 15) hx hb dX4_sizeOf_1 (by decide) ?_
  refine lv_iload_n hx hb dX4_sizeOf_3 rfl (lv_at hl 1 rfl) ?_
  refine n_iadd hx hb dX4_sizeOf_4 ?_
  refine n_iald hx hb hK hP 0 0 rfl rfl (by omega) (by decide) dX4_sizeOf_5 ?_
  refine lv_iconst (v := nI 1) hx hb dX4_sizeOf_6 (by decide) ?_
  refine lv_isub hx hb dX4_sizeOf_7 ?_
  refine lv_istore_n (lv' := [(2, .int ((r (15 + m)) - (nI 1))), (0, .ref a), (1, .int (nI m))]) hx hb dX4_sizeOf_8 rfl hl (by decide) rfl (fun ls hl => ?_)
  refine lv_iload_n hx hb dX4_sizeOf_9 rfl (lv_at hl 0 rfl) ?_
  refine z0_ge hx hb (tgt := 18) (((r (15 + m)) - (nI 1)).toInt) dX4_sizeOf_10 (by decide) rfl (fun c_10 => ?_) (fun c_10 => ?_)
  · skip
    refine lv_iload_n hx hb dX4_sizeOf_18 rfl (lv_at hl 0 rfl) ?_
    refine lv_iconst (v := nI 1) hx hb dX4_sizeOf_19 (by decide) ?_
    refine z_ne hx hb (tgt := 27) (((r (15 + m)) - (nI 1)).toInt) 1 dX4_sizeOf_20 (by decide) rfl (by decide) (fun c_20 => ?_) (fun c_20 => ?_)
    · skip
      refine lv_aload_n hx hb dX4_sizeOf_27 rfl (lv_at hl 1 rfl) ?_
      refine lv_iload_n hx hb dX4_sizeOf_28 rfl (lv_at hl 2 rfl) ?_
      refine lv_iload_n hx hb dX4_sizeOf_29 rfl (lv_at hl 0 rfl) ?_
      refine lv_bipush (v := (-6)) hx hb dX4_sizeOf_30 (by decide) ?_
      refine k_roS (As := [.ref a, .int (nI m), .int ((r (15 + m)) - (nI 1)), .int (-6)]) (rest := []) hF (c_X4_sizeIn l G a r m ((r (15 + m)) - (nI 1)) (((r (15 + m)) - (nI 1)).toInt) (-6) (-6) (by omega) rfl (by decide)) mw_3_112 mw_3_113 mw_1_5 mw_3_114 hd_X4_sizeIn ⟨Nat.le_of_ble_eq_true rfl, Nat.le_of_ble_eq_true rfl⟩ (Rd.of hKx hZ hS) (hP.sub (ws' := [(a, .inl (gI G, 2175, .inl r))]) [0] rfl) rfl hl.1 rfl (Nat.le_of_ble_eq_true rfl) dX4_sizeOf_32 ⟨Nat.zero_le _, Nat.zero_le _⟩ ?_
      exact e_ri hx hb hr hlk (by unfold szo; first | rw [if_pos c_10] | rw [if_neg (by omega), if_pos c_20] | rw [if_neg (by omega), if_neg c_20]) dX4_sizeOf_35
    · skip
      refine lv_iconst (v := nI 1) hx hb dX4_sizeOf_23 (by decide) ?_
      refine lv_goto (tgt := 35) hx hb dX4_sizeOf_24 (by decide) ?_
      exact e_ri hx hb hr hlk (by unfold szo; first | rw [if_pos c_10] | rw [if_neg (by omega), if_pos c_20] | rw [if_neg (by omega), if_neg c_20]) dX4_sizeOf_35
  · skip
    refine lv_bipush (v := nI 16) hx hb dX4_sizeOf_13 (by decide) ?_
    refine lv_goto (tgt := 35) hx hb dX4_sizeOf_15 (by decide) ?_
    exact e_ri hx hb hr hlk (by unfold szo; first | rw [if_pos c_10] | rw [if_neg (by omega), if_pos c_20] | rw [if_neg (by omega), if_neg c_20]) dX4_sizeOf_35
end
section
theorem hd_X4_fold : hdY yX4_fold 3 := ⟨by decide +kernel, by decide +kernel, by decide +kernel⟩
theorem hd_X4_placeOf : hdY yX4_placeOf 2 := ⟨by decide +kernel, by decide +kernel, by decide +kernel⟩
theorem hd_X4_takeOut : hdY yX4_takeOut 2 := ⟨by decide +kernel, by decide +kernel, by decide +kernel⟩
theorem hd_X4_unfold : hdY yX4_unfold 2 := ⟨by decide +kernel, by decide +kernel, by decide +kernel⟩
theorem hd_X4_foldAgain : hdY yX4_foldAgain 1 := ⟨by decide +kernel, by decide +kernel, by decide +kernel⟩
theorem hd_X4_toEnd : hdY yX4_toEnd 2 := ⟨by decide +kernel, by decide +kernel, by decide +kernel⟩
theorem hd_X4_look : hdY yX4_look 2 := ⟨by decide +kernel, by decide +kernel, by decide +kernel⟩
theorem hd_X4_lay : hdY yX4_lay 5 := ⟨by decide +kernel, by decide +kernel, by decide +kernel⟩
set_option maxHeartbeats 4000000 in
set_option maxRecDepth 100000 in
theorem c_X4_fold (l : Launch) (G : gT) (sz : Nat) (a : Nat) (r : Nat → Int32) (m : Nat) (but : Int32) (B : Int) (hm : m < 120) (hB : but.toInt = B) : Rv l G yX4_fold cX4_fold 6 none 5 sz [(a, .inl (gI G, 2175, .inl r))] [.ref a, .int (nI m), .int but] [(a, .inl (gI G, 2175, .inl (fld r m B)))] := by
  refine Rv.mk (by decide) (Nat.le_of_ble_eq_true rfl) (fun pq eq sq mq bq tq cq ls A hr hlk hF hKx hZ hA hP hD hS hl => ?_)
  have hx := hF.1
  have hb := hF.2.1
  have hml := hF.2.2.1
  have hown : sq.vm.findClass RX4 = some mq.cls := hF.2.2.2.1
  have hts : ∀ w ∈ GW, w.before _ sq = true := hF.2.2.2.2
  have hK := hKx.1
  have hl : lv_has ls 6 [(0, .ref a), (1, .int (nI m)), (2, .int but)] := hl
  have hP : va_P G.1 vwCl [(a, .inl (gI G, 2175, .inl r))] sq.heap := hP
  have hD : va_D A [(a, .inl (gI G, 2175, .inl r))] := hD
  refine lv_iconst (v := nI 4) hx hb dX4_fold_0 (by decide) ?_
  refine lv_istore_n (lv' := [(3, .int (nI 4)), (0, .ref a), (1, .int (nI m)), (2, .int but)]) hx hb dX4_fold_1 rfl hl (by decide) rfl (fun ls hl => ?_)
  refine lv_iconst (v := nI 3) hx hb dX4_fold_2 (by decide) ?_
  refine lv_istore (lv' := [(4, .int (nI 3)), (3, .int (nI 4)), (0, .ref a), (1, .int (nI m)), (2, .int but)]) hx hb dX4_fold_3 hl (by decide) rfl (fun ls hl => ?_)
  have hPj := hP.sub (ws' := [(a, .inl (gI G, 2175, .inl r))]) [0] rfl
  have hDj := hD.sub (ws' := [(a, .inl (gI G, 2175, .inl r))]) [0] (by decide) rfl
  refine wloopH [] (fun k H locs ls => (k ≤ 4) ∧ va_P G.1 vwCl [(a, .inl (gI G, 2175, .inl r))] H ∧ va_D A [(a, .inl (gI G, 2175, .inl r))] ∧ va_S A sq.heap H locs ∧ lv_has ls 6 [(4, .int (fof k)), (3, .int (nI (bsj r m B k))), (0, .ref a), (1, .int (nI m)), (2, .int but)]) (fun k => 4 - k) ?_ 0 ⟨(by omega), hPj, hDj, hS, lv_sub hl [0, 1, 2, 3, 4] (lvr (lvc (by first | rfl | exact congrArg nI (by omega)) (lvr (lvr (lvr rfl)))))⟩
  intro k ih
  intro H locs ls ⟨hk, hP, hD, hS, hl⟩
  have hbs := bsj_le r m B k
  refine lv_iload hx hb dX4_fold_5 (lv_at hl 0 rfl) ?_
  refine z0_lt hx hb (tgt := 52) ((3 : Int) - (k : Int)) dX4_fold_7 (by decide) (fof_i hk) (fun c_7 => ?_) (fun c_7 => ?_)
  · skip
    have hk2 : k = 4 := by omega
    subst hk2
    refine lv_aload_n hx hb dX4_fold_52 rfl (lv_at hl 2 rfl) ?_
    refine lv_sipush (v := nI 135) hx hb dX4_fold_53 (by decide) ?_
    refine lv_iload_n hx hb dX4_fold_56 rfl (lv_at hl 3 rfl) ?_
    refine n_iadd hx hb dX4_fold_57 ?_
    refine lv_iload_n hx hb dX4_fold_58 rfl (lv_at hl 1 rfl) ?_
    refine lv_iconst (v := nI 1) hx hb dX4_fold_59 (by decide) ?_
    refine z_ne hx hb (tgt := 72) ((bsj r m B 4 : Nat) : Int) 1 dX4_fold_60 (by decide) (toI (by omega)) (by decide) (fun c_60 => ?_) (fun c_60 => ?_)
    · skip
      refine lv_iconst (v := nI 0) hx hb dX4_fold_72 (by decide) ?_
      refine n_iast hx hb hK hP hD hS 0 0 rfl rfl (by omega) (by decide) dX4_fold_73 (fun H locs hP hD hS => ?_)
      have hP : va_P G.1 vwCl [(a, .inl (gI G, 2175, .inl (upd r (135 + m) (nI 0))))] H := hP
      have hD : va_D A [(a, .inl (gI G, 2175, .inl (upd r (135 + m) (nI 0))))] := hD
      have hw_1 : ([(a, .inl (gI G, 2175, .inl (upd r (135 + m) (nI 0))))] : va_W) = [(a, .inl (gI G, 2175, .inl (fl1 r m B)))] := (wlc (wli (by unfold fl1; first | exact congrArg (upd r (135 + m)) (cI_t (show bsj r m B 4 = 1 by omega)).symm | exact congrArg (upd r (135 + m)) (cI_f (show ¬ bsj r m B 4 = 1 by omega)).symm)) rfl)
      rw [hw_1] at hP hD
      refine lv_aload_n hx hb dX4_fold_74 rfl (lv_at hl 2 rfl) ?_
      refine lv_bipush (v := nI 15) hx hb dX4_fold_75 (by decide) ?_
      refine lv_iload_n hx hb dX4_fold_77 rfl (lv_at hl 3 rfl) ?_
      refine n_iadd hx hb dX4_fold_78 ?_
      refine lv_iload_n hx hb dX4_fold_79 rfl (lv_at hl 1 rfl) ?_
      refine lv_iconst (v := nI 1) hx hb dX4_fold_80 (by decide) ?_
      refine n_iadd hx hb dX4_fold_81 ?_
      refine n_iast hx hb hK hP hD hS 0 0 rfl rfl (by omega) (by decide) dX4_fold_82 (fun H locs hP hD hS => ?_)
      have hP : va_P G.1 vwCl [(a, .inl (gI G, 2175, .inl (upd (fl1 r m B) (15 + m) (nI (bsj r m B 4 + 1)))))] H := hP
      have hD : va_D A [(a, .inl (gI G, 2175, .inl (upd (fl1 r m B) (15 + m) (nI (bsj r m B 4 + 1)))))] := hD
      have hw_2 : ([(a, .inl (gI G, 2175, .inl (upd (fl1 r m B) (15 + m) (nI (bsj r m B 4 + 1)))))] : va_W) = [(a, .inl (gI G, 2175, .inl (fl2 r m B)))] := (wlc (wli (rfl)) rfl)
      rw [hw_2] at hP hD
      refine lv_aload_n hx hb dX4_fold_83 rfl (lv_at hl 2 rfl) ?_
      refine lv_iconst (v := nI 3) hx hb dX4_fold_84 (by decide) ?_
      refine lv_dup2_11 hx hb dX4_fold_85 rfl rfl ?_
      refine n_iald hx hb hK hP 0 0 rfl rfl (by omega) (by decide) dX4_fold_86 ?_
      refine lv_aload_n hx hb dX4_fold_87 rfl (lv_at hl 2 rfl) ?_
      refine lv_iload_n hx hb dX4_fold_88 rfl (lv_at hl 3 rfl) ?_
      refine k_roS (As := [.ref a, .int (nI m)]) (rest := [.int ((fl2 r m B) 3), .int (nI 3), .ref a]) hF (c_X4_sizeOf l G a (fl2 r m B) m (by omega)) mw_3_133 mw_3_134 mw_1_5 mw_3_135 hd_X4_sizeOf ⟨Nat.le_of_ble_eq_true rfl, Nat.le_of_ble_eq_true rfl⟩ (Rd.of hKx hZ hS) (hP.sub (ws' := [(a, .inl (gI G, 2175, .inl (fl2 r m B)))]) [0] rfl) rfl hl.1 rfl (Nat.le_of_ble_eq_true rfl) dX4_fold_89 ⟨Nat.zero_le _, Nat.zero_le _⟩ ?_
      refine lv_iadd hx hb dX4_fold_92 ?_
      refine n_iast hx hb hK hP hD hS 0 0 rfl rfl (by omega) (by decide) dX4_fold_93 (fun H locs hP hD hS => ?_)
      have hP : va_P G.1 vwCl [(a, .inl (gI G, 2175, .inl (upd (fl2 r m B) 3 (((fl2 r m B) 3) + (szo (fl2 r m B) m)))))] H := hP
      have hD : va_D A [(a, .inl (gI G, 2175, .inl (upd (fl2 r m B) 3 (((fl2 r m B) 3) + (szo (fl2 r m B) m)))))] := hD
      have hw_3 : ([(a, .inl (gI G, 2175, .inl (upd (fl2 r m B) 3 (((fl2 r m B) 3) + (szo (fl2 r m B) m)))))] : va_W) = [(a, .inl (gI G, 2175, .inl (fl3 r m B)))] := (wlc (wli (rfl)) rfl)
      rw [hw_3] at hP hD
      refine lv_aload_n hx hb dX4_fold_94 rfl (lv_at hl 2 rfl) ?_
      refine lv_iconst (v := nI 5) hx hb dX4_fold_95 (by decide) ?_
      refine lv_dup2_11 hx hb dX4_fold_96 rfl rfl ?_
      refine n_iald hx hb hK hP 0 0 rfl rfl (by omega) (by decide) dX4_fold_97 ?_
      refine lv_iconst (v := nI 1) hx hb dX4_fold_98 (by decide) ?_
      refine lv_iadd hx hb dX4_fold_99 ?_
      refine n_iast hx hb hK hP hD hS 0 0 rfl rfl (by omega) (by decide) dX4_fold_100 (fun H locs hP hD hS => ?_)
      have hP : va_P G.1 vwCl [(a, .inl (gI G, 2175, .inl (upd (fl3 r m B) 5 (((fl3 r m B) 5) + (nI 1)))))] H := hP
      have hD : va_D A [(a, .inl (gI G, 2175, .inl (upd (fl3 r m B) 5 (((fl3 r m B) 5) + (nI 1)))))] := hD
      have hw_4 : ([(a, .inl (gI G, 2175, .inl (upd (fl3 r m B) 5 (((fl3 r m B) 5) + (nI 1)))))] : va_W) = [(a, .inl (gI G, 2175, .inl (fld r m B)))] := (wlc (wli (rfl)) rfl)
      rw [hw_4] at hP hD
      have hPj := hP.sub (ws' := [(a, .inl (gI G, 2175, .inl (fld r m B)))]) [0] rfl
      exact e_wv hx hb hr hlk hPj hS dX4_fold_101
    · skip
      refine lv_aload_n hx hb dX4_fold_63 rfl (lv_at hl 2 rfl) ?_
      refine lv_iload_n hx hb dX4_fold_64 rfl (lv_at hl 3 rfl) ?_
      refine lv_iload_n hx hb dX4_fold_65 rfl (lv_at hl 4 rfl) ?_
      refine k_roS (As := [.ref a, .int (nI m), .int but]) (rest := [.int (nI (135 + m)), .ref a]) hF (c_X4_twin l G a r m but B (by omega) hB) mw_3_124 mw_3_125 mw_1_5 mw_3_126 hd_X4_twin ⟨Nat.le_of_ble_eq_true rfl, Nat.le_of_ble_eq_true rfl⟩ (Rd.of hKx hZ hS) (hP.sub (ws' := [(a, .inl (gI G, 2175, .inl r))]) [0] rfl) rfl hl.1 rfl (Nat.le_of_ble_eq_true rfl) dX4_fold_66 ⟨Nat.zero_le _, Nat.zero_le _⟩ ?_
      refine lv_goto (tgt := 73) hx hb dX4_fold_69 (by decide) ?_
      refine n_iast hx hb hK hP hD hS 0 0 rfl rfl (by omega) (by decide) dX4_fold_73 (fun H locs hP hD hS => ?_)
      have hP : va_P G.1 vwCl [(a, .inl (gI G, 2175, .inl (upd r (135 + m) (tw r m B))))] H := hP
      have hD : va_D A [(a, .inl (gI G, 2175, .inl (upd r (135 + m) (tw r m B))))] := hD
      have hw_5 : ([(a, .inl (gI G, 2175, .inl (upd r (135 + m) (tw r m B))))] : va_W) = [(a, .inl (gI G, 2175, .inl (fl1 r m B)))] := (wlc (wli (by unfold fl1; first | exact congrArg (upd r (135 + m)) (cI_t (show bsj r m B 4 = 1 by omega)).symm | exact congrArg (upd r (135 + m)) (cI_f (show ¬ bsj r m B 4 = 1 by omega)).symm)) rfl)
      rw [hw_5] at hP hD
      refine lv_aload_n hx hb dX4_fold_74 rfl (lv_at hl 2 rfl) ?_
      refine lv_bipush (v := nI 15) hx hb dX4_fold_75 (by decide) ?_
      refine lv_iload_n hx hb dX4_fold_77 rfl (lv_at hl 3 rfl) ?_
      refine n_iadd hx hb dX4_fold_78 ?_
      refine lv_iload_n hx hb dX4_fold_79 rfl (lv_at hl 1 rfl) ?_
      refine lv_iconst (v := nI 1) hx hb dX4_fold_80 (by decide) ?_
      refine n_iadd hx hb dX4_fold_81 ?_
      refine n_iast hx hb hK hP hD hS 0 0 rfl rfl (by omega) (by decide) dX4_fold_82 (fun H locs hP hD hS => ?_)
      have hP : va_P G.1 vwCl [(a, .inl (gI G, 2175, .inl (upd (fl1 r m B) (15 + m) (nI (bsj r m B 4 + 1)))))] H := hP
      have hD : va_D A [(a, .inl (gI G, 2175, .inl (upd (fl1 r m B) (15 + m) (nI (bsj r m B 4 + 1)))))] := hD
      have hw_6 : ([(a, .inl (gI G, 2175, .inl (upd (fl1 r m B) (15 + m) (nI (bsj r m B 4 + 1)))))] : va_W) = [(a, .inl (gI G, 2175, .inl (fl2 r m B)))] := (wlc (wli (rfl)) rfl)
      rw [hw_6] at hP hD
      refine lv_aload_n hx hb dX4_fold_83 rfl (lv_at hl 2 rfl) ?_
      refine lv_iconst (v := nI 3) hx hb dX4_fold_84 (by decide) ?_
      refine lv_dup2_11 hx hb dX4_fold_85 rfl rfl ?_
      refine n_iald hx hb hK hP 0 0 rfl rfl (by omega) (by decide) dX4_fold_86 ?_
      refine lv_aload_n hx hb dX4_fold_87 rfl (lv_at hl 2 rfl) ?_
      refine lv_iload_n hx hb dX4_fold_88 rfl (lv_at hl 3 rfl) ?_
      refine k_roS (As := [.ref a, .int (nI m)]) (rest := [.int ((fl2 r m B) 3), .int (nI 3), .ref a]) hF (c_X4_sizeOf l G a (fl2 r m B) m (by omega)) mw_3_133 mw_3_134 mw_1_5 mw_3_135 hd_X4_sizeOf ⟨Nat.le_of_ble_eq_true rfl, Nat.le_of_ble_eq_true rfl⟩ (Rd.of hKx hZ hS) (hP.sub (ws' := [(a, .inl (gI G, 2175, .inl (fl2 r m B)))]) [0] rfl) rfl hl.1 rfl (Nat.le_of_ble_eq_true rfl) dX4_fold_89 ⟨Nat.zero_le _, Nat.zero_le _⟩ ?_
      refine lv_iadd hx hb dX4_fold_92 ?_
      refine n_iast hx hb hK hP hD hS 0 0 rfl rfl (by omega) (by decide) dX4_fold_93 (fun H locs hP hD hS => ?_)
      have hP : va_P G.1 vwCl [(a, .inl (gI G, 2175, .inl (upd (fl2 r m B) 3 (((fl2 r m B) 3) + (szo (fl2 r m B) m)))))] H := hP
      have hD : va_D A [(a, .inl (gI G, 2175, .inl (upd (fl2 r m B) 3 (((fl2 r m B) 3) + (szo (fl2 r m B) m)))))] := hD
      have hw_7 : ([(a, .inl (gI G, 2175, .inl (upd (fl2 r m B) 3 (((fl2 r m B) 3) + (szo (fl2 r m B) m)))))] : va_W) = [(a, .inl (gI G, 2175, .inl (fl3 r m B)))] := (wlc (wli (rfl)) rfl)
      rw [hw_7] at hP hD
      refine lv_aload_n hx hb dX4_fold_94 rfl (lv_at hl 2 rfl) ?_
      refine lv_iconst (v := nI 5) hx hb dX4_fold_95 (by decide) ?_
      refine lv_dup2_11 hx hb dX4_fold_96 rfl rfl ?_
      refine n_iald hx hb hK hP 0 0 rfl rfl (by omega) (by decide) dX4_fold_97 ?_
      refine lv_iconst (v := nI 1) hx hb dX4_fold_98 (by decide) ?_
      refine lv_iadd hx hb dX4_fold_99 ?_
      refine n_iast hx hb hK hP hD hS 0 0 rfl rfl (by omega) (by decide) dX4_fold_100 (fun H locs hP hD hS => ?_)
      have hP : va_P G.1 vwCl [(a, .inl (gI G, 2175, .inl (upd (fl3 r m B) 5 (((fl3 r m B) 5) + (nI 1)))))] H := hP
      have hD : va_D A [(a, .inl (gI G, 2175, .inl (upd (fl3 r m B) 5 (((fl3 r m B) 5) + (nI 1)))))] := hD
      have hw_8 : ([(a, .inl (gI G, 2175, .inl (upd (fl3 r m B) 5 (((fl3 r m B) 5) + (nI 1)))))] : va_W) = [(a, .inl (gI G, 2175, .inl (fld r m B)))] := (wlc (wli (rfl)) rfl)
      rw [hw_8] at hP hD
      have hPj := hP.sub (ws' := [(a, .inl (gI G, 2175, .inl (fld r m B)))]) [0] rfl
      exact e_wv hx hb hr hlk hPj hS dX4_fold_101
  · skip
    refine lv_aload_n hx hb dX4_fold_10 rfl (lv_at hl 2 rfl) ?_
    refine lv_iload_n hx hb dX4_fold_11 rfl (lv_at hl 3 rfl) ?_
    refine lv_iload hx hb dX4_fold_12 (lv_at hl 0 rfl) ?_
    refine lv_iload_n hx hb dX4_fold_14 rfl (lv_at hl 4 rfl) ?_
    refine k_roS (As := [.ref a, .int (nI m), .int (fof k), .int but]) (rest := []) hF (c_X4_sizeIn l G a r m (fof k) ((3 : Int) - (k : Int)) but B (by omega) (fof_i hk) hB) mw_3_112 mw_3_113 mw_1_5 mw_3_114 hd_X4_sizeIn ⟨Nat.le_of_ble_eq_true rfl, Nat.le_of_ble_eq_true rfl⟩ (Rd.of hKx hZ hS) (hP.sub (ws' := [(a, .inl (gI G, 2175, .inl r))]) [0] rfl) rfl hl.1 rfl (Nat.le_of_ble_eq_true rfl) dX4_fold_15 ⟨Nat.zero_le _, Nat.zero_le _⟩ ?_
    refine lv_istore (lv' := [(5, .int (siz r m B ((3 : Int) - (k : Int)))), (4, .int (fof k)), (3, .int (nI (bsj r m B k))), (0, .ref a), (1, .int (nI m)), (2, .int but)]) hx hb dX4_fold_18 hl (by decide) rfl (fun ls hl => ?_)
    refine lv_iload hx hb dX4_fold_20 (lv_at hl 0 rfl) ?_
    refine lv_bipush (v := (-6)) hx hb dX4_fold_22 (by decide) ?_
    refine z_eq hx hb (tgt := 44) ((siz r m B ((3 : Int) - (k : Int))).toInt) (-6) dX4_fold_24 (by decide) rfl (by decide) (fun c_24 => ?_) (fun c_24 => ?_)
    · skip
      refine lv_iload_n hx hb dX4_fold_44 rfl (lv_at hl 2 rfl) ?_
      refine lv_istore_n (lv' := [(3, .int (nI (bsj r m B k))), (5, .int (siz r m B ((3 : Int) - (k : Int)))), (4, .int (fof k)), (0, .ref a), (1, .int (nI m)), (2, .int but)]) hx hb dX4_fold_45 rfl hl (by decide) rfl (fun ls hl => ?_)
      refine lv_iinc (v := fof k + (-1)) (lv' := [(4, .int (fof k + (-1))), (3, .int (nI (bsj r m B k))), (5, .int (siz r m B ((3 : Int) - (k : Int)))), (0, .ref a), (1, .int (nI m)), (2, .int but)]) hx hb dX4_fold_46 hl (k := 2) rfl (rfl) (by decide) rfl (fun ls hl => ?_)
      refine lv_goto (tgt := 5) hx hb dX4_fold_49 (by decide) ?_
      exact ih (k + 1) _ _ ls (by omega) ⟨(by omega), (hP.sub (ws' := [(a, .inl (gI G, 2175, .inl r))]) [0] rfl), (hD.sub (ws' := [(a, .inl (gI G, 2175, .inl r))]) [0] (by decide) rfl), hS, lv_sub hl [0, 1, 3, 4, 5] (lvc (fof_s k (by omega)) (lvc (by first | exact (fof_n k (by omega)).trans (congrArg nI (bsj_t ⟨fun z => c_24 (congrArg Int32.toInt z), c_36⟩).symm) | exact congrArg nI (bsj_f (fun z => by first | exact z.1 (Int32.toInt_inj.mp c_24) | exact absurd z.2 (by omega))).symm) (lvr (lvr (lvr rfl)))))⟩
    · skip
      refine lv_iload hx hb dX4_fold_27 (lv_at hl 0 rfl) ?_
      refine lv_aload_n hx hb dX4_fold_29 rfl (lv_at hl 3 rfl) ?_
      refine lv_iload_n hx hb dX4_fold_30 rfl (lv_at hl 4 rfl) ?_
      refine lv_iload_n hx hb dX4_fold_31 rfl (lv_at hl 2 rfl) ?_
      refine lv_iload_n hx hb dX4_fold_32 rfl (lv_at hl 5 rfl) ?_
      refine k_roS (As := [.ref a, .int (nI m), .int (nI (bsj r m B k)), .int but]) (rest := [.int (siz r m B ((3 : Int) - (k : Int)))]) hF (c_X4_sizeIn l G a r m (nI (bsj r m B k)) ((bsj r m B k : Nat) : Int) but B (by omega) (toI (by omega)) hB) mw_3_112 mw_3_113 mw_1_5 mw_3_114 hd_X4_sizeIn ⟨Nat.le_of_ble_eq_true rfl, Nat.le_of_ble_eq_true rfl⟩ (Rd.of hKx hZ hS) (hP.sub (ws' := [(a, .inl (gI G, 2175, .inl r))]) [0] rfl) rfl hl.1 rfl (Nat.le_of_ble_eq_true rfl) dX4_fold_33 ⟨Nat.zero_le _, Nat.zero_le _⟩ ?_
      refine z_gt hx hb (tgt := 44) ((siz r m B ((3 : Int) - (k : Int))).toInt) ((siz r m B ((bsj r m B k : Nat) : Int)).toInt) dX4_fold_36 (by decide) rfl rfl (fun c_36 => ?_) (fun c_36 => ?_)
      · skip
        refine lv_iload_n hx hb dX4_fold_44 rfl (lv_at hl 2 rfl) ?_
        refine lv_istore_n (lv' := [(3, .int (nI (bsj r m B k))), (5, .int (siz r m B ((3 : Int) - (k : Int)))), (4, .int (fof k)), (0, .ref a), (1, .int (nI m)), (2, .int but)]) hx hb dX4_fold_45 rfl hl (by decide) rfl (fun ls hl => ?_)
        refine lv_iinc (v := fof k + (-1)) (lv' := [(4, .int (fof k + (-1))), (3, .int (nI (bsj r m B k))), (5, .int (siz r m B ((3 : Int) - (k : Int)))), (0, .ref a), (1, .int (nI m)), (2, .int but)]) hx hb dX4_fold_46 hl (k := 2) rfl (rfl) (by decide) rfl (fun ls hl => ?_)
        refine lv_goto (tgt := 5) hx hb dX4_fold_49 (by decide) ?_
        exact ih (k + 1) _ _ ls (by omega) ⟨(by omega), (hP.sub (ws' := [(a, .inl (gI G, 2175, .inl r))]) [0] rfl), (hD.sub (ws' := [(a, .inl (gI G, 2175, .inl r))]) [0] (by decide) rfl), hS, lv_sub hl [0, 1, 3, 4, 5] (lvc (fof_s k (by omega)) (lvc (by first | exact (fof_n k (by omega)).trans (congrArg nI (bsj_t ⟨fun z => c_24 (congrArg Int32.toInt z), c_36⟩).symm) | exact congrArg nI (bsj_f (fun z => by first | exact z.1 (Int32.toInt_inj.mp c_24) | exact absurd z.2 (by omega))).symm) (lvr (lvr (lvr rfl)))))⟩
      · skip
        refine lv_iload hx hb dX4_fold_39 (lv_at hl 1 rfl) ?_
        refine lv_goto (tgt := 45) hx hb dX4_fold_41 (by decide) ?_
        refine lv_istore_n (lv' := [(3, .int (fof k)), (5, .int (siz r m B ((3 : Int) - (k : Int)))), (4, .int (fof k)), (0, .ref a), (1, .int (nI m)), (2, .int but)]) hx hb dX4_fold_45 rfl hl (by decide) rfl (fun ls hl => ?_)
        refine lv_iinc (v := fof k + (-1)) (lv' := [(4, .int (fof k + (-1))), (3, .int (fof k)), (5, .int (siz r m B ((3 : Int) - (k : Int)))), (0, .ref a), (1, .int (nI m)), (2, .int but)]) hx hb dX4_fold_46 hl (k := 2) rfl (rfl) (by decide) rfl (fun ls hl => ?_)
        refine lv_goto (tgt := 5) hx hb dX4_fold_49 (by decide) ?_
        exact ih (k + 1) _ _ ls (by omega) ⟨(by omega), (hP.sub (ws' := [(a, .inl (gI G, 2175, .inl r))]) [0] rfl), (hD.sub (ws' := [(a, .inl (gI G, 2175, .inl r))]) [0] (by decide) rfl), hS, lv_sub hl [0, 1, 3, 4, 5] (lvc (fof_s k (by omega)) (lvc (by first | exact (fof_n k (by omega)).trans (congrArg nI (bsj_t ⟨fun z => c_24 (congrArg Int32.toInt z), c_36⟩).symm) | exact congrArg nI (bsj_f (fun z => by first | exact z.1 (Int32.toInt_inj.mp c_24) | exact absurd z.2 (by omega))).symm) (lvr (lvr (lvr rfl)))))⟩
set_option maxHeartbeats 4000000 in
set_option maxRecDepth 100000 in
theorem c_X4_placeOf (l : Launch) (G : gT) (a : Nat) (r : Nat → Int32) (m : Nat) (hm : m < 120) (h6 : r 6 = nI (ny r)) (hc : ny r ≤ 8) : Ro l G yX4_placeOf cX4_placeOf 3 (some .int) 0 [(a, .inl (gI G, 2175, .inl r))] [.ref a, .int (nI m)] (plo r m) := by
  refine Ro.mk (by decide) (Nat.le_of_ble_eq_true rfl) (fun pq eq sq mq bq tq cq ls hr hlk hF hKx hZ hP hl => ?_)
  have hx := hF.1
  have hb := hF.2.1
  have hml := hF.2.2.1
  have hown : sq.vm.findClass RX4 = some mq.cls := hF.2.2.2.1
  have hts : ∀ w ∈ GW, w.before _ sq = true := hF.2.2.2.2
  have hK := hKx.1
  have hl : lv_has ls 3 [(0, .ref a), (1, .int (nI m))] := hl
  have hS : va_S (fun _ => False) sq.heap sq.heap [] := va_S.rf
  have hP : va_P G.1 vwCl [(a, .inl (gI G, 2175, .inl r))] sq.heap := hP
  refine lv_iconst (v := nI 0) hx hb dX4_placeOf_0 (by decide) ?_
  refine lv_istore_n (lv' := [(2, .int (nI 0)), (0, .ref a), (1, .int (nI m))]) hx hb dX4_placeOf_1 rfl hl (by decide) rfl (fun ls hl => ?_)
  refine wloop (n := 0) [] (fun k ls => (k ≤ ny r) ∧ (plo r m = plf r m (ny r - k) k) ∧ lv_has ls 3 [(2, .int (nI k)), (0, .ref a), (1, .int (nI m))]) (fun k => ny r - k) ?_ 0 ⟨(by omega), (rfl), lv_sub hl [0, 1, 2] rfl⟩
  intro k ih
  intro ls ⟨hk, ht, hl⟩
  refine lv_iload_n hx hb dX4_placeOf_2 rfl (lv_at hl 0 rfl) ?_
  refine lv_aload_n hx hb dX4_placeOf_3 rfl (lv_at hl 1 rfl) ?_
  refine lv_bipush (v := nI 6) hx hb dX4_placeOf_4 (by decide) ?_
  refine n_iald hx hb hK hP 0 0 rfl rfl (by omega) (by decide) dX4_placeOf_6 ?_
  refine lv_cv (y := nI (ny r)) (h6) ?_
  refine z_ge hx hb (tgt := 28) ((k : Nat) : Int) ((ny r : Nat) : Int) dX4_placeOf_7 (by decide) (toI (by omega)) (toI (by omega)) (fun c_7 => ?_) (fun c_7 => ?_)
  · skip
    refine lv_bipush (v := (-6)) hx hb dX4_placeOf_28 (by decide) ?_
    exact e_ri hx hb hr hlk ((ht.trans (plf_e (by omega))).symm) dX4_placeOf_30
  · skip
    refine lv_aload_n hx hb dX4_placeOf_10 rfl (lv_at hl 1 rfl) ?_
    refine lv_bipush (v := nI 7) hx hb dX4_placeOf_11 (by decide) ?_
    refine lv_iload_n hx hb dX4_placeOf_13 rfl (lv_at hl 0 rfl) ?_
    refine n_iadd hx hb dX4_placeOf_14 ?_
    refine n_iald hx hb hK hP 0 0 rfl rfl (by omega) (by decide) dX4_placeOf_15 ?_
    refine lv_iload_n hx hb dX4_placeOf_16 rfl (lv_at hl 2 rfl) ?_
    refine z_ne hx hb (tgt := 22) ((r (7 + k)).toInt) ((m : Nat) : Int) dX4_placeOf_17 (by decide) rfl (toI (by omega)) (fun c_17 => ?_) (fun c_17 => ?_)
    · skip
      refine lv_iinc (v := nI (k + 1)) (lv' := [(2, .int (nI (k + 1))), (0, .ref a), (1, .int (nI m))]) hx hb dX4_placeOf_22 hl (k := 0) rfl (nI_add _ _) (by decide) rfl (fun ls hl => ?_)
      refine lv_goto (tgt := 2) hx hb dX4_placeOf_25 (by decide) ?_
      exact ih (k + 1) ls (by omega) ⟨(by omega), (ht.trans (plf_f (by omega) c_17)), lv_sub hl [0, 1, 2] rfl⟩
    · skip
      refine lv_iload_n hx hb dX4_placeOf_20 rfl (lv_at hl 0 rfl) ?_
      exact e_ri hx hb hr hlk ((ht.trans (plf_t (by omega) c_17)).symm) dX4_placeOf_21
set_option maxHeartbeats 4000000 in
set_option maxRecDepth 100000 in
theorem c_X4_takeOut (l : Launch) (G : gT) (sz : Nat) (a : Nat) (r : Nat → Int32) (k : Nat) (h6 : r 6 = nI (ny r)) (hc : ny r ≤ 8) (hk : k < ny r) : Rv l G yX4_takeOut cX4_takeOut 3 none 0 sz [(a, .inl (gI G, 2175, .inl r))] [.ref a, .int (nI k)] [(a, .inl (gI G, 2175, .inl (tko r k)))] := by
  refine Rv.mk (by decide) (Nat.le_of_ble_eq_true rfl) (fun pq eq sq mq bq tq cq ls A hr hlk hF hKx hZ hA hP hD hS hl => ?_)
  have hx := hF.1
  have hb := hF.2.1
  have hml := hF.2.2.1
  have hown : sq.vm.findClass RX4 = some mq.cls := hF.2.2.2.1
  have hts : ∀ w ∈ GW, w.before _ sq = true := hF.2.2.2.2
  have hK := hKx.1
  have hl : lv_has ls 3 [(0, .ref a), (1, .int (nI k))] := hl
  have hP : va_P G.1 vwCl [(a, .inl (gI G, 2175, .inl r))] sq.heap := hP
  have hD : va_D A [(a, .inl (gI G, 2175, .inl r))] := hD
  refine lv_aload_n hx hb dX4_takeOut_0 rfl (lv_at hl 0 rfl) ?_
  refine lv_bipush (v := nI 6) hx hb dX4_takeOut_1 (by decide) ?_
  refine lv_dup2_11 hx hb dX4_takeOut_3 rfl rfl ?_
  refine n_iald hx hb hK hP 0 0 rfl rfl (by omega) (by decide) dX4_takeOut_4 ?_
  refine lv_cv (y := nI (ny r)) (h6) ?_
  refine lv_iconst (v := nI 1) hx hb dX4_takeOut_5 (by decide) ?_
  refine n_isub hx hb (by omega) dX4_takeOut_6 ?_
  refine n_iast hx hb hK hP hD hS 0 0 rfl rfl (by omega) (by decide) dX4_takeOut_7 (fun H locs hP hD hS => ?_)
  have hP : va_P G.1 vwCl [(a, .inl (gI G, 2175, .inl (upd r 6 (nI ((ny r) - 1)))))] H := hP
  have hD : va_D A [(a, .inl (gI G, 2175, .inl (upd r 6 (nI ((ny r) - 1)))))] := hD
  have hw_1 : ([(a, .inl (gI G, 2175, .inl (upd r 6 (nI ((ny r) - 1)))))] : va_W) = [(a, .inl (gI G, 2175, .inl (tkk r k k)))] := (wlc (wli (tkk_0)) rfl)
  rw [hw_1] at hP hD
  refine lv_iload_n hx hb dX4_takeOut_8 rfl (lv_at hl 1 rfl) ?_
  refine lv_istore_n (lv' := [(2, .int (nI k)), (0, .ref a), (1, .int (nI k))]) hx hb dX4_takeOut_9 rfl hl (by decide) rfl (fun ls hl => ?_)
  have hPj := hP.sub (ws' := [(a, .inl (gI G, 2175, .inl (tkk r k k)))]) [0] rfl
  have hDj := hD.sub (ws' := [(a, .inl (gI G, 2175, .inl (tkk r k k)))]) [0] (by decide) rfl
  refine wloopH [] (fun i H locs ls => (k ≤ i) ∧ (i ≤ ny r - 1) ∧ va_P G.1 vwCl [(a, .inl (gI G, 2175, .inl (tkk r k i)))] H ∧ va_D A [(a, .inl (gI G, 2175, .inl (tkk r k i)))] ∧ va_S A sq.heap H locs ∧ lv_has ls 3 [(2, .int (nI i)), (0, .ref a), (1, .int (nI k))]) (fun i => ny r - 1 - i) ?_ k ⟨(by omega), (by omega), hPj, hDj, hS, lv_sub hl [0, 1, 2] rfl⟩
  intro i ih
  intro H locs ls ⟨hi1, hi2, hP, hD, hS, hl⟩
  refine lv_iload_n hx hb dX4_takeOut_10 rfl (lv_at hl 0 rfl) ?_
  refine lv_aload_n hx hb dX4_takeOut_11 rfl (lv_at hl 1 rfl) ?_
  refine lv_bipush (v := nI 6) hx hb dX4_takeOut_12 (by decide) ?_
  refine n_iald hx hb hK hP 0 0 rfl rfl (by omega) (by decide) dX4_takeOut_14 ?_
  refine lv_cv (y := nI (ny r - 1)) (tkk_6) ?_
  refine z_ge hx hb (tgt := 38) ((i : Nat) : Int) ((ny r - 1 : Nat) : Int) dX4_takeOut_15 (by decide) (toI (by omega)) (toI (by omega)) (fun c_15 => ?_) (fun c_15 => ?_)
  · skip
    have hi3 : i = ny r - 1 := by omega
    subst hi3
    have hPj := hP.sub (ws' := [(a, .inl (gI G, 2175, .inl (tkk r k (ny r - 1))))]) [0] rfl
    have hwj : ([(a, .inl (gI G, 2175, .inl (tkk r k (ny r - 1))))] : va_W) = [(a, .inl (gI G, 2175, .inl (tko r k)))] := (wlc (rfl) rfl)
    rw [hwj] at hPj
    exact e_wv hx hb hr hlk hPj hS dX4_takeOut_38
  · skip
    refine lv_aload_n hx hb dX4_takeOut_18 rfl (lv_at hl 1 rfl) ?_
    refine lv_bipush (v := nI 7) hx hb dX4_takeOut_19 (by decide) ?_
    refine lv_iload_n hx hb dX4_takeOut_21 rfl (lv_at hl 0 rfl) ?_
    refine n_iadd hx hb dX4_takeOut_22 ?_
    refine lv_aload_n hx hb dX4_takeOut_23 rfl (lv_at hl 1 rfl) ?_
    refine lv_bipush (v := nI 7) hx hb dX4_takeOut_24 (by decide) ?_
    refine lv_iload_n hx hb dX4_takeOut_26 rfl (lv_at hl 0 rfl) ?_
    refine n_iadd hx hb dX4_takeOut_27 ?_
    refine lv_iconst (v := nI 1) hx hb dX4_takeOut_28 (by decide) ?_
    refine n_iadd hx hb dX4_takeOut_29 ?_
    refine n_iald hx hb hK hP 0 0 rfl rfl (by omega) (by decide) dX4_takeOut_30 ?_
    refine n_iast hx hb hK hP hD hS 0 0 rfl rfl (by omega) (by decide) dX4_takeOut_31 (fun H locs hP hD hS => ?_)
    have hP : va_P G.1 vwCl [(a, .inl (gI G, 2175, .inl (upd (tkk r k i) (7 + i) ((tkk r k i) (7 + i + 1)))))] H := hP
    have hD : va_D A [(a, .inl (gI G, 2175, .inl (upd (tkk r k i) (7 + i) ((tkk r k i) (7 + i + 1)))))] := hD
    refine lv_iinc (v := nI (i + 1)) (lv' := [(2, .int (nI (i + 1))), (0, .ref a), (1, .int (nI k))]) hx hb dX4_takeOut_32 hl (k := 0) rfl (nI_add _ _) (by decide) rfl (fun ls hl => ?_)
    refine lv_goto (tgt := 10) hx hb dX4_takeOut_35 (by decide) ?_
    have w_2 : ([(a, .inl (gI G, 2175, .inl (upd (tkk r k i) (7 + i) ((tkk r k i) (7 + i + 1)))))] : va_W) = [(a, .inl (gI G, 2175, .inl (tkk r k (i + 1))))] := (wlc (wli (tkk_s hi1)) rfl)
    have hPj := hP.sub (ws' := [(a, .inl (gI G, 2175, .inl (upd (tkk r k i) (7 + i) ((tkk r k i) (7 + i + 1)))))]) [0] rfl
    have hDj := hD.sub (ws' := [(a, .inl (gI G, 2175, .inl (upd (tkk r k i) (7 + i) ((tkk r k i) (7 + i + 1)))))]) [0] (by decide) rfl
    rw [w_2] at hPj hDj
    exact ih (i + 1) _ _ ls (by omega) ⟨(by omega), (by omega), hPj, hDj, hS, lv_sub hl [0, 1, 2] rfl⟩
set_option maxHeartbeats 4000000 in
set_option maxRecDepth 100000 in
theorem c_X4_unfold (l : Launch) (G : gT) (sz : Nat) (a : Nat) (r : Nat → Int32) (m : Nat) (hm : m < 120) : Rv l G yX4_unfold cX4_unfold 2 none 5 sz [(a, .inl (gI G, 2175, .inl r))] [.ref a, .int (nI m)] [(a, .inl (gI G, 2175, .inl (ufd r m)))] := by
  refine Rv.mk (by decide) (Nat.le_of_ble_eq_true rfl) (fun pq eq sq mq bq tq cq ls A hr hlk hF hKx hZ hA hP hD hS hl => ?_)
  have hx := hF.1
  have hb := hF.2.1
  have hml := hF.2.2.1
  have hown : sq.vm.findClass RX4 = some mq.cls := hF.2.2.2.1
  have hts : ∀ w ∈ GW, w.before _ sq = true := hF.2.2.2.2
  have hK := hKx.1
  have hl : lv_has ls 2 [(0, .ref a), (1, .int (nI m))] := hl
  have hP : va_P G.1 vwCl [(a, .inl (gI G, 2175, .inl r))] sq.heap := hP
  have hD : va_D A [(a, .inl (gI G, 2175, .inl r))] := hD
  refine lv_aload_n hx hb dX4_unfold_0 rfl (lv_at hl 0 rfl) ?_
  refine lv_iconst (v := nI 3) hx hb dX4_unfold_1 (by decide) ?_
  refine lv_dup2_11 hx hb dX4_unfold_2 rfl rfl ?_
  refine n_iald hx hb hK hP 0 0 rfl rfl (by omega) (by decide) dX4_unfold_3 ?_
  refine lv_aload_n hx hb dX4_unfold_4 rfl (lv_at hl 0 rfl) ?_
  refine lv_iload_n hx hb dX4_unfold_5 rfl (lv_at hl 1 rfl) ?_
  refine k_roS (As := [.ref a, .int (nI m)]) (rest := [.int (r 3), .int (nI 3), .ref a]) hF (c_X4_sizeOf l G a r m (by omega)) mw_3_133 mw_3_134 mw_1_5 mw_3_135 hd_X4_sizeOf ⟨Nat.le_of_ble_eq_true rfl, Nat.le_of_ble_eq_true rfl⟩ (Rd.of hKx hZ hS) (hP.sub (ws' := [(a, .inl (gI G, 2175, .inl r))]) [0] rfl) rfl hl.1 rfl (Nat.le_of_ble_eq_true rfl) dX4_unfold_6 ⟨Nat.zero_le _, Nat.zero_le _⟩ ?_
  refine lv_iadd hx hb dX4_unfold_9 ?_
  refine n_iast hx hb hK hP hD hS 0 0 rfl rfl (by omega) (by decide) dX4_unfold_10 (fun H locs hP hD hS => ?_)
  have hP : va_P G.1 vwCl [(a, .inl (gI G, 2175, .inl (upd r 3 ((r 3) + (szo r m)))))] H := hP
  have hD : va_D A [(a, .inl (gI G, 2175, .inl (upd r 3 ((r 3) + (szo r m)))))] := hD
  have hw_1 : ([(a, .inl (gI G, 2175, .inl (upd r 3 ((r 3) + (szo r m)))))] : va_W) = [(a, .inl (gI G, 2175, .inl (uf1 r m)))] := (wlc (wli (rfl)) rfl)
  rw [hw_1] at hP hD
  refine lv_aload_n hx hb dX4_unfold_11 rfl (lv_at hl 0 rfl) ?_
  refine lv_iconst (v := nI 4) hx hb dX4_unfold_12 (by decide) ?_
  refine lv_dup2_11 hx hb dX4_unfold_13 rfl rfl ?_
  refine n_iald hx hb hK hP 0 0 rfl rfl (by omega) (by decide) dX4_unfold_14 ?_
  refine lv_iconst (v := nI 1) hx hb dX4_unfold_15 (by decide) ?_
  refine lv_iadd hx hb dX4_unfold_16 ?_
  refine n_iast hx hb hK hP hD hS 0 0 rfl rfl (by omega) (by decide) dX4_unfold_17 (fun H locs hP hD hS => ?_)
  have hP : va_P G.1 vwCl [(a, .inl (gI G, 2175, .inl (upd (uf1 r m) 4 (((uf1 r m) 4) + (nI 1)))))] H := hP
  have hD : va_D A [(a, .inl (gI G, 2175, .inl (upd (uf1 r m) 4 (((uf1 r m) 4) + (nI 1)))))] := hD
  have hw_2 : ([(a, .inl (gI G, 2175, .inl (upd (uf1 r m) 4 (((uf1 r m) 4) + (nI 1)))))] : va_W) = [(a, .inl (gI G, 2175, .inl (uf2 r m)))] := (wlc (wli (rfl)) rfl)
  rw [hw_2] at hP hD
  refine lv_aload_n hx hb dX4_unfold_18 rfl (lv_at hl 0 rfl) ?_
  refine lv_bipush (v := nI 15) hx hb dX4_unfold_19 (by decide) ?_
  refine lv_iload_n hx hb dX4_unfold_21 rfl (lv_at hl 1 rfl) ?_
  refine n_iadd hx hb dX4_unfold_22 ?_
  refine lv_iconst (v := nI 0) hx hb dX4_unfold_23 (by decide) ?_
  refine n_iast hx hb hK hP hD hS 0 0 rfl rfl (by omega) (by decide) dX4_unfold_24 (fun H locs hP hD hS => ?_)
  have hP : va_P G.1 vwCl [(a, .inl (gI G, 2175, .inl (upd (uf2 r m) (15 + m) (nI 0))))] H := hP
  have hD : va_D A [(a, .inl (gI G, 2175, .inl (upd (uf2 r m) (15 + m) (nI 0))))] := hD
  have hw_3 : ([(a, .inl (gI G, 2175, .inl (upd (uf2 r m) (15 + m) (nI 0))))] : va_W) = [(a, .inl (gI G, 2175, .inl (ufd r m)))] := (wlc (wli (rfl)) rfl)
  rw [hw_3] at hP hD
  have hPj := hP.sub (ws' := [(a, .inl (gI G, 2175, .inl (ufd r m)))]) [0] rfl
  exact e_wv hx hb hr hlk hPj hS dX4_unfold_25
set_option maxHeartbeats 4000000 in
set_option maxRecDepth 100000 in
theorem c_X4_foldAgain (l : Launch) (G : gT) (sz : Nat) (a : Nat) (r : Nat → Int32) (hB : Bs r 8) : Rv l G yX4_foldAgain cX4_foldAgain 2 none 6 sz [(a, .inl (gI G, 2175, .inl r))] [.ref a] [(a, .inl (gI G, 2175, .inl (fga r)))] := by
  refine Rv.mk (by decide) (Nat.le_of_ble_eq_true rfl) (fun pq eq sq mq bq tq cq ls A hr hlk hF hKx hZ hA hP hD hS hl => ?_)
  have hx := hF.1
  have hb := hF.2.1
  have hml := hF.2.2.1
  have hown : sq.vm.findClass RX4 = some mq.cls := hF.2.2.2.1
  have hts : ∀ w ∈ GW, w.before _ sq = true := hF.2.2.2.2
  have hK := hKx.1
  have hl : lv_has ls 2 [(0, .ref a)] := hl
  have hP : va_P G.1 vwCl [(a, .inl (gI G, 2175, .inl r))] sq.heap := hP
  have hD : va_D A [(a, .inl (gI G, 2175, .inl r))] := hD
  have hPj := hP.sub (ws' := [(a, .inl (gI G, 2175, .inl r))]) [0] rfl
  have hDj := hD.sub (ws' := [(a, .inl (gI G, 2175, .inl r))]) [0] (by decide) rfl
  have hwj : ([(a, .inl (gI G, 2175, .inl r))] : va_W) = [(a, .inl (gI G, 2175, .inl (fgk r 0)))] := (wlc (rfl) rfl)
  rw [hwj] at hPj hDj
  refine wloopH [] (fun j H locs ls => (j ≤ ny r - opn r) ∧ va_P G.1 vwCl [(a, .inl (gI G, 2175, .inl (fgk r j)))] H ∧ va_D A [(a, .inl (gI G, 2175, .inl (fgk r j)))] ∧ va_S A sq.heap H locs ∧ lv_has ls 2 [(0, .ref a)]) (fun j => ny r - j) ?_ 0 ⟨(by omega), hPj, hDj, hS, lv_sub hl [0] rfl⟩
  intro j ih
  intro H locs ls ⟨hj, hP, hD, hS, hl⟩
  obtain ⟨hBj, hnj, hoj⟩ := Bs_fgk hB (Nat.le_refl 8) j (by omega)
  obtain ⟨-, -, -, -, h2, ho, h6, hc, hRx⟩ := id hBj
  refine lv_aload_n hx hb dX4_foldAgain_0 rfl (lv_at hl 0 rfl) ?_
  refine lv_bipush (v := nI 6) hx hb dX4_foldAgain_1 (by decide) ?_
  refine n_iald hx hb hK hP 0 0 rfl rfl (by omega) (by decide) dX4_foldAgain_3 ?_
  refine lv_cv (y := nI (ny (fgk r j))) (h6) ?_
  refine lv_aload_n hx hb dX4_foldAgain_4 rfl (lv_at hl 0 rfl) ?_
  refine lv_iconst (v := nI 2) hx hb dX4_foldAgain_5 (by decide) ?_
  refine n_iald hx hb hK hP 0 0 rfl rfl (by omega) (by decide) dX4_foldAgain_6 ?_
  refine lv_cv (y := nI (opn (fgk r j))) (h2) ?_
  refine z_le hx hb (tgt := 30) ((ny (fgk r j) : Nat) : Int) ((opn (fgk r j) : Nat) : Int) dX4_foldAgain_7 (by decide) (toI (by omega)) (toI (by omega)) (fun c_7 => ?_) (fun c_7 => ?_)
  · skip
    have hj2 : j = ny r - opn r := by omega
    subst hj2
    have hPj := hP.sub (ws' := [(a, .inl (gI G, 2175, .inl (fgk r (ny r - opn r))))]) [0] rfl
    have hwj : ([(a, .inl (gI G, 2175, .inl (fgk r (ny r - opn r))))] : va_W) = [(a, .inl (gI G, 2175, .inl (fga r)))] := (wlc (rfl) rfl)
    rw [hwj] at hPj
    exact e_wv hx hb hr hlk hPj hS dX4_foldAgain_30
  · skip
    obtain ⟨m0, hm0, em0⟩ := hRx 0 (by omega)
    refine lv_aload_n hx hb dX4_foldAgain_10 rfl (lv_at hl 0 rfl) ?_
    refine lv_bipush (v := nI 7) hx hb dX4_foldAgain_11 (by decide) ?_
    refine n_iald hx hb hK hP 0 0 rfl rfl (by omega) (by decide) dX4_foldAgain_13 ?_
    refine lv_cv (y := nI m0) (em0) ?_
    refine lv_istore_n (lv' := [(1, .int (nI m0)), (0, .ref a)]) hx hb dX4_foldAgain_14 rfl hl (by decide) rfl (fun ls hl => ?_)
    refine lv_aload_n hx hb dX4_foldAgain_15 rfl (lv_at hl 1 rfl) ?_
    refine lv_iconst (v := nI 0) hx hb dX4_foldAgain_16 (by decide) ?_
    refine k_rvS (As := [.ref a, .int (nI 0)]) (rest := []) (wr := []) hF (c_X4_takeOut l G _ a (fgk r j) 0 (by omega) (by omega) (by omega)) mw_3_106 mw_3_107 mw_1_5 mw_3_108 hd_X4_takeOut ⟨Nat.le_of_ble_eq_true rfl, Nat.le_of_ble_eq_true rfl⟩ hKx hZ hS hP hD hA [0] [] rfl rfl (by decide) (by decide) (by decide) rfl rfl hl.1 rfl (Nat.le_of_ble_eq_true rfl) dX4_foldAgain_17 ⟨Nat.zero_le _, Nat.zero_le _⟩ (fun H locs hP hD hS => ?_)
    have hP : va_P G.1 vwCl [(a, .inl (gI G, 2175, .inl (tko (fgk r j) 0)))] H := hP
    have hD : va_D A [(a, .inl (gI G, 2175, .inl (tko (fgk r j) 0)))] := hD
    refine lv_aload_n hx hb dX4_foldAgain_20 rfl (lv_at hl 1 rfl) ?_
    refine lv_iload_n hx hb dX4_foldAgain_21 rfl (lv_at hl 0 rfl) ?_
    refine lv_bipush (v := (-6)) hx hb dX4_foldAgain_22 (by decide) ?_
    refine k_rvS (As := [.ref a, .int (nI m0), .int (-6)]) (rest := []) (wr := []) hF (c_X4_fold l G _ a (tko (fgk r j) 0) m0 (-6) (-6) (by omega) (by decide)) mw_3_109 mw_3_110 mw_1_5 mw_3_111 hd_X4_fold ⟨Nat.le_of_ble_eq_true rfl, Nat.le_of_ble_eq_true rfl⟩ hKx hZ hS hP hD hA [0] [] rfl rfl (by decide) (by decide) (by decide) rfl rfl hl.1 rfl (Nat.le_of_ble_eq_true rfl) dX4_foldAgain_24 ⟨Nat.zero_le _, Nat.zero_le _⟩ (fun H locs hP hD hS => ?_)
    have hP : va_P G.1 vwCl [(a, .inl (gI G, 2175, .inl (fld (tko (fgk r j) 0) m0 (-6))))] H := hP
    have hD : va_D A [(a, .inl (gI G, 2175, .inl (fld (tko (fgk r j) 0) m0 (-6))))] := hD
    refine lv_goto (tgt := 0) hx hb dX4_foldAgain_27 (by decide) ?_
    have w_1 : ([(a, .inl (gI G, 2175, .inl (fld (tko (fgk r j) 0) m0 (-6))))] : va_W) = [(a, .inl (gI G, 2175, .inl (fgk r (j + 1))))] := (wlc (wli (show _ = fld _ _ _ by rw [em0, nI_clamp (by omega)])) rfl)
    have hPj := hP.sub (ws' := [(a, .inl (gI G, 2175, .inl (fld (tko (fgk r j) 0) m0 (-6))))]) [0] rfl
    have hDj := hD.sub (ws' := [(a, .inl (gI G, 2175, .inl (fld (tko (fgk r j) 0) m0 (-6))))]) [0] (by decide) rfl
    rw [w_1] at hPj hDj
    exact ih (j + 1) _ _ ls (by omega) ⟨(by omega), hPj, hDj, hS, lv_sub hl [1] rfl⟩
set_option maxHeartbeats 4000000 in
set_option maxRecDepth 100000 in
theorem c_X4_toEnd (l : Launch) (G : gT) (sz : Nat) (a : Nat) (r : Nat → Int32) (m : Nat) (hm : m < 120) (hB : Bs r 7) : Rv l G yX4_toEnd cX4_toEnd 3 none 1 sz [(a, .inl (gI G, 2175, .inl r))] [.ref a, .int (nI m)] [(a, .inl (gI G, 2175, .inl (ten r m)))] := by
  refine Rv.mk (by decide) (Nat.le_of_ble_eq_true rfl) (fun pq eq sq mq bq tq cq ls A hr hlk hF hKx hZ hA hP hD hS hl => ?_)
  have hx := hF.1
  have hb := hF.2.1
  have hml := hF.2.2.1
  have hown : sq.vm.findClass RX4 = some mq.cls := hF.2.2.2.1
  have hts : ∀ w ∈ GW, w.before _ sq = true := hF.2.2.2.2
  have hK := hKx.1
  have hl : lv_has ls 3 [(0, .ref a), (1, .int (nI m))] := hl
  have hP : va_P G.1 vwCl [(a, .inl (gI G, 2175, .inl r))] sq.heap := hP
  have hD : va_D A [(a, .inl (gI G, 2175, .inl r))] := hD
  obtain ⟨-, -, -, -, h2, ho, h6, hc, hRx⟩ := id hB
  have h1B := Bs_te1 (m := m) hB (by omega)
  obtain ⟨-, -, -, -, -, -, g6, gc, -⟩ := id h1B
  refine lv_aload_n hx hb dX4_toEnd_0 rfl (lv_at hl 0 rfl) ?_
  refine lv_iload_n hx hb dX4_toEnd_1 rfl (lv_at hl 1 rfl) ?_
  refine k_roS (As := [.ref a, .int (nI m)]) (rest := []) hF (c_X4_placeOf l G a r m (by omega) (by omega) (by omega)) mw_3_198 mw_3_199 mw_1_5 mw_3_200 hd_X4_placeOf ⟨Nat.le_of_ble_eq_true rfl, Nat.le_of_ble_eq_true rfl⟩ (Rd.of hKx hZ hS) (hP.sub (ws' := [(a, .inl (gI G, 2175, .inl r))]) [0] rfl) rfl hl.1 rfl (Nat.le_of_ble_eq_true rfl) dX4_toEnd_2 ⟨Nat.zero_le _, Nat.zero_le _⟩ ?_
  refine lv_istore_n (lv' := [(2, .int (plo r m)), (0, .ref a), (1, .int (nI m))]) hx hb dX4_toEnd_5 rfl hl (by decide) rfl (fun ls hl => ?_)
  refine lv_iload_n hx hb dX4_toEnd_6 rfl (lv_at hl 0 rfl) ?_
  refine lv_bipush (v := (-6)) hx hb dX4_toEnd_7 (by decide) ?_
  refine z_eq hx hb (tgt := 17) ((plo r m).toInt) (-6) dX4_toEnd_9 (by decide) rfl (by decide) (fun c_9 => ?_) (fun c_9 => ?_)
  · skip
    have hw_1 : ([(a, .inl (gI G, 2175, .inl r))] : va_W) = [(a, .inl (gI G, 2175, .inl (te1 r m)))] := (wlc (wli ((cI_t (Int32.toInt_inj.mp c_9)).symm)) rfl)
    rw [hw_1] at hP hD
    refine lv_aload_n hx hb dX4_toEnd_17 rfl (lv_at hl 1 rfl) ?_
    refine lv_bipush (v := nI 7) hx hb dX4_toEnd_18 (by decide) ?_
    refine lv_aload_n hx hb dX4_toEnd_20 rfl (lv_at hl 1 rfl) ?_
    refine lv_bipush (v := nI 6) hx hb dX4_toEnd_21 (by decide) ?_
    refine n_iald hx hb hK hP 0 0 rfl rfl (by omega) (by decide) dX4_toEnd_23 ?_
    refine lv_cv (y := nI (ny (te1 r m))) (g6) ?_
    refine n_iadd hx hb dX4_toEnd_24 ?_
    refine lv_iload_n hx hb dX4_toEnd_25 rfl (lv_at hl 2 rfl) ?_
    refine n_iast hx hb hK hP hD hS 0 0 rfl rfl (by omega) (by decide) dX4_toEnd_26 (fun H locs hP hD hS => ?_)
    have hP : va_P G.1 vwCl [(a, .inl (gI G, 2175, .inl (upd (te1 r m) (7 + ny (te1 r m)) (nI m))))] H := hP
    have hD : va_D A [(a, .inl (gI G, 2175, .inl (upd (te1 r m) (7 + ny (te1 r m)) (nI m))))] := hD
    refine lv_aload_n hx hb dX4_toEnd_27 rfl (lv_at hl 1 rfl) ?_
    refine lv_bipush (v := nI 6) hx hb dX4_toEnd_28 (by decide) ?_
    refine lv_dup2_11 hx hb dX4_toEnd_30 rfl rfl ?_
    refine n_iald hx hb hK hP 0 0 rfl rfl (by omega) (by decide) dX4_toEnd_31 ?_
    refine lv_cv (y := nI (ny (te1 r m))) ((upd_n (by omega)).trans g6) ?_
    refine lv_iconst (v := nI 1) hx hb dX4_toEnd_32 (by decide) ?_
    refine n_iadd hx hb dX4_toEnd_33 ?_
    refine n_iast hx hb hK hP hD hS 0 0 rfl rfl (by omega) (by decide) dX4_toEnd_34 (fun H locs hP hD hS => ?_)
    have hP : va_P G.1 vwCl [(a, .inl (gI G, 2175, .inl (upd (upd (te1 r m) (7 + ny (te1 r m)) (nI m)) 6 (nI (ny (te1 r m) + 1)))))] H := hP
    have hD : va_D A [(a, .inl (gI G, 2175, .inl (upd (upd (te1 r m) (7 + ny (te1 r m)) (nI m)) 6 (nI (ny (te1 r m) + 1)))))] := hD
    have hw_2 : ([(a, .inl (gI G, 2175, .inl (upd (upd (te1 r m) (7 + ny (te1 r m)) (nI m)) 6 (nI (ny (te1 r m) + 1)))))] : va_W) = [(a, .inl (gI G, 2175, .inl (ten r m)))] := (wlc (wli (rfl)) rfl)
    rw [hw_2] at hP hD
    have hPj := hP.sub (ws' := [(a, .inl (gI G, 2175, .inl (ten r m)))]) [0] rfl
    exact e_wv hx hb hr hlk hPj hS dX4_toEnd_35
  · skip
    obtain ⟨k0, hk0, ek0, -⟩ : ∃ j, j < ny r ∧ plo r m = nI j ∧ (r (7 + j)).toInt = (m : Int) := (plo_in r m).resolve_left (fun z => c_9 (congrArg Int32.toInt z))
    refine lv_aload_n hx hb dX4_toEnd_12 rfl (lv_at hl 1 rfl) ?_
    refine lv_iload_n hx hb dX4_toEnd_13 rfl (lv_at hl 0 rfl) ?_
    refine lv_cv (y := nI k0) (ek0) ?_
    refine k_rvS (As := [.ref a, .int (nI k0)]) (rest := []) (wr := []) hF (c_X4_takeOut l G _ a r k0 (by omega) (by omega) (by omega)) mw_3_106 mw_3_107 mw_1_5 mw_3_108 hd_X4_takeOut ⟨Nat.le_of_ble_eq_true rfl, Nat.le_of_ble_eq_true rfl⟩ hKx hZ hS hP hD hA [0] [] rfl rfl (by decide) (by decide) (by decide) rfl rfl hl.1 rfl (Nat.le_of_ble_eq_true rfl) dX4_toEnd_14 ⟨Nat.zero_le _, Nat.zero_le _⟩ (fun H locs hP hD hS => ?_)
    have hP : va_P G.1 vwCl [(a, .inl (gI G, 2175, .inl (tko r k0)))] H := hP
    have hD : va_D A [(a, .inl (gI G, 2175, .inl (tko r k0)))] := hD
    have hw_3 : ([(a, .inl (gI G, 2175, .inl (tko r k0)))] : va_W) = [(a, .inl (gI G, 2175, .inl (te1 r m)))] := (wlc (wli (by unfold te1; rw [cI_f (by rw [ek0]; exact nI_ne6 (by omega)), ek0, nI_clamp (by omega)])) rfl)
    rw [hw_3] at hP hD
    refine lv_aload_n hx hb dX4_toEnd_17 rfl (lv_at hl 1 rfl) ?_
    refine lv_bipush (v := nI 7) hx hb dX4_toEnd_18 (by decide) ?_
    refine lv_aload_n hx hb dX4_toEnd_20 rfl (lv_at hl 1 rfl) ?_
    refine lv_bipush (v := nI 6) hx hb dX4_toEnd_21 (by decide) ?_
    refine n_iald hx hb hK hP 0 0 rfl rfl (by omega) (by decide) dX4_toEnd_23 ?_
    refine lv_cv (y := nI (ny (te1 r m))) (g6) ?_
    refine n_iadd hx hb dX4_toEnd_24 ?_
    refine lv_iload_n hx hb dX4_toEnd_25 rfl (lv_at hl 2 rfl) ?_
    refine n_iast hx hb hK hP hD hS 0 0 rfl rfl (by omega) (by decide) dX4_toEnd_26 (fun H locs hP hD hS => ?_)
    have hP : va_P G.1 vwCl [(a, .inl (gI G, 2175, .inl (upd (te1 r m) (7 + ny (te1 r m)) (nI m))))] H := hP
    have hD : va_D A [(a, .inl (gI G, 2175, .inl (upd (te1 r m) (7 + ny (te1 r m)) (nI m))))] := hD
    refine lv_aload_n hx hb dX4_toEnd_27 rfl (lv_at hl 1 rfl) ?_
    refine lv_bipush (v := nI 6) hx hb dX4_toEnd_28 (by decide) ?_
    refine lv_dup2_11 hx hb dX4_toEnd_30 rfl rfl ?_
    refine n_iald hx hb hK hP 0 0 rfl rfl (by omega) (by decide) dX4_toEnd_31 ?_
    refine lv_cv (y := nI (ny (te1 r m))) ((upd_n (by omega)).trans g6) ?_
    refine lv_iconst (v := nI 1) hx hb dX4_toEnd_32 (by decide) ?_
    refine n_iadd hx hb dX4_toEnd_33 ?_
    refine n_iast hx hb hK hP hD hS 0 0 rfl rfl (by omega) (by decide) dX4_toEnd_34 (fun H locs hP hD hS => ?_)
    have hP : va_P G.1 vwCl [(a, .inl (gI G, 2175, .inl (upd (upd (te1 r m) (7 + ny (te1 r m)) (nI m)) 6 (nI (ny (te1 r m) + 1)))))] H := hP
    have hD : va_D A [(a, .inl (gI G, 2175, .inl (upd (upd (te1 r m) (7 + ny (te1 r m)) (nI m)) 6 (nI (ny (te1 r m) + 1)))))] := hD
    have hw_4 : ([(a, .inl (gI G, 2175, .inl (upd (upd (te1 r m) (7 + ny (te1 r m)) (nI m)) 6 (nI (ny (te1 r m) + 1)))))] : va_W) = [(a, .inl (gI G, 2175, .inl (ten r m)))] := (wlc (wli (rfl)) rfl)
    rw [hw_4] at hP hD
    have hPj := hP.sub (ws' := [(a, .inl (gI G, 2175, .inl (ten r m)))]) [0] rfl
    exact e_wv hx hb hr hlk hPj hS dX4_toEnd_35
set_option maxHeartbeats 4000000 in
set_option maxRecDepth 100000 in
theorem c_X4_look (l : Launch) (G : gT) (sz : Nat) (h : Nat) (an : Nat) (tr : Nat) (ah : Nat) (ch : Int32) (ak : Nat) (ai : Nat) (ap : Nat) (sy : Int32) (af : Nat) (sp : Int32) (a : Nat) (r : Nat → Int32) (m : Nat) (hm : m < 120) (hB : Bs r 7) : Rv l G yX4_look cX4_look 3 none 7 sz [(h, .inr (4, [.ref an, .ref tr, .ref ah, .int ch, .ref ak, .ref ai, .ref ap, .int sy, .ref af, .int sp])), (af, .inl (gI G, 121, .inl (fun m => nI (fdy m)))), (a, .inl (gI G, 2175, .inl r))] [.ref h, .ref a, .int (nI m)] [(h, .inr (4, [.ref an, .ref tr, .ref ah, .int ch, .ref ak, .ref ai, .ref ap, .int sy, .ref af, .int sp])), (af, .inl (gI G, 121, .inl (fun m => nI (fdy m)))), (a, .inl (gI G, 2175, .inl (lok r m)))] := by
  refine Rv.mk (by decide) (Nat.le_of_ble_eq_true rfl) (fun pq eq sq mq bq tq cq ls A hr hlk hF hKx hZ hA hP hD hS hl => ?_)
  have hx := hF.1
  have hb := hF.2.1
  have hml := hF.2.2.1
  have hown : sq.vm.findClass RX4 = some mq.cls := hF.2.2.2.1
  have hts : ∀ w ∈ GW, w.before _ sq = true := hF.2.2.2.2
  have hK := hKx.1
  have hl : lv_has ls 3 [(0, .ref h), (1, .ref a), (2, .int (nI m))] := hl
  have hP : va_P G.1 vwCl [(h, .inr (4, [.ref an, .ref tr, .ref ah, .int ch, .ref ak, .ref ai, .ref ap, .int sy, .ref af, .int sp])), (af, .inl (gI G, 121, .inl (fun m => nI (fdy m)))), (a, .inl (gI G, 2175, .inl r))] sq.heap := hP
  have hD : va_D A [(h, .inr (4, [.ref an, .ref tr, .ref ah, .int ch, .ref ak, .ref ai, .ref ap, .int sy, .ref af, .int sp])), (af, .inl (gI G, 121, .inl (fun m => nI (fdy m)))), (a, .inl (gI G, 2175, .inl r))] := hD
  have hB1 := Bs_lk1 (m := m) hB (by omega)
  have hB2 := Bs_ten (m := m) hB1 (Nat.le_refl 7) hm
  refine lv_aload_n hx hb dX4_look_0 rfl (lv_at hl 0 rfl) ?_
  refine lv_aload_n hx hb dX4_look_1 rfl (lv_at hl 1 rfl) ?_
  refine lv_iload_n hx hb dX4_look_2 rfl (lv_at hl 2 rfl) ?_
  refine k_roV (ci := 4) (q0 := 0) (As := [.ref a, .int (nI m)]) (rest := []) hF (c_X4_isOld l G h an tr ah ch ak ai ap sy af sp a r m (by omega) (hB.mono (by omega))) hKx hP ⟨_, rfl, rfl⟩ rfl rfl mw_3_153 mw_3_155 mw_p1_12 mw_1_5 mw_3_156 hd_X4_isOld ⟨Nat.le_of_ble_eq_true rfl, Nat.le_of_ble_eq_true rfl⟩ (Rd.of hKx hZ hS) (hP.sub (ws' := [(h, .inr (4, [.ref an, .ref tr, .ref ah, .int ch, .ref ak, .ref ai, .ref ap, .int sy, .ref af, .int sp])), (af, .inl (gI G, 121, .inl (fun m => nI (fdy m)))), (a, .inl (gI G, 2175, .inl r))]) [0, 1, 2] rfl) rfl hl.1 rfl (Nat.le_of_ble_eq_true rfl) dX4_look_3 ⟨Nat.zero_le _, Nat.zero_le _⟩ ?_
  refine p0_eq hx hb (tgt := 19) dX4_look_6 (by decide) (fun c_6 => ?_) (fun c_6 => ?_)
  · skip
    have hPj := hP.sub (ws' := [(h, .inr (4, [.ref an, .ref tr, .ref ah, .int ch, .ref ak, .ref ai, .ref ap, .int sy, .ref af, .int sp])), (af, .inl (gI G, 121, .inl (fun m => nI (fdy m)))), (a, .inl (gI G, 2175, .inl r))]) [0, 1, 2] rfl
    have hwj : ([(h, .inr (4, [.ref an, .ref tr, .ref ah, .int ch, .ref ak, .ref ai, .ref ap, .int sy, .ref af, .int sp])), (af, .inl (gI G, 121, .inl (fun m => nI (fdy m)))), (a, .inl (gI G, 2175, .inl r))] : va_W) = [(h, .inr (4, [.ref an, .ref tr, .ref ah, .int ch, .ref ak, .ref ai, .ref ap, .int sy, .ref af, .int sp])), (af, .inl (gI G, 121, .inl (fun m => nI (fdy m)))), (a, .inl (gI G, 2175, .inl (lok r m)))] := (wlc (rfl) (wlc (rfl) (wlc (wli (cI_f (fun z => by first | exact c_6 z.1 | exact z.2 c_16)).symm) rfl)))
    rw [hwj] at hPj
    exact e_wv hx hb hr hlk hPj hS dX4_look_19
  · skip
    refine lv_aload_n hx hb dX4_look_9 rfl (lv_at hl 1 rfl) ?_
    refine lv_bipush (v := nI 15) hx hb dX4_look_10 (by decide) ?_
    refine lv_iload_n hx hb dX4_look_12 rfl (lv_at hl 2 rfl) ?_
    refine n_iadd hx hb dX4_look_13 ?_
    refine n_iald hx hb hK hP 2 0 rfl rfl (by omega) (by decide) dX4_look_14 ?_
    refine lv_iconst (v := nI 1) hx hb dX4_look_15 (by decide) ?_
    refine z_ne hx hb (tgt := 20) ((r (15 + m)).toInt) 1 dX4_look_16 (by decide) rfl (by decide) (fun c_16 => ?_) (fun c_16 => ?_)
    · skip
      refine lv_aload_n hx hb dX4_look_20 rfl (lv_at hl 1 rfl) ?_
      refine lv_bipush (v := nI 15) hx hb dX4_look_21 (by decide) ?_
      refine lv_iload_n hx hb dX4_look_23 rfl (lv_at hl 2 rfl) ?_
      refine n_iadd hx hb dX4_look_24 ?_
      refine n_iald hx hb hK hP 2 0 rfl rfl (by omega) (by decide) dX4_look_25 ?_
      refine z0_le hx hb (tgt := 34) ((r (15 + m)).toInt) dX4_look_26 (by decide) rfl (fun c_26 => ?_) (fun c_26 => ?_)
      · skip
        have hw_1 : ([(h, .inr (4, [.ref an, .ref tr, .ref ah, .int ch, .ref ak, .ref ai, .ref ap, .int sy, .ref af, .int sp])), (af, .inl (gI G, 121, .inl (fun m => nI (fdy m)))), (a, .inl (gI G, 2175, .inl r))] : va_W) = [(h, .inr (4, [.ref an, .ref tr, .ref ah, .int ch, .ref ak, .ref ai, .ref ap, .int sy, .ref af, .int sp])), (af, .inl (gI G, 121, .inl (fun m => nI (fdy m)))), (a, .inl (gI G, 2175, .inl (lk1 r m)))] := (wlc rfl (wlc rfl (wlc (wli ((cI_f (by omega)).symm)) rfl)))
        rw [hw_1] at hP hD
        refine lv_aload_n hx hb dX4_look_34 rfl (lv_at hl 1 rfl) ?_
        refine lv_iload_n hx hb dX4_look_35 rfl (lv_at hl 2 rfl) ?_
        refine k_rvS (As := [.ref a, .int (nI m)]) (rest := []) (wr := [(h, .inr (4, [.ref an, .ref tr, .ref ah, .int ch, .ref ak, .ref ai, .ref ap, .int sy, .ref af, .int sp])), (af, .inl (gI G, 121, .inl (fun m => nI (fdy m))))]) hF (c_X4_toEnd l G _ a (lk1 r m) m (by omega) (hB1)) mw_3_195 mw_3_196 mw_1_5 mw_3_197 hd_X4_toEnd ⟨Nat.le_of_ble_eq_true rfl, Nat.le_of_ble_eq_true rfl⟩ hKx hZ hS hP hD hA [2] [0, 1] rfl rfl (by decide) (by decide) (by decide) rfl rfl hl.1 rfl (Nat.le_of_ble_eq_true rfl) dX4_look_36 ⟨Nat.zero_le _, Nat.zero_le _⟩ (fun H locs hP hD hS => ?_)
        have hP : va_P G.1 vwCl [(h, .inr (4, [.ref an, .ref tr, .ref ah, .int ch, .ref ak, .ref ai, .ref ap, .int sy, .ref af, .int sp])), (af, .inl (gI G, 121, .inl (fun m => nI (fdy m)))), (a, .inl (gI G, 2175, .inl (ten (lk1 r m) m)))] H := hP
        have hD : va_D A [(h, .inr (4, [.ref an, .ref tr, .ref ah, .int ch, .ref ak, .ref ai, .ref ap, .int sy, .ref af, .int sp])), (af, .inl (gI G, 121, .inl (fun m => nI (fdy m)))), (a, .inl (gI G, 2175, .inl (ten (lk1 r m) m)))] := hD
        refine lv_aload_n hx hb dX4_look_39 rfl (lv_at hl 1 rfl) ?_
        refine k_rvS (As := [.ref a]) (rest := []) (wr := [(h, .inr (4, [.ref an, .ref tr, .ref ah, .int ch, .ref ak, .ref ai, .ref ap, .int sy, .ref af, .int sp])), (af, .inl (gI G, 121, .inl (fun m => nI (fdy m))))]) hF (c_X4_foldAgain l G _ a (ten (lk1 r m) m) (hB2)) mw_3_103 mw_3_104 mw_1_5 mw_3_105 hd_X4_foldAgain ⟨Nat.le_of_ble_eq_true rfl, Nat.le_of_ble_eq_true rfl⟩ hKx hZ hS hP hD hA [2] [0, 1] rfl rfl (by decide) (by decide) (by decide) rfl rfl hl.1 rfl (Nat.le_of_ble_eq_true rfl) dX4_look_40 ⟨Nat.zero_le _, Nat.zero_le _⟩ (fun H locs hP hD hS => ?_)
        have hP : va_P G.1 vwCl [(h, .inr (4, [.ref an, .ref tr, .ref ah, .int ch, .ref ak, .ref ai, .ref ap, .int sy, .ref af, .int sp])), (af, .inl (gI G, 121, .inl (fun m => nI (fdy m)))), (a, .inl (gI G, 2175, .inl (fga (ten (lk1 r m) m))))] H := hP
        have hD : va_D A [(h, .inr (4, [.ref an, .ref tr, .ref ah, .int ch, .ref ak, .ref ai, .ref ap, .int sy, .ref af, .int sp])), (af, .inl (gI G, 121, .inl (fun m => nI (fdy m)))), (a, .inl (gI G, 2175, .inl (fga (ten (lk1 r m) m))))] := hD
        have hw_2 : ([(h, .inr (4, [.ref an, .ref tr, .ref ah, .int ch, .ref ak, .ref ai, .ref ap, .int sy, .ref af, .int sp])), (af, .inl (gI G, 121, .inl (fun m => nI (fdy m)))), (a, .inl (gI G, 2175, .inl (fga (ten (lk1 r m) m))))] : va_W) = [(h, .inr (4, [.ref an, .ref tr, .ref ah, .int ch, .ref ak, .ref ai, .ref ap, .int sy, .ref af, .int sp])), (af, .inl (gI G, 121, .inl (fun m => nI (fdy m)))), (a, .inl (gI G, 2175, .inl (lok r m)))] := (wlc rfl (wlc rfl (wlc (wli ((cI_t ⟨c_6, c_16⟩).symm)) rfl)))
        rw [hw_2] at hP hD
        have hPj := hP.sub (ws' := [(h, .inr (4, [.ref an, .ref tr, .ref ah, .int ch, .ref ak, .ref ai, .ref ap, .int sy, .ref af, .int sp])), (af, .inl (gI G, 121, .inl (fun m => nI (fdy m)))), (a, .inl (gI G, 2175, .inl (lok r m)))]) [0, 1, 2] rfl
        exact e_wv hx hb hr hlk hPj hS dX4_look_43
      · skip
        refine lv_aload_n hx hb dX4_look_29 rfl (lv_at hl 1 rfl) ?_
        refine lv_iload_n hx hb dX4_look_30 rfl (lv_at hl 2 rfl) ?_
        refine k_rvS (As := [.ref a, .int (nI m)]) (rest := []) (wr := [(h, .inr (4, [.ref an, .ref tr, .ref ah, .int ch, .ref ak, .ref ai, .ref ap, .int sy, .ref af, .int sp])), (af, .inl (gI G, 121, .inl (fun m => nI (fdy m))))]) hF (c_X4_unfold l G _ a r m (by omega)) mw_3_192 mw_3_193 mw_1_5 mw_3_194 hd_X4_unfold ⟨Nat.le_of_ble_eq_true rfl, Nat.le_of_ble_eq_true rfl⟩ hKx hZ hS hP hD hA [2] [0, 1] rfl rfl (by decide) (by decide) (by decide) rfl rfl hl.1 rfl (Nat.le_of_ble_eq_true rfl) dX4_look_31 ⟨Nat.zero_le _, Nat.zero_le _⟩ (fun H locs hP hD hS => ?_)
        have hP : va_P G.1 vwCl [(h, .inr (4, [.ref an, .ref tr, .ref ah, .int ch, .ref ak, .ref ai, .ref ap, .int sy, .ref af, .int sp])), (af, .inl (gI G, 121, .inl (fun m => nI (fdy m)))), (a, .inl (gI G, 2175, .inl (ufd r m)))] H := hP
        have hD : va_D A [(h, .inr (4, [.ref an, .ref tr, .ref ah, .int ch, .ref ak, .ref ai, .ref ap, .int sy, .ref af, .int sp])), (af, .inl (gI G, 121, .inl (fun m => nI (fdy m)))), (a, .inl (gI G, 2175, .inl (ufd r m)))] := hD
        have hw_3 : ([(h, .inr (4, [.ref an, .ref tr, .ref ah, .int ch, .ref ak, .ref ai, .ref ap, .int sy, .ref af, .int sp])), (af, .inl (gI G, 121, .inl (fun m => nI (fdy m)))), (a, .inl (gI G, 2175, .inl (ufd r m)))] : va_W) = [(h, .inr (4, [.ref an, .ref tr, .ref ah, .int ch, .ref ak, .ref ai, .ref ap, .int sy, .ref af, .int sp])), (af, .inl (gI G, 121, .inl (fun m => nI (fdy m)))), (a, .inl (gI G, 2175, .inl (lk1 r m)))] := (wlc rfl (wlc rfl (wlc (wli ((cI_t c_26).symm)) rfl)))
        rw [hw_3] at hP hD
        refine lv_aload_n hx hb dX4_look_34 rfl (lv_at hl 1 rfl) ?_
        refine lv_iload_n hx hb dX4_look_35 rfl (lv_at hl 2 rfl) ?_
        refine k_rvS (As := [.ref a, .int (nI m)]) (rest := []) (wr := [(h, .inr (4, [.ref an, .ref tr, .ref ah, .int ch, .ref ak, .ref ai, .ref ap, .int sy, .ref af, .int sp])), (af, .inl (gI G, 121, .inl (fun m => nI (fdy m))))]) hF (c_X4_toEnd l G _ a (lk1 r m) m (by omega) (hB1)) mw_3_195 mw_3_196 mw_1_5 mw_3_197 hd_X4_toEnd ⟨Nat.le_of_ble_eq_true rfl, Nat.le_of_ble_eq_true rfl⟩ hKx hZ hS hP hD hA [2] [0, 1] rfl rfl (by decide) (by decide) (by decide) rfl rfl hl.1 rfl (Nat.le_of_ble_eq_true rfl) dX4_look_36 ⟨Nat.zero_le _, Nat.zero_le _⟩ (fun H locs hP hD hS => ?_)
        have hP : va_P G.1 vwCl [(h, .inr (4, [.ref an, .ref tr, .ref ah, .int ch, .ref ak, .ref ai, .ref ap, .int sy, .ref af, .int sp])), (af, .inl (gI G, 121, .inl (fun m => nI (fdy m)))), (a, .inl (gI G, 2175, .inl (ten (lk1 r m) m)))] H := hP
        have hD : va_D A [(h, .inr (4, [.ref an, .ref tr, .ref ah, .int ch, .ref ak, .ref ai, .ref ap, .int sy, .ref af, .int sp])), (af, .inl (gI G, 121, .inl (fun m => nI (fdy m)))), (a, .inl (gI G, 2175, .inl (ten (lk1 r m) m)))] := hD
        refine lv_aload_n hx hb dX4_look_39 rfl (lv_at hl 1 rfl) ?_
        refine k_rvS (As := [.ref a]) (rest := []) (wr := [(h, .inr (4, [.ref an, .ref tr, .ref ah, .int ch, .ref ak, .ref ai, .ref ap, .int sy, .ref af, .int sp])), (af, .inl (gI G, 121, .inl (fun m => nI (fdy m))))]) hF (c_X4_foldAgain l G _ a (ten (lk1 r m) m) (hB2)) mw_3_103 mw_3_104 mw_1_5 mw_3_105 hd_X4_foldAgain ⟨Nat.le_of_ble_eq_true rfl, Nat.le_of_ble_eq_true rfl⟩ hKx hZ hS hP hD hA [2] [0, 1] rfl rfl (by decide) (by decide) (by decide) rfl rfl hl.1 rfl (Nat.le_of_ble_eq_true rfl) dX4_look_40 ⟨Nat.zero_le _, Nat.zero_le _⟩ (fun H locs hP hD hS => ?_)
        have hP : va_P G.1 vwCl [(h, .inr (4, [.ref an, .ref tr, .ref ah, .int ch, .ref ak, .ref ai, .ref ap, .int sy, .ref af, .int sp])), (af, .inl (gI G, 121, .inl (fun m => nI (fdy m)))), (a, .inl (gI G, 2175, .inl (fga (ten (lk1 r m) m))))] H := hP
        have hD : va_D A [(h, .inr (4, [.ref an, .ref tr, .ref ah, .int ch, .ref ak, .ref ai, .ref ap, .int sy, .ref af, .int sp])), (af, .inl (gI G, 121, .inl (fun m => nI (fdy m)))), (a, .inl (gI G, 2175, .inl (fga (ten (lk1 r m) m))))] := hD
        have hw_4 : ([(h, .inr (4, [.ref an, .ref tr, .ref ah, .int ch, .ref ak, .ref ai, .ref ap, .int sy, .ref af, .int sp])), (af, .inl (gI G, 121, .inl (fun m => nI (fdy m)))), (a, .inl (gI G, 2175, .inl (fga (ten (lk1 r m) m))))] : va_W) = [(h, .inr (4, [.ref an, .ref tr, .ref ah, .int ch, .ref ak, .ref ai, .ref ap, .int sy, .ref af, .int sp])), (af, .inl (gI G, 121, .inl (fun m => nI (fdy m)))), (a, .inl (gI G, 2175, .inl (lok r m)))] := (wlc rfl (wlc rfl (wlc (wli ((cI_t ⟨c_6, c_16⟩).symm)) rfl)))
        rw [hw_4] at hP hD
        have hPj := hP.sub (ws' := [(h, .inr (4, [.ref an, .ref tr, .ref ah, .int ch, .ref ak, .ref ai, .ref ap, .int sy, .ref af, .int sp])), (af, .inl (gI G, 121, .inl (fun m => nI (fdy m)))), (a, .inl (gI G, 2175, .inl (lok r m)))]) [0, 1, 2] rfl
        exact e_wv hx hb hr hlk hPj hS dX4_look_43
    · skip
      have hPj := hP.sub (ws' := [(h, .inr (4, [.ref an, .ref tr, .ref ah, .int ch, .ref ak, .ref ai, .ref ap, .int sy, .ref af, .int sp])), (af, .inl (gI G, 121, .inl (fun m => nI (fdy m)))), (a, .inl (gI G, 2175, .inl r))]) [0, 1, 2] rfl
      have hwj : ([(h, .inr (4, [.ref an, .ref tr, .ref ah, .int ch, .ref ak, .ref ai, .ref ap, .int sy, .ref af, .int sp])), (af, .inl (gI G, 121, .inl (fun m => nI (fdy m)))), (a, .inl (gI G, 2175, .inl r))] : va_W) = [(h, .inr (4, [.ref an, .ref tr, .ref ah, .int ch, .ref ak, .ref ai, .ref ap, .int sy, .ref af, .int sp])), (af, .inl (gI G, 121, .inl (fun m => nI (fdy m)))), (a, .inl (gI G, 2175, .inl (lok r m)))] := (wlc (rfl) (wlc (rfl) (wlc (wli (cI_f (fun z => by first | exact c_6 z.1 | exact z.2 c_16)).symm) rfl)))
      rw [hwj] at hPj
      exact e_wv hx hb hr hlk hPj hS dX4_look_19
set_option maxHeartbeats 4000000 in
set_option maxRecDepth 100000 in
theorem c_X4_lay (l : Launch) (G : gT) (sz : Nat) (h : Nat) (an : Nat) (tr : Nat) (ah : Nat) (ch : Int32) (ak : Nat) (ai : Nat) (ap : Nat) (sy : Int32) (af : Nat) (sp : Int32) (a : Nat) (r : Nat → Int32) (s : Nat) (m : Nat) (x : Int32) (P : Prop) (hm : m < 120) (hs : s < 16) (hB : Bs r 7) : Rv l G yX4_lay cX4_lay 8 none 7 sz [(h, .inr (4, [.ref an, .ref tr, .ref ah, .int ch, .ref ak, .ref ai, .ref ap, .int sy, .ref af, .int sp])), (af, .inl (gI G, 121, .inl (fun m => nI (fdy m)))), (a, .inl (gI G, 2175, .inl r))] [.ref h, .ref a, .int (nI s), .int (nI m), .int x, .int (pI P)] [(h, .inr (4, [.ref an, .ref tr, .ref ah, .int ch, .ref ak, .ref ai, .ref ap, .int sy, .ref af, .int sp])), (af, .inl (gI G, 121, .inl (fun m => nI (fdy m)))), (a, .inl (gI G, 2175, .inl (lay r s m x P)))] := by
  refine Rv.mk (by decide) (Nat.le_of_ble_eq_true rfl) (fun pq eq sq mq bq tq cq ls A hr hlk hF hKx hZ hA hP hD hS hl => ?_)
  have hx := hF.1
  have hb := hF.2.1
  have hml := hF.2.2.1
  have hown : sq.vm.findClass RX4 = some mq.cls := hF.2.2.2.1
  have hts : ∀ w ∈ GW, w.before _ sq = true := hF.2.2.2.2
  have hK := hKx.1
  have hl : lv_has ls 8 [(0, .ref h), (1, .ref a), (2, .int (nI s)), (3, .int (nI m)), (4, .int x), (5, .int (pI P))] := hl
  have hP : va_P G.1 vwCl [(h, .inr (4, [.ref an, .ref tr, .ref ah, .int ch, .ref ak, .ref ai, .ref ap, .int sy, .ref af, .int sp])), (af, .inl (gI G, 121, .inl (fun m => nI (fdy m)))), (a, .inl (gI G, 2175, .inl r))] sq.heap := hP
  have hD : va_D A [(h, .inr (4, [.ref an, .ref tr, .ref ah, .int ch, .ref ak, .ref ai, .ref ap, .int sy, .ref af, .int sp])), (af, .inl (gI G, 121, .inl (fun m => nI (fdy m)))), (a, .inl (gI G, 2175, .inl r))] := hD
  have hB1 := Bs_ly1 (m := m) hB (by omega)
  have hB2 := Bs_ly2 (m := m) hB (by omega)
  have hB3 := Bs_ly3 (s := s) (m := m) (x := x) (P := P) hB (by omega)
  have hB4 := Bs_ten (m := m) hB3 (Nat.le_refl 7) hm
  refine lv_aload_n hx hb dX4_lay_0 rfl (lv_at hl 0 rfl) ?_
  refine lv_aload_n hx hb dX4_lay_1 rfl (lv_at hl 1 rfl) ?_
  refine lv_iload_n hx hb dX4_lay_2 rfl (lv_at hl 3 rfl) ?_
  refine k_roV (ci := 4) (q0 := 0) (As := [.ref a, .int (nI m)]) (rest := []) hF (c_X4_isOld l G h an tr ah ch ak ai ap sy af sp a r m (by omega) (hB.mono (by omega))) hKx hP ⟨_, rfl, rfl⟩ rfl rfl mw_3_153 mw_3_155 mw_p1_12 mw_1_5 mw_3_156 hd_X4_isOld ⟨Nat.le_of_ble_eq_true rfl, Nat.le_of_ble_eq_true rfl⟩ (Rd.of hKx hZ hS) (hP.sub (ws' := [(h, .inr (4, [.ref an, .ref tr, .ref ah, .int ch, .ref ak, .ref ai, .ref ap, .int sy, .ref af, .int sp])), (af, .inl (gI G, 121, .inl (fun m => nI (fdy m)))), (a, .inl (gI G, 2175, .inl r))]) [0, 1, 2] rfl) rfl hl.1 rfl (Nat.le_of_ble_eq_true rfl) dX4_lay_3 ⟨Nat.zero_le _, Nat.zero_le _⟩ ?_
  refine lv_istore (lv' := [(6, .int (pI (m + kpn r ≤ mot (td r)))), (0, .ref h), (1, .ref a), (2, .int (nI s)), (3, .int (nI m)), (4, .int x), (5, .int (pI P))]) hx hb dX4_lay_6 hl (by decide) rfl (fun ls hl => ?_)
  refine lv_iconst (v := nI 0) hx hb dX4_lay_8 (by decide) ?_
  refine lv_istore (lv' := [(7, .int (nI 0)), (6, .int (pI (m + kpn r ≤ mot (td r)))), (0, .ref h), (1, .ref a), (2, .int (nI s)), (3, .int (nI m)), (4, .int x), (5, .int (pI P))]) hx hb dX4_lay_9 hl (by decide) rfl (fun ls hl => ?_)
  have hPj := hP.sub (ws' := [(h, .inr (4, [.ref an, .ref tr, .ref ah, .int ch, .ref ak, .ref ai, .ref ap, .int sy, .ref af, .int sp])), (af, .inl (gI G, 121, .inl (fun m => nI (fdy m)))), (a, .inl (gI G, 2175, .inl r))]) [0, 1, 2] rfl
  have hDj := hD.sub (ws' := [(h, .inr (4, [.ref an, .ref tr, .ref ah, .int ch, .ref ak, .ref ai, .ref ap, .int sy, .ref af, .int sp])), (af, .inl (gI G, 121, .inl (fun m => nI (fdy m)))), (a, .inl (gI G, 2175, .inl r))]) [0, 1, 2] (by decide) rfl
  have hwj : ([(h, .inr (4, [.ref an, .ref tr, .ref ah, .int ch, .ref ak, .ref ai, .ref ap, .int sy, .ref af, .int sp])), (af, .inl (gI G, 121, .inl (fun m => nI (fdy m)))), (a, .inl (gI G, 2175, .inl r))] : va_W) = [(h, .inr (4, [.ref an, .ref tr, .ref ah, .int ch, .ref ak, .ref ai, .ref ap, .int sy, .ref af, .int sp])), (af, .inl (gI G, 121, .inl (fun m => nI (fdy m)))), (a, .inl (gI G, 2175, .inl (lnk r m 0)))] := (wlc (rfl) (wlc (rfl) (wlc (rfl) rfl)))
  rw [hwj] at hPj hDj
  refine wloopH [] (fun k H locs ls => (k ≤ 120) ∧ (k = 0 ∨ m + kpn r ≤ mot (td r)) ∧ va_P G.1 vwCl [(h, .inr (4, [.ref an, .ref tr, .ref ah, .int ch, .ref ak, .ref ai, .ref ap, .int sy, .ref af, .int sp])), (af, .inl (gI G, 121, .inl (fun m => nI (fdy m)))), (a, .inl (gI G, 2175, .inl (lnk r m k)))] H ∧ va_D A [(h, .inr (4, [.ref an, .ref tr, .ref ah, .int ch, .ref ak, .ref ai, .ref ap, .int sy, .ref af, .int sp])), (af, .inl (gI G, 121, .inl (fun m => nI (fdy m)))), (a, .inl (gI G, 2175, .inl (lnk r m k)))] ∧ va_S A sq.heap H locs ∧ lv_has ls 8 [(7, .int (nI k)), (6, .int (pI (m + kpn r ≤ mot (td r)))), (0, .ref h), (1, .ref a), (2, .int (nI s)), (3, .int (nI m)), (4, .int x), (5, .int (pI P))]) (fun k => 120 - k) ?_ 0 ⟨(by omega), (by omega), hPj, hDj, hS, lv_sub hl [0, 1, 2, 3, 4, 5, 6, 7] rfl⟩
  intro k ih
  intro H locs ls ⟨hk, hk0, hP, hD, hS, hl⟩
  refine lv_iload hx hb dX4_lay_11 (lv_at hl 0 rfl) ?_
  refine lv_bipush (v := nI 120) hx hb dX4_lay_13 (by decide) ?_
  refine z_ge hx hb (tgt := 59) ((k : Nat) : Int) 120 dX4_lay_15 (by decide) (toI (by omega)) (by decide) (fun c_15 => ?_) (fun c_15 => ?_)
  · skip
    have hk2 : k = 120 := by omega
    subst hk2
    have hol : m + kpn r ≤ mot (td r) := by omega
    have hw_1 : ([(h, .inr (4, [.ref an, .ref tr, .ref ah, .int ch, .ref ak, .ref ai, .ref ap, .int sy, .ref af, .int sp])), (af, .inl (gI G, 121, .inl (fun m => nI (fdy m)))), (a, .inl (gI G, 2175, .inl (lnk r m 120)))] : va_W) = [(h, .inr (4, [.ref an, .ref tr, .ref ah, .int ch, .ref ak, .ref ai, .ref ap, .int sy, .ref af, .int sp])), (af, .inl (gI G, 121, .inl (fun m => nI (fdy m)))), (a, .inl (gI G, 2175, .inl (ly1 r m)))] := (wlc rfl (wlc rfl (wlc (wli ((cI_t hol).symm)) rfl)))
    rw [hw_1] at hP hD
    refine wjoinH 78 [] (fun H locs ls => va_P G.1 vwCl [(h, .inr (4, [.ref an, .ref tr, .ref ah, .int ch, .ref ak, .ref ai, .ref ap, .int sy, .ref af, .int sp])), (af, .inl (gI G, 121, .inl (fun m => nI (fdy m)))), (a, .inl (gI G, 2175, .inl (ly2 r m)))] H ∧ va_D A [(h, .inr (4, [.ref an, .ref tr, .ref ah, .int ch, .ref ak, .ref ai, .ref ap, .int sy, .ref af, .int sp])), (af, .inl (gI G, 121, .inl (fun m => nI (fdy m)))), (a, .inl (gI G, 2175, .inl (ly2 r m)))] ∧ va_S A sq.heap H locs ∧ lv_has ls 8 [(6, .int (pI (m + kpn r ≤ mot (td r)))), (0, .ref h), (1, .ref a), (2, .int (nI s)), (3, .int (nI m)), (4, .int x), (5, .int (pI P))]) ?_ (fun J78 => ?_)
    · skip
      intro H locs ls ⟨hP, hD, hS, hl⟩
      refine lv_aload_n hx hb dX4_lay_78 rfl (lv_at hl 2 rfl) ?_
      refine lv_iload_n hx hb dX4_lay_79 rfl (lv_at hl 4 rfl) ?_
      refine lv_iload_n hx hb dX4_lay_80 rfl (lv_at hl 3 rfl) ?_
      refine k_roS (As := [.int (nI m), .int (nI s)]) (rest := [.ref a]) hF (c_X4_at l G m s) mw_3_118 mw_3_119 mw_1_5 mw_3_120 hd_X4_at ⟨Nat.le_of_ble_eq_true rfl, Nat.le_of_ble_eq_true rfl⟩ (Rd.of hKx hZ hS) (hP.sub (ws' := []) [] rfl) rfl hl.1 rfl (Nat.le_of_ble_eq_true rfl) dX4_lay_81 ⟨Nat.zero_le _, Nat.zero_le _⟩ ?_
      refine lv_iload hx hb dX4_lay_84 (lv_at hl 6 rfl) ?_
      refine p0_eq hx hb (tgt := 102) dX4_lay_86 (by decide) (fun c_86 => ?_) (fun c_86 => ?_)
      · skip
        refine lv_aload_n hx hb dX4_lay_102 rfl (lv_at hl 2 rfl) ?_
        refine lv_iload_n hx hb dX4_lay_103 rfl (lv_at hl 4 rfl) ?_
        refine lv_iload_n hx hb dX4_lay_104 rfl (lv_at hl 3 rfl) ?_
        refine k_roS (As := [.int (nI m), .int (nI s)]) (rest := [.ref a, .int (nI (255 + 16 * m + s)), .ref a]) hF (c_X4_at l G m s) mw_3_118 mw_3_119 mw_1_5 mw_3_120 hd_X4_at ⟨Nat.le_of_ble_eq_true rfl, Nat.le_of_ble_eq_true rfl⟩ (Rd.of hKx hZ hS) (hP.sub (ws' := []) [] rfl) rfl hl.1 rfl (Nat.le_of_ble_eq_true rfl) dX4_lay_105 ⟨Nat.zero_le _, Nat.zero_le _⟩ ?_
        refine n_iald hx hb hK hP 2 0 rfl rfl (by omega) (by decide) dX4_lay_108 ?_
        refine lv_iload hx hb dX4_lay_109 (lv_at hl 5 rfl) ?_
        refine lv_iconst (v := (-1)) hx hb dX4_lay_111 (by decide) ?_
        refine lv_ixor hx hb dX4_lay_112 ?_
        refine lv_iand hx hb dX4_lay_113 ?_
        refine n_iast hx hb hK hP hD hS 2 0 rfl rfl (by omega) (by decide) dX4_lay_114 (fun H locs hP hD hS => ?_)
        have hP : va_P G.1 vwCl [(h, .inr (4, [.ref an, .ref tr, .ref ah, .int ch, .ref ak, .ref ai, .ref ap, .int sy, .ref af, .int sp])), (af, .inl (gI G, 121, .inl (fun m => nI (fdy m)))), (a, .inl (gI G, 2175, .inl (upd (ly2 r m) (255 + 16 * m + s) (((ly2 r m) (255 + 16 * m + s)) &&& (x ^^^ (-1))))))] H := hP
        have hD : va_D A [(h, .inr (4, [.ref an, .ref tr, .ref ah, .int ch, .ref ak, .ref ai, .ref ap, .int sy, .ref af, .int sp])), (af, .inl (gI G, 121, .inl (fun m => nI (fdy m)))), (a, .inl (gI G, 2175, .inl (upd (ly2 r m) (255 + 16 * m + s) (((ly2 r m) (255 + 16 * m + s)) &&& (x ^^^ (-1))))))] := hD
        have hw_2 : ([(h, .inr (4, [.ref an, .ref tr, .ref ah, .int ch, .ref ak, .ref ai, .ref ap, .int sy, .ref af, .int sp])), (af, .inl (gI G, 121, .inl (fun m => nI (fdy m)))), (a, .inl (gI G, 2175, .inl (upd (ly2 r m) (255 + 16 * m + s) (((ly2 r m) (255 + 16 * m + s)) &&& (x ^^^ (-1))))))] : va_W) = [(h, .inr (4, [.ref an, .ref tr, .ref ah, .int ch, .ref ak, .ref ai, .ref ap, .int sy, .ref af, .int sp])), (af, .inl (gI G, 121, .inl (fun m => nI (fdy m)))), (a, .inl (gI G, 2175, .inl (ly3 r s m x P)))] := (wlc rfl (wlc rfl (wlc (wli (by unfold ly3 lyv; first | exact congrArg (upd _ _) (cI_t c_86).symm | exact congrArg (upd _ _) (cI_f c_86).symm)) rfl)))
        rw [hw_2] at hP hD
        refine lv_iload hx hb dX4_lay_115 (lv_at hl 0 rfl) ?_
        refine p0_eq hx hb (tgt := 129) dX4_lay_117 (by decide) (fun c_117 => ?_) (fun c_117 => ?_)
        · skip
          have hPj := hP.sub (ws' := [(h, .inr (4, [.ref an, .ref tr, .ref ah, .int ch, .ref ak, .ref ai, .ref ap, .int sy, .ref af, .int sp])), (af, .inl (gI G, 121, .inl (fun m => nI (fdy m)))), (a, .inl (gI G, 2175, .inl (ly3 r s m x P)))]) [0, 1, 2] rfl
          have hwj : ([(h, .inr (4, [.ref an, .ref tr, .ref ah, .int ch, .ref ak, .ref ai, .ref ap, .int sy, .ref af, .int sp])), (af, .inl (gI G, 121, .inl (fun m => nI (fdy m)))), (a, .inl (gI G, 2175, .inl (ly3 r s m x P)))] : va_W) = [(h, .inr (4, [.ref an, .ref tr, .ref ah, .int ch, .ref ak, .ref ai, .ref ap, .int sy, .ref af, .int sp])), (af, .inl (gI G, 121, .inl (fun m => nI (fdy m)))), (a, .inl (gI G, 2175, .inl (lay r s m x P)))] := (wlc (rfl) (wlc (rfl) (wlc (by first | rfl | exact wli (cI_f c_117).symm) rfl)))
          rw [hwj] at hPj
          exact e_wv hx hb hr hlk hPj hS dX4_lay_129
        · skip
          refine lv_aload_n hx hb dX4_lay_120 rfl (lv_at hl 2 rfl) ?_
          refine lv_iload_n hx hb dX4_lay_121 rfl (lv_at hl 4 rfl) ?_
          refine k_rvS (As := [.ref a, .int (nI m)]) (rest := []) (wr := [(h, .inr (4, [.ref an, .ref tr, .ref ah, .int ch, .ref ak, .ref ai, .ref ap, .int sy, .ref af, .int sp])), (af, .inl (gI G, 121, .inl (fun m => nI (fdy m))))]) hF (c_X4_toEnd l G _ a (ly3 r s m x P) m (by omega) (hB3)) mw_3_195 mw_3_196 mw_1_5 mw_3_197 hd_X4_toEnd ⟨Nat.le_of_ble_eq_true rfl, Nat.le_of_ble_eq_true rfl⟩ hKx hZ hS hP hD hA [2] [0, 1] rfl rfl (by decide) (by decide) (by decide) rfl rfl hl.1 rfl (Nat.le_of_ble_eq_true rfl) dX4_lay_122 ⟨Nat.zero_le _, Nat.zero_le _⟩ (fun H locs hP hD hS => ?_)
          have hP : va_P G.1 vwCl [(h, .inr (4, [.ref an, .ref tr, .ref ah, .int ch, .ref ak, .ref ai, .ref ap, .int sy, .ref af, .int sp])), (af, .inl (gI G, 121, .inl (fun m => nI (fdy m)))), (a, .inl (gI G, 2175, .inl (ten (ly3 r s m x P) m)))] H := hP
          have hD : va_D A [(h, .inr (4, [.ref an, .ref tr, .ref ah, .int ch, .ref ak, .ref ai, .ref ap, .int sy, .ref af, .int sp])), (af, .inl (gI G, 121, .inl (fun m => nI (fdy m)))), (a, .inl (gI G, 2175, .inl (ten (ly3 r s m x P) m)))] := hD
          refine lv_aload_n hx hb dX4_lay_125 rfl (lv_at hl 2 rfl) ?_
          refine k_rvS (As := [.ref a]) (rest := []) (wr := [(h, .inr (4, [.ref an, .ref tr, .ref ah, .int ch, .ref ak, .ref ai, .ref ap, .int sy, .ref af, .int sp])), (af, .inl (gI G, 121, .inl (fun m => nI (fdy m))))]) hF (c_X4_foldAgain l G _ a (ten (ly3 r s m x P) m) (hB4)) mw_3_103 mw_3_104 mw_1_5 mw_3_105 hd_X4_foldAgain ⟨Nat.le_of_ble_eq_true rfl, Nat.le_of_ble_eq_true rfl⟩ hKx hZ hS hP hD hA [2] [0, 1] rfl rfl (by decide) (by decide) (by decide) rfl rfl hl.1 rfl (Nat.le_of_ble_eq_true rfl) dX4_lay_126 ⟨Nat.zero_le _, Nat.zero_le _⟩ (fun H locs hP hD hS => ?_)
          have hP : va_P G.1 vwCl [(h, .inr (4, [.ref an, .ref tr, .ref ah, .int ch, .ref ak, .ref ai, .ref ap, .int sy, .ref af, .int sp])), (af, .inl (gI G, 121, .inl (fun m => nI (fdy m)))), (a, .inl (gI G, 2175, .inl (fga (ten (ly3 r s m x P) m))))] H := hP
          have hD : va_D A [(h, .inr (4, [.ref an, .ref tr, .ref ah, .int ch, .ref ak, .ref ai, .ref ap, .int sy, .ref af, .int sp])), (af, .inl (gI G, 121, .inl (fun m => nI (fdy m)))), (a, .inl (gI G, 2175, .inl (fga (ten (ly3 r s m x P) m))))] := hD
          have hw_3 : ([(h, .inr (4, [.ref an, .ref tr, .ref ah, .int ch, .ref ak, .ref ai, .ref ap, .int sy, .ref af, .int sp])), (af, .inl (gI G, 121, .inl (fun m => nI (fdy m)))), (a, .inl (gI G, 2175, .inl (fga (ten (ly3 r s m x P) m))))] : va_W) = [(h, .inr (4, [.ref an, .ref tr, .ref ah, .int ch, .ref ak, .ref ai, .ref ap, .int sy, .ref af, .int sp])), (af, .inl (gI G, 121, .inl (fun m => nI (fdy m)))), (a, .inl (gI G, 2175, .inl (lay r s m x P)))] := (wlc rfl (wlc rfl (wlc (wli ((cI_t c_117).symm)) rfl)))
          rw [hw_3] at hP hD
          have hPj := hP.sub (ws' := [(h, .inr (4, [.ref an, .ref tr, .ref ah, .int ch, .ref ak, .ref ai, .ref ap, .int sy, .ref af, .int sp])), (af, .inl (gI G, 121, .inl (fun m => nI (fdy m)))), (a, .inl (gI G, 2175, .inl (lay r s m x P)))]) [0, 1, 2] rfl
          exact e_wv hx hb hr hlk hPj hS dX4_lay_129
      · skip
        refine lv_aload_n hx hb dX4_lay_89 rfl (lv_at hl 2 rfl) ?_
        refine lv_iload_n hx hb dX4_lay_90 rfl (lv_at hl 4 rfl) ?_
        refine lv_iload_n hx hb dX4_lay_91 rfl (lv_at hl 3 rfl) ?_
        refine k_roS (As := [.int (nI m), .int (nI s)]) (rest := [.ref a, .int (nI (255 + 16 * m + s)), .ref a]) hF (c_X4_at l G m s) mw_3_118 mw_3_119 mw_1_5 mw_3_120 hd_X4_at ⟨Nat.le_of_ble_eq_true rfl, Nat.le_of_ble_eq_true rfl⟩ (Rd.of hKx hZ hS) (hP.sub (ws' := []) [] rfl) rfl hl.1 rfl (Nat.le_of_ble_eq_true rfl) dX4_lay_92 ⟨Nat.zero_le _, Nat.zero_le _⟩ ?_
        refine n_iald hx hb hK hP 2 0 rfl rfl (by omega) (by decide) dX4_lay_95 ?_
        refine lv_iload hx hb dX4_lay_96 (lv_at hl 5 rfl) ?_
        refine lv_ior hx hb dX4_lay_98 ?_
        refine lv_goto (tgt := 114) hx hb dX4_lay_99 (by decide) ?_
        refine n_iast hx hb hK hP hD hS 2 0 rfl rfl (by omega) (by decide) dX4_lay_114 (fun H locs hP hD hS => ?_)
        have hP : va_P G.1 vwCl [(h, .inr (4, [.ref an, .ref tr, .ref ah, .int ch, .ref ak, .ref ai, .ref ap, .int sy, .ref af, .int sp])), (af, .inl (gI G, 121, .inl (fun m => nI (fdy m)))), (a, .inl (gI G, 2175, .inl (upd (ly2 r m) (255 + 16 * m + s) (((ly2 r m) (255 + 16 * m + s)) ||| x))))] H := hP
        have hD : va_D A [(h, .inr (4, [.ref an, .ref tr, .ref ah, .int ch, .ref ak, .ref ai, .ref ap, .int sy, .ref af, .int sp])), (af, .inl (gI G, 121, .inl (fun m => nI (fdy m)))), (a, .inl (gI G, 2175, .inl (upd (ly2 r m) (255 + 16 * m + s) (((ly2 r m) (255 + 16 * m + s)) ||| x))))] := hD
        have hw_4 : ([(h, .inr (4, [.ref an, .ref tr, .ref ah, .int ch, .ref ak, .ref ai, .ref ap, .int sy, .ref af, .int sp])), (af, .inl (gI G, 121, .inl (fun m => nI (fdy m)))), (a, .inl (gI G, 2175, .inl (upd (ly2 r m) (255 + 16 * m + s) (((ly2 r m) (255 + 16 * m + s)) ||| x))))] : va_W) = [(h, .inr (4, [.ref an, .ref tr, .ref ah, .int ch, .ref ak, .ref ai, .ref ap, .int sy, .ref af, .int sp])), (af, .inl (gI G, 121, .inl (fun m => nI (fdy m)))), (a, .inl (gI G, 2175, .inl (ly3 r s m x P)))] := (wlc rfl (wlc rfl (wlc (wli (by unfold ly3 lyv; first | exact congrArg (upd _ _) (cI_t c_86).symm | exact congrArg (upd _ _) (cI_f c_86).symm)) rfl)))
        rw [hw_4] at hP hD
        refine lv_iload hx hb dX4_lay_115 (lv_at hl 0 rfl) ?_
        refine p0_eq hx hb (tgt := 129) dX4_lay_117 (by decide) (fun c_117 => ?_) (fun c_117 => ?_)
        · skip
          have hPj := hP.sub (ws' := [(h, .inr (4, [.ref an, .ref tr, .ref ah, .int ch, .ref ak, .ref ai, .ref ap, .int sy, .ref af, .int sp])), (af, .inl (gI G, 121, .inl (fun m => nI (fdy m)))), (a, .inl (gI G, 2175, .inl (ly3 r s m x P)))]) [0, 1, 2] rfl
          have hwj : ([(h, .inr (4, [.ref an, .ref tr, .ref ah, .int ch, .ref ak, .ref ai, .ref ap, .int sy, .ref af, .int sp])), (af, .inl (gI G, 121, .inl (fun m => nI (fdy m)))), (a, .inl (gI G, 2175, .inl (ly3 r s m x P)))] : va_W) = [(h, .inr (4, [.ref an, .ref tr, .ref ah, .int ch, .ref ak, .ref ai, .ref ap, .int sy, .ref af, .int sp])), (af, .inl (gI G, 121, .inl (fun m => nI (fdy m)))), (a, .inl (gI G, 2175, .inl (lay r s m x P)))] := (wlc (rfl) (wlc (rfl) (wlc (by first | rfl | exact wli (cI_f c_117).symm) rfl)))
          rw [hwj] at hPj
          exact e_wv hx hb hr hlk hPj hS dX4_lay_129
        · skip
          refine lv_aload_n hx hb dX4_lay_120 rfl (lv_at hl 2 rfl) ?_
          refine lv_iload_n hx hb dX4_lay_121 rfl (lv_at hl 4 rfl) ?_
          refine k_rvS (As := [.ref a, .int (nI m)]) (rest := []) (wr := [(h, .inr (4, [.ref an, .ref tr, .ref ah, .int ch, .ref ak, .ref ai, .ref ap, .int sy, .ref af, .int sp])), (af, .inl (gI G, 121, .inl (fun m => nI (fdy m))))]) hF (c_X4_toEnd l G _ a (ly3 r s m x P) m (by omega) (hB3)) mw_3_195 mw_3_196 mw_1_5 mw_3_197 hd_X4_toEnd ⟨Nat.le_of_ble_eq_true rfl, Nat.le_of_ble_eq_true rfl⟩ hKx hZ hS hP hD hA [2] [0, 1] rfl rfl (by decide) (by decide) (by decide) rfl rfl hl.1 rfl (Nat.le_of_ble_eq_true rfl) dX4_lay_122 ⟨Nat.zero_le _, Nat.zero_le _⟩ (fun H locs hP hD hS => ?_)
          have hP : va_P G.1 vwCl [(h, .inr (4, [.ref an, .ref tr, .ref ah, .int ch, .ref ak, .ref ai, .ref ap, .int sy, .ref af, .int sp])), (af, .inl (gI G, 121, .inl (fun m => nI (fdy m)))), (a, .inl (gI G, 2175, .inl (ten (ly3 r s m x P) m)))] H := hP
          have hD : va_D A [(h, .inr (4, [.ref an, .ref tr, .ref ah, .int ch, .ref ak, .ref ai, .ref ap, .int sy, .ref af, .int sp])), (af, .inl (gI G, 121, .inl (fun m => nI (fdy m)))), (a, .inl (gI G, 2175, .inl (ten (ly3 r s m x P) m)))] := hD
          refine lv_aload_n hx hb dX4_lay_125 rfl (lv_at hl 2 rfl) ?_
          refine k_rvS (As := [.ref a]) (rest := []) (wr := [(h, .inr (4, [.ref an, .ref tr, .ref ah, .int ch, .ref ak, .ref ai, .ref ap, .int sy, .ref af, .int sp])), (af, .inl (gI G, 121, .inl (fun m => nI (fdy m))))]) hF (c_X4_foldAgain l G _ a (ten (ly3 r s m x P) m) (hB4)) mw_3_103 mw_3_104 mw_1_5 mw_3_105 hd_X4_foldAgain ⟨Nat.le_of_ble_eq_true rfl, Nat.le_of_ble_eq_true rfl⟩ hKx hZ hS hP hD hA [2] [0, 1] rfl rfl (by decide) (by decide) (by decide) rfl rfl hl.1 rfl (Nat.le_of_ble_eq_true rfl) dX4_lay_126 ⟨Nat.zero_le _, Nat.zero_le _⟩ (fun H locs hP hD hS => ?_)
          have hP : va_P G.1 vwCl [(h, .inr (4, [.ref an, .ref tr, .ref ah, .int ch, .ref ak, .ref ai, .ref ap, .int sy, .ref af, .int sp])), (af, .inl (gI G, 121, .inl (fun m => nI (fdy m)))), (a, .inl (gI G, 2175, .inl (fga (ten (ly3 r s m x P) m))))] H := hP
          have hD : va_D A [(h, .inr (4, [.ref an, .ref tr, .ref ah, .int ch, .ref ak, .ref ai, .ref ap, .int sy, .ref af, .int sp])), (af, .inl (gI G, 121, .inl (fun m => nI (fdy m)))), (a, .inl (gI G, 2175, .inl (fga (ten (ly3 r s m x P) m))))] := hD
          have hw_5 : ([(h, .inr (4, [.ref an, .ref tr, .ref ah, .int ch, .ref ak, .ref ai, .ref ap, .int sy, .ref af, .int sp])), (af, .inl (gI G, 121, .inl (fun m => nI (fdy m)))), (a, .inl (gI G, 2175, .inl (fga (ten (ly3 r s m x P) m))))] : va_W) = [(h, .inr (4, [.ref an, .ref tr, .ref ah, .int ch, .ref ak, .ref ai, .ref ap, .int sy, .ref af, .int sp])), (af, .inl (gI G, 121, .inl (fun m => nI (fdy m)))), (a, .inl (gI G, 2175, .inl (lay r s m x P)))] := (wlc rfl (wlc rfl (wlc (wli ((cI_t c_117).symm)) rfl)))
          rw [hw_5] at hP hD
          have hPj := hP.sub (ws' := [(h, .inr (4, [.ref an, .ref tr, .ref ah, .int ch, .ref ak, .ref ai, .ref ap, .int sy, .ref af, .int sp])), (af, .inl (gI G, 121, .inl (fun m => nI (fdy m)))), (a, .inl (gI G, 2175, .inl (lay r s m x P)))]) [0, 1, 2] rfl
          exact e_wv hx hb hr hlk hPj hS dX4_lay_129
    · skip
      refine lv_iload hx hb dX4_lay_59 (lv_at hl 1 rfl) ?_
      refine p0_eq hx hb (tgt := 78) dX4_lay_61 (by decide) (fun c_61 => ?_) (fun c_61 => ?_)
      · skip
        have w_6 : ([(h, .inr (4, [.ref an, .ref tr, .ref ah, .int ch, .ref ak, .ref ai, .ref ap, .int sy, .ref af, .int sp])), (af, .inl (gI G, 121, .inl (fun m => nI (fdy m)))), (a, .inl (gI G, 2175, .inl (ly1 r m)))] : va_W) = [(h, .inr (4, [.ref an, .ref tr, .ref ah, .int ch, .ref ak, .ref ai, .ref ap, .int sy, .ref af, .int sp])), (af, .inl (gI G, 121, .inl (fun m => nI (fdy m)))), (a, .inl (gI G, 2175, .inl (ly2 r m)))] := (wlc (rfl) (wlc (rfl) (wlc (wli (by unfold ly2; first | exact (cI_t (by omega)).symm | exact (cI_f (by omega)).symm)) rfl)))
        have hPj := hP.sub (ws' := [(h, .inr (4, [.ref an, .ref tr, .ref ah, .int ch, .ref ak, .ref ai, .ref ap, .int sy, .ref af, .int sp])), (af, .inl (gI G, 121, .inl (fun m => nI (fdy m)))), (a, .inl (gI G, 2175, .inl (ly1 r m)))]) [0, 1, 2] rfl
        have hDj := hD.sub (ws' := [(h, .inr (4, [.ref an, .ref tr, .ref ah, .int ch, .ref ak, .ref ai, .ref ap, .int sy, .ref af, .int sp])), (af, .inl (gI G, 121, .inl (fun m => nI (fdy m)))), (a, .inl (gI G, 2175, .inl (ly1 r m)))]) [0, 1, 2] (by decide) rfl
        rw [w_6] at hPj hDj
        exact J78 _ _ ls ⟨hPj, hDj, hS, lv_sub hl [1, 2, 3, 4, 5, 6, 7] rfl⟩
      · skip
        refine lv_aload_n hx hb dX4_lay_64 rfl (lv_at hl 3 rfl) ?_
        refine lv_bipush (v := nI 15) hx hb dX4_lay_65 (by decide) ?_
        refine lv_iload_n hx hb dX4_lay_67 rfl (lv_at hl 5 rfl) ?_
        refine n_iadd hx hb dX4_lay_68 ?_
        refine n_iald hx hb hK hP 2 0 rfl rfl (by omega) (by decide) dX4_lay_69 ?_
        refine z0_le hx hb (tgt := 78) (((ly1 r m) (15 + m)).toInt) dX4_lay_70 (by decide) rfl (fun c_70 => ?_) (fun c_70 => ?_)
        · skip
          have w_7 : ([(h, .inr (4, [.ref an, .ref tr, .ref ah, .int ch, .ref ak, .ref ai, .ref ap, .int sy, .ref af, .int sp])), (af, .inl (gI G, 121, .inl (fun m => nI (fdy m)))), (a, .inl (gI G, 2175, .inl (ly1 r m)))] : va_W) = [(h, .inr (4, [.ref an, .ref tr, .ref ah, .int ch, .ref ak, .ref ai, .ref ap, .int sy, .ref af, .int sp])), (af, .inl (gI G, 121, .inl (fun m => nI (fdy m)))), (a, .inl (gI G, 2175, .inl (ly2 r m)))] := (wlc (rfl) (wlc (rfl) (wlc (wli (by unfold ly2; first | exact (cI_t (by omega)).symm | exact (cI_f (by omega)).symm)) rfl)))
          have hPj := hP.sub (ws' := [(h, .inr (4, [.ref an, .ref tr, .ref ah, .int ch, .ref ak, .ref ai, .ref ap, .int sy, .ref af, .int sp])), (af, .inl (gI G, 121, .inl (fun m => nI (fdy m)))), (a, .inl (gI G, 2175, .inl (ly1 r m)))]) [0, 1, 2] rfl
          have hDj := hD.sub (ws' := [(h, .inr (4, [.ref an, .ref tr, .ref ah, .int ch, .ref ak, .ref ai, .ref ap, .int sy, .ref af, .int sp])), (af, .inl (gI G, 121, .inl (fun m => nI (fdy m)))), (a, .inl (gI G, 2175, .inl (ly1 r m)))]) [0, 1, 2] (by decide) rfl
          rw [w_7] at hPj hDj
          exact J78 _ _ ls ⟨hPj, hDj, hS, lv_sub hl [1, 2, 3, 4, 5, 6, 7] rfl⟩
        · skip
          refine lv_aload_n hx hb dX4_lay_73 rfl (lv_at hl 3 rfl) ?_
          refine lv_iload_n hx hb dX4_lay_74 rfl (lv_at hl 5 rfl) ?_
          refine k_rvS (As := [.ref a, .int (nI m)]) (rest := []) (wr := [(h, .inr (4, [.ref an, .ref tr, .ref ah, .int ch, .ref ak, .ref ai, .ref ap, .int sy, .ref af, .int sp])), (af, .inl (gI G, 121, .inl (fun m => nI (fdy m))))]) hF (c_X4_unfold l G _ a (ly1 r m) m (by omega)) mw_3_192 mw_3_193 mw_1_5 mw_3_194 hd_X4_unfold ⟨Nat.le_of_ble_eq_true rfl, Nat.le_of_ble_eq_true rfl⟩ hKx hZ hS hP hD hA [2] [0, 1] rfl rfl (by decide) (by decide) (by decide) rfl rfl hl.1 rfl (Nat.le_of_ble_eq_true rfl) dX4_lay_75 ⟨Nat.zero_le _, Nat.zero_le _⟩ (fun H locs hP hD hS => ?_)
          have hP : va_P G.1 vwCl [(h, .inr (4, [.ref an, .ref tr, .ref ah, .int ch, .ref ak, .ref ai, .ref ap, .int sy, .ref af, .int sp])), (af, .inl (gI G, 121, .inl (fun m => nI (fdy m)))), (a, .inl (gI G, 2175, .inl (ufd (ly1 r m) m)))] H := hP
          have hD : va_D A [(h, .inr (4, [.ref an, .ref tr, .ref ah, .int ch, .ref ak, .ref ai, .ref ap, .int sy, .ref af, .int sp])), (af, .inl (gI G, 121, .inl (fun m => nI (fdy m)))), (a, .inl (gI G, 2175, .inl (ufd (ly1 r m) m)))] := hD
          have w_8 : ([(h, .inr (4, [.ref an, .ref tr, .ref ah, .int ch, .ref ak, .ref ai, .ref ap, .int sy, .ref af, .int sp])), (af, .inl (gI G, 121, .inl (fun m => nI (fdy m)))), (a, .inl (gI G, 2175, .inl (ufd (ly1 r m) m)))] : va_W) = [(h, .inr (4, [.ref an, .ref tr, .ref ah, .int ch, .ref ak, .ref ai, .ref ap, .int sy, .ref af, .int sp])), (af, .inl (gI G, 121, .inl (fun m => nI (fdy m)))), (a, .inl (gI G, 2175, .inl (ly2 r m)))] := (wlc (rfl) (wlc (rfl) (wlc (wli (by unfold ly2; first | exact (cI_t (by omega)).symm | exact (cI_f (by omega)).symm)) rfl)))
          have hPj := hP.sub (ws' := [(h, .inr (4, [.ref an, .ref tr, .ref ah, .int ch, .ref ak, .ref ai, .ref ap, .int sy, .ref af, .int sp])), (af, .inl (gI G, 121, .inl (fun m => nI (fdy m)))), (a, .inl (gI G, 2175, .inl (ufd (ly1 r m) m)))]) [0, 1, 2] rfl
          have hDj := hD.sub (ws' := [(h, .inr (4, [.ref an, .ref tr, .ref ah, .int ch, .ref ak, .ref ai, .ref ap, .int sy, .ref af, .int sp])), (af, .inl (gI G, 121, .inl (fun m => nI (fdy m)))), (a, .inl (gI G, 2175, .inl (ufd (ly1 r m) m)))]) [0, 1, 2] (by decide) rfl
          rw [w_8] at hPj hDj
          exact J78 _ _ ls ⟨hPj, hDj, hS, lv_sub hl [1, 2, 3, 4, 5, 6, 7] rfl⟩
  · skip
    refine lv_iload hx hb dX4_lay_18 (lv_at hl 1 rfl) ?_
    refine p0_eq hx hb (tgt := 59) dX4_lay_20 (by decide) (fun c_20 => ?_) (fun c_20 => ?_)
    · skip
      have hk2 : k = 0 := by omega
      subst hk2
      have hw_9 : ([(h, .inr (4, [.ref an, .ref tr, .ref ah, .int ch, .ref ak, .ref ai, .ref ap, .int sy, .ref af, .int sp])), (af, .inl (gI G, 121, .inl (fun m => nI (fdy m)))), (a, .inl (gI G, 2175, .inl (lnk r m 0)))] : va_W) = [(h, .inr (4, [.ref an, .ref tr, .ref ah, .int ch, .ref ak, .ref ai, .ref ap, .int sy, .ref af, .int sp])), (af, .inl (gI G, 121, .inl (fun m => nI (fdy m)))), (a, .inl (gI G, 2175, .inl (ly1 r m)))] := (wlc rfl (wlc rfl (wlc (wli ((cI_f c_20).symm)) rfl)))
      rw [hw_9] at hP hD
      refine wjoinH 78 [] (fun H locs ls => va_P G.1 vwCl [(h, .inr (4, [.ref an, .ref tr, .ref ah, .int ch, .ref ak, .ref ai, .ref ap, .int sy, .ref af, .int sp])), (af, .inl (gI G, 121, .inl (fun m => nI (fdy m)))), (a, .inl (gI G, 2175, .inl (ly2 r m)))] H ∧ va_D A [(h, .inr (4, [.ref an, .ref tr, .ref ah, .int ch, .ref ak, .ref ai, .ref ap, .int sy, .ref af, .int sp])), (af, .inl (gI G, 121, .inl (fun m => nI (fdy m)))), (a, .inl (gI G, 2175, .inl (ly2 r m)))] ∧ va_S A sq.heap H locs ∧ lv_has ls 8 [(6, .int (pI (m + kpn r ≤ mot (td r)))), (0, .ref h), (1, .ref a), (2, .int (nI s)), (3, .int (nI m)), (4, .int x), (5, .int (pI P))]) ?_ (fun J78 => ?_)
      · skip
        intro H locs ls ⟨hP, hD, hS, hl⟩
        refine lv_aload_n hx hb dX4_lay_78 rfl (lv_at hl 2 rfl) ?_
        refine lv_iload_n hx hb dX4_lay_79 rfl (lv_at hl 4 rfl) ?_
        refine lv_iload_n hx hb dX4_lay_80 rfl (lv_at hl 3 rfl) ?_
        refine k_roS (As := [.int (nI m), .int (nI s)]) (rest := [.ref a]) hF (c_X4_at l G m s) mw_3_118 mw_3_119 mw_1_5 mw_3_120 hd_X4_at ⟨Nat.le_of_ble_eq_true rfl, Nat.le_of_ble_eq_true rfl⟩ (Rd.of hKx hZ hS) (hP.sub (ws' := []) [] rfl) rfl hl.1 rfl (Nat.le_of_ble_eq_true rfl) dX4_lay_81 ⟨Nat.zero_le _, Nat.zero_le _⟩ ?_
        refine lv_iload hx hb dX4_lay_84 (lv_at hl 6 rfl) ?_
        refine p0_eq hx hb (tgt := 102) dX4_lay_86 (by decide) (fun c_86 => ?_) (fun c_86 => ?_)
        · skip
          refine lv_aload_n hx hb dX4_lay_102 rfl (lv_at hl 2 rfl) ?_
          refine lv_iload_n hx hb dX4_lay_103 rfl (lv_at hl 4 rfl) ?_
          refine lv_iload_n hx hb dX4_lay_104 rfl (lv_at hl 3 rfl) ?_
          refine k_roS (As := [.int (nI m), .int (nI s)]) (rest := [.ref a, .int (nI (255 + 16 * m + s)), .ref a]) hF (c_X4_at l G m s) mw_3_118 mw_3_119 mw_1_5 mw_3_120 hd_X4_at ⟨Nat.le_of_ble_eq_true rfl, Nat.le_of_ble_eq_true rfl⟩ (Rd.of hKx hZ hS) (hP.sub (ws' := []) [] rfl) rfl hl.1 rfl (Nat.le_of_ble_eq_true rfl) dX4_lay_105 ⟨Nat.zero_le _, Nat.zero_le _⟩ ?_
          refine n_iald hx hb hK hP 2 0 rfl rfl (by omega) (by decide) dX4_lay_108 ?_
          refine lv_iload hx hb dX4_lay_109 (lv_at hl 5 rfl) ?_
          refine lv_iconst (v := (-1)) hx hb dX4_lay_111 (by decide) ?_
          refine lv_ixor hx hb dX4_lay_112 ?_
          refine lv_iand hx hb dX4_lay_113 ?_
          refine n_iast hx hb hK hP hD hS 2 0 rfl rfl (by omega) (by decide) dX4_lay_114 (fun H locs hP hD hS => ?_)
          have hP : va_P G.1 vwCl [(h, .inr (4, [.ref an, .ref tr, .ref ah, .int ch, .ref ak, .ref ai, .ref ap, .int sy, .ref af, .int sp])), (af, .inl (gI G, 121, .inl (fun m => nI (fdy m)))), (a, .inl (gI G, 2175, .inl (upd (ly2 r m) (255 + 16 * m + s) (((ly2 r m) (255 + 16 * m + s)) &&& (x ^^^ (-1))))))] H := hP
          have hD : va_D A [(h, .inr (4, [.ref an, .ref tr, .ref ah, .int ch, .ref ak, .ref ai, .ref ap, .int sy, .ref af, .int sp])), (af, .inl (gI G, 121, .inl (fun m => nI (fdy m)))), (a, .inl (gI G, 2175, .inl (upd (ly2 r m) (255 + 16 * m + s) (((ly2 r m) (255 + 16 * m + s)) &&& (x ^^^ (-1))))))] := hD
          have hw_10 : ([(h, .inr (4, [.ref an, .ref tr, .ref ah, .int ch, .ref ak, .ref ai, .ref ap, .int sy, .ref af, .int sp])), (af, .inl (gI G, 121, .inl (fun m => nI (fdy m)))), (a, .inl (gI G, 2175, .inl (upd (ly2 r m) (255 + 16 * m + s) (((ly2 r m) (255 + 16 * m + s)) &&& (x ^^^ (-1))))))] : va_W) = [(h, .inr (4, [.ref an, .ref tr, .ref ah, .int ch, .ref ak, .ref ai, .ref ap, .int sy, .ref af, .int sp])), (af, .inl (gI G, 121, .inl (fun m => nI (fdy m)))), (a, .inl (gI G, 2175, .inl (ly3 r s m x P)))] := (wlc rfl (wlc rfl (wlc (wli (by unfold ly3 lyv; first | exact congrArg (upd _ _) (cI_t c_86).symm | exact congrArg (upd _ _) (cI_f c_86).symm)) rfl)))
          rw [hw_10] at hP hD
          refine lv_iload hx hb dX4_lay_115 (lv_at hl 0 rfl) ?_
          refine p0_eq hx hb (tgt := 129) dX4_lay_117 (by decide) (fun c_117 => ?_) (fun c_117 => ?_)
          · skip
            have hPj := hP.sub (ws' := [(h, .inr (4, [.ref an, .ref tr, .ref ah, .int ch, .ref ak, .ref ai, .ref ap, .int sy, .ref af, .int sp])), (af, .inl (gI G, 121, .inl (fun m => nI (fdy m)))), (a, .inl (gI G, 2175, .inl (ly3 r s m x P)))]) [0, 1, 2] rfl
            have hwj : ([(h, .inr (4, [.ref an, .ref tr, .ref ah, .int ch, .ref ak, .ref ai, .ref ap, .int sy, .ref af, .int sp])), (af, .inl (gI G, 121, .inl (fun m => nI (fdy m)))), (a, .inl (gI G, 2175, .inl (ly3 r s m x P)))] : va_W) = [(h, .inr (4, [.ref an, .ref tr, .ref ah, .int ch, .ref ak, .ref ai, .ref ap, .int sy, .ref af, .int sp])), (af, .inl (gI G, 121, .inl (fun m => nI (fdy m)))), (a, .inl (gI G, 2175, .inl (lay r s m x P)))] := (wlc (rfl) (wlc (rfl) (wlc (by first | rfl | exact wli (cI_f c_117).symm) rfl)))
            rw [hwj] at hPj
            exact e_wv hx hb hr hlk hPj hS dX4_lay_129
          · skip
            refine lv_aload_n hx hb dX4_lay_120 rfl (lv_at hl 2 rfl) ?_
            refine lv_iload_n hx hb dX4_lay_121 rfl (lv_at hl 4 rfl) ?_
            refine k_rvS (As := [.ref a, .int (nI m)]) (rest := []) (wr := [(h, .inr (4, [.ref an, .ref tr, .ref ah, .int ch, .ref ak, .ref ai, .ref ap, .int sy, .ref af, .int sp])), (af, .inl (gI G, 121, .inl (fun m => nI (fdy m))))]) hF (c_X4_toEnd l G _ a (ly3 r s m x P) m (by omega) (hB3)) mw_3_195 mw_3_196 mw_1_5 mw_3_197 hd_X4_toEnd ⟨Nat.le_of_ble_eq_true rfl, Nat.le_of_ble_eq_true rfl⟩ hKx hZ hS hP hD hA [2] [0, 1] rfl rfl (by decide) (by decide) (by decide) rfl rfl hl.1 rfl (Nat.le_of_ble_eq_true rfl) dX4_lay_122 ⟨Nat.zero_le _, Nat.zero_le _⟩ (fun H locs hP hD hS => ?_)
            have hP : va_P G.1 vwCl [(h, .inr (4, [.ref an, .ref tr, .ref ah, .int ch, .ref ak, .ref ai, .ref ap, .int sy, .ref af, .int sp])), (af, .inl (gI G, 121, .inl (fun m => nI (fdy m)))), (a, .inl (gI G, 2175, .inl (ten (ly3 r s m x P) m)))] H := hP
            have hD : va_D A [(h, .inr (4, [.ref an, .ref tr, .ref ah, .int ch, .ref ak, .ref ai, .ref ap, .int sy, .ref af, .int sp])), (af, .inl (gI G, 121, .inl (fun m => nI (fdy m)))), (a, .inl (gI G, 2175, .inl (ten (ly3 r s m x P) m)))] := hD
            refine lv_aload_n hx hb dX4_lay_125 rfl (lv_at hl 2 rfl) ?_
            refine k_rvS (As := [.ref a]) (rest := []) (wr := [(h, .inr (4, [.ref an, .ref tr, .ref ah, .int ch, .ref ak, .ref ai, .ref ap, .int sy, .ref af, .int sp])), (af, .inl (gI G, 121, .inl (fun m => nI (fdy m))))]) hF (c_X4_foldAgain l G _ a (ten (ly3 r s m x P) m) (hB4)) mw_3_103 mw_3_104 mw_1_5 mw_3_105 hd_X4_foldAgain ⟨Nat.le_of_ble_eq_true rfl, Nat.le_of_ble_eq_true rfl⟩ hKx hZ hS hP hD hA [2] [0, 1] rfl rfl (by decide) (by decide) (by decide) rfl rfl hl.1 rfl (Nat.le_of_ble_eq_true rfl) dX4_lay_126 ⟨Nat.zero_le _, Nat.zero_le _⟩ (fun H locs hP hD hS => ?_)
            have hP : va_P G.1 vwCl [(h, .inr (4, [.ref an, .ref tr, .ref ah, .int ch, .ref ak, .ref ai, .ref ap, .int sy, .ref af, .int sp])), (af, .inl (gI G, 121, .inl (fun m => nI (fdy m)))), (a, .inl (gI G, 2175, .inl (fga (ten (ly3 r s m x P) m))))] H := hP
            have hD : va_D A [(h, .inr (4, [.ref an, .ref tr, .ref ah, .int ch, .ref ak, .ref ai, .ref ap, .int sy, .ref af, .int sp])), (af, .inl (gI G, 121, .inl (fun m => nI (fdy m)))), (a, .inl (gI G, 2175, .inl (fga (ten (ly3 r s m x P) m))))] := hD
            have hw_11 : ([(h, .inr (4, [.ref an, .ref tr, .ref ah, .int ch, .ref ak, .ref ai, .ref ap, .int sy, .ref af, .int sp])), (af, .inl (gI G, 121, .inl (fun m => nI (fdy m)))), (a, .inl (gI G, 2175, .inl (fga (ten (ly3 r s m x P) m))))] : va_W) = [(h, .inr (4, [.ref an, .ref tr, .ref ah, .int ch, .ref ak, .ref ai, .ref ap, .int sy, .ref af, .int sp])), (af, .inl (gI G, 121, .inl (fun m => nI (fdy m)))), (a, .inl (gI G, 2175, .inl (lay r s m x P)))] := (wlc rfl (wlc rfl (wlc (wli ((cI_t c_117).symm)) rfl)))
            rw [hw_11] at hP hD
            have hPj := hP.sub (ws' := [(h, .inr (4, [.ref an, .ref tr, .ref ah, .int ch, .ref ak, .ref ai, .ref ap, .int sy, .ref af, .int sp])), (af, .inl (gI G, 121, .inl (fun m => nI (fdy m)))), (a, .inl (gI G, 2175, .inl (lay r s m x P)))]) [0, 1, 2] rfl
            exact e_wv hx hb hr hlk hPj hS dX4_lay_129
        · skip
          refine lv_aload_n hx hb dX4_lay_89 rfl (lv_at hl 2 rfl) ?_
          refine lv_iload_n hx hb dX4_lay_90 rfl (lv_at hl 4 rfl) ?_
          refine lv_iload_n hx hb dX4_lay_91 rfl (lv_at hl 3 rfl) ?_
          refine k_roS (As := [.int (nI m), .int (nI s)]) (rest := [.ref a, .int (nI (255 + 16 * m + s)), .ref a]) hF (c_X4_at l G m s) mw_3_118 mw_3_119 mw_1_5 mw_3_120 hd_X4_at ⟨Nat.le_of_ble_eq_true rfl, Nat.le_of_ble_eq_true rfl⟩ (Rd.of hKx hZ hS) (hP.sub (ws' := []) [] rfl) rfl hl.1 rfl (Nat.le_of_ble_eq_true rfl) dX4_lay_92 ⟨Nat.zero_le _, Nat.zero_le _⟩ ?_
          refine n_iald hx hb hK hP 2 0 rfl rfl (by omega) (by decide) dX4_lay_95 ?_
          refine lv_iload hx hb dX4_lay_96 (lv_at hl 5 rfl) ?_
          refine lv_ior hx hb dX4_lay_98 ?_
          refine lv_goto (tgt := 114) hx hb dX4_lay_99 (by decide) ?_
          refine n_iast hx hb hK hP hD hS 2 0 rfl rfl (by omega) (by decide) dX4_lay_114 (fun H locs hP hD hS => ?_)
          have hP : va_P G.1 vwCl [(h, .inr (4, [.ref an, .ref tr, .ref ah, .int ch, .ref ak, .ref ai, .ref ap, .int sy, .ref af, .int sp])), (af, .inl (gI G, 121, .inl (fun m => nI (fdy m)))), (a, .inl (gI G, 2175, .inl (upd (ly2 r m) (255 + 16 * m + s) (((ly2 r m) (255 + 16 * m + s)) ||| x))))] H := hP
          have hD : va_D A [(h, .inr (4, [.ref an, .ref tr, .ref ah, .int ch, .ref ak, .ref ai, .ref ap, .int sy, .ref af, .int sp])), (af, .inl (gI G, 121, .inl (fun m => nI (fdy m)))), (a, .inl (gI G, 2175, .inl (upd (ly2 r m) (255 + 16 * m + s) (((ly2 r m) (255 + 16 * m + s)) ||| x))))] := hD
          have hw_12 : ([(h, .inr (4, [.ref an, .ref tr, .ref ah, .int ch, .ref ak, .ref ai, .ref ap, .int sy, .ref af, .int sp])), (af, .inl (gI G, 121, .inl (fun m => nI (fdy m)))), (a, .inl (gI G, 2175, .inl (upd (ly2 r m) (255 + 16 * m + s) (((ly2 r m) (255 + 16 * m + s)) ||| x))))] : va_W) = [(h, .inr (4, [.ref an, .ref tr, .ref ah, .int ch, .ref ak, .ref ai, .ref ap, .int sy, .ref af, .int sp])), (af, .inl (gI G, 121, .inl (fun m => nI (fdy m)))), (a, .inl (gI G, 2175, .inl (ly3 r s m x P)))] := (wlc rfl (wlc rfl (wlc (wli (by unfold ly3 lyv; first | exact congrArg (upd _ _) (cI_t c_86).symm | exact congrArg (upd _ _) (cI_f c_86).symm)) rfl)))
          rw [hw_12] at hP hD
          refine lv_iload hx hb dX4_lay_115 (lv_at hl 0 rfl) ?_
          refine p0_eq hx hb (tgt := 129) dX4_lay_117 (by decide) (fun c_117 => ?_) (fun c_117 => ?_)
          · skip
            have hPj := hP.sub (ws' := [(h, .inr (4, [.ref an, .ref tr, .ref ah, .int ch, .ref ak, .ref ai, .ref ap, .int sy, .ref af, .int sp])), (af, .inl (gI G, 121, .inl (fun m => nI (fdy m)))), (a, .inl (gI G, 2175, .inl (ly3 r s m x P)))]) [0, 1, 2] rfl
            have hwj : ([(h, .inr (4, [.ref an, .ref tr, .ref ah, .int ch, .ref ak, .ref ai, .ref ap, .int sy, .ref af, .int sp])), (af, .inl (gI G, 121, .inl (fun m => nI (fdy m)))), (a, .inl (gI G, 2175, .inl (ly3 r s m x P)))] : va_W) = [(h, .inr (4, [.ref an, .ref tr, .ref ah, .int ch, .ref ak, .ref ai, .ref ap, .int sy, .ref af, .int sp])), (af, .inl (gI G, 121, .inl (fun m => nI (fdy m)))), (a, .inl (gI G, 2175, .inl (lay r s m x P)))] := (wlc (rfl) (wlc (rfl) (wlc (by first | rfl | exact wli (cI_f c_117).symm) rfl)))
            rw [hwj] at hPj
            exact e_wv hx hb hr hlk hPj hS dX4_lay_129
          · skip
            refine lv_aload_n hx hb dX4_lay_120 rfl (lv_at hl 2 rfl) ?_
            refine lv_iload_n hx hb dX4_lay_121 rfl (lv_at hl 4 rfl) ?_
            refine k_rvS (As := [.ref a, .int (nI m)]) (rest := []) (wr := [(h, .inr (4, [.ref an, .ref tr, .ref ah, .int ch, .ref ak, .ref ai, .ref ap, .int sy, .ref af, .int sp])), (af, .inl (gI G, 121, .inl (fun m => nI (fdy m))))]) hF (c_X4_toEnd l G _ a (ly3 r s m x P) m (by omega) (hB3)) mw_3_195 mw_3_196 mw_1_5 mw_3_197 hd_X4_toEnd ⟨Nat.le_of_ble_eq_true rfl, Nat.le_of_ble_eq_true rfl⟩ hKx hZ hS hP hD hA [2] [0, 1] rfl rfl (by decide) (by decide) (by decide) rfl rfl hl.1 rfl (Nat.le_of_ble_eq_true rfl) dX4_lay_122 ⟨Nat.zero_le _, Nat.zero_le _⟩ (fun H locs hP hD hS => ?_)
            have hP : va_P G.1 vwCl [(h, .inr (4, [.ref an, .ref tr, .ref ah, .int ch, .ref ak, .ref ai, .ref ap, .int sy, .ref af, .int sp])), (af, .inl (gI G, 121, .inl (fun m => nI (fdy m)))), (a, .inl (gI G, 2175, .inl (ten (ly3 r s m x P) m)))] H := hP
            have hD : va_D A [(h, .inr (4, [.ref an, .ref tr, .ref ah, .int ch, .ref ak, .ref ai, .ref ap, .int sy, .ref af, .int sp])), (af, .inl (gI G, 121, .inl (fun m => nI (fdy m)))), (a, .inl (gI G, 2175, .inl (ten (ly3 r s m x P) m)))] := hD
            refine lv_aload_n hx hb dX4_lay_125 rfl (lv_at hl 2 rfl) ?_
            refine k_rvS (As := [.ref a]) (rest := []) (wr := [(h, .inr (4, [.ref an, .ref tr, .ref ah, .int ch, .ref ak, .ref ai, .ref ap, .int sy, .ref af, .int sp])), (af, .inl (gI G, 121, .inl (fun m => nI (fdy m))))]) hF (c_X4_foldAgain l G _ a (ten (ly3 r s m x P) m) (hB4)) mw_3_103 mw_3_104 mw_1_5 mw_3_105 hd_X4_foldAgain ⟨Nat.le_of_ble_eq_true rfl, Nat.le_of_ble_eq_true rfl⟩ hKx hZ hS hP hD hA [2] [0, 1] rfl rfl (by decide) (by decide) (by decide) rfl rfl hl.1 rfl (Nat.le_of_ble_eq_true rfl) dX4_lay_126 ⟨Nat.zero_le _, Nat.zero_le _⟩ (fun H locs hP hD hS => ?_)
            have hP : va_P G.1 vwCl [(h, .inr (4, [.ref an, .ref tr, .ref ah, .int ch, .ref ak, .ref ai, .ref ap, .int sy, .ref af, .int sp])), (af, .inl (gI G, 121, .inl (fun m => nI (fdy m)))), (a, .inl (gI G, 2175, .inl (fga (ten (ly3 r s m x P) m))))] H := hP
            have hD : va_D A [(h, .inr (4, [.ref an, .ref tr, .ref ah, .int ch, .ref ak, .ref ai, .ref ap, .int sy, .ref af, .int sp])), (af, .inl (gI G, 121, .inl (fun m => nI (fdy m)))), (a, .inl (gI G, 2175, .inl (fga (ten (ly3 r s m x P) m))))] := hD
            have hw_13 : ([(h, .inr (4, [.ref an, .ref tr, .ref ah, .int ch, .ref ak, .ref ai, .ref ap, .int sy, .ref af, .int sp])), (af, .inl (gI G, 121, .inl (fun m => nI (fdy m)))), (a, .inl (gI G, 2175, .inl (fga (ten (ly3 r s m x P) m))))] : va_W) = [(h, .inr (4, [.ref an, .ref tr, .ref ah, .int ch, .ref ak, .ref ai, .ref ap, .int sy, .ref af, .int sp])), (af, .inl (gI G, 121, .inl (fun m => nI (fdy m)))), (a, .inl (gI G, 2175, .inl (lay r s m x P)))] := (wlc rfl (wlc rfl (wlc (wli ((cI_t c_117).symm)) rfl)))
            rw [hw_13] at hP hD
            have hPj := hP.sub (ws' := [(h, .inr (4, [.ref an, .ref tr, .ref ah, .int ch, .ref ak, .ref ai, .ref ap, .int sy, .ref af, .int sp])), (af, .inl (gI G, 121, .inl (fun m => nI (fdy m)))), (a, .inl (gI G, 2175, .inl (lay r s m x P)))]) [0, 1, 2] rfl
            exact e_wv hx hb hr hlk hPj hS dX4_lay_129
      · skip
        refine lv_iload hx hb dX4_lay_59 (lv_at hl 1 rfl) ?_
        refine p0_eq hx hb (tgt := 78) dX4_lay_61 (by decide) (fun c_61 => ?_) (fun c_61 => ?_)
        · skip
          have w_14 : ([(h, .inr (4, [.ref an, .ref tr, .ref ah, .int ch, .ref ak, .ref ai, .ref ap, .int sy, .ref af, .int sp])), (af, .inl (gI G, 121, .inl (fun m => nI (fdy m)))), (a, .inl (gI G, 2175, .inl (ly1 r m)))] : va_W) = [(h, .inr (4, [.ref an, .ref tr, .ref ah, .int ch, .ref ak, .ref ai, .ref ap, .int sy, .ref af, .int sp])), (af, .inl (gI G, 121, .inl (fun m => nI (fdy m)))), (a, .inl (gI G, 2175, .inl (ly2 r m)))] := (wlc (rfl) (wlc (rfl) (wlc (wli (by unfold ly2; first | exact (cI_t (by omega)).symm | exact (cI_f (by omega)).symm)) rfl)))
          have hPj := hP.sub (ws' := [(h, .inr (4, [.ref an, .ref tr, .ref ah, .int ch, .ref ak, .ref ai, .ref ap, .int sy, .ref af, .int sp])), (af, .inl (gI G, 121, .inl (fun m => nI (fdy m)))), (a, .inl (gI G, 2175, .inl (ly1 r m)))]) [0, 1, 2] rfl
          have hDj := hD.sub (ws' := [(h, .inr (4, [.ref an, .ref tr, .ref ah, .int ch, .ref ak, .ref ai, .ref ap, .int sy, .ref af, .int sp])), (af, .inl (gI G, 121, .inl (fun m => nI (fdy m)))), (a, .inl (gI G, 2175, .inl (ly1 r m)))]) [0, 1, 2] (by decide) rfl
          rw [w_14] at hPj hDj
          exact J78 _ _ ls ⟨hPj, hDj, hS, lv_sub hl [1, 2, 3, 4, 5, 6, 7] rfl⟩
        · skip
          refine lv_aload_n hx hb dX4_lay_64 rfl (lv_at hl 3 rfl) ?_
          refine lv_bipush (v := nI 15) hx hb dX4_lay_65 (by decide) ?_
          refine lv_iload_n hx hb dX4_lay_67 rfl (lv_at hl 5 rfl) ?_
          refine n_iadd hx hb dX4_lay_68 ?_
          refine n_iald hx hb hK hP 2 0 rfl rfl (by omega) (by decide) dX4_lay_69 ?_
          refine z0_le hx hb (tgt := 78) (((ly1 r m) (15 + m)).toInt) dX4_lay_70 (by decide) rfl (fun c_70 => ?_) (fun c_70 => ?_)
          · skip
            have w_15 : ([(h, .inr (4, [.ref an, .ref tr, .ref ah, .int ch, .ref ak, .ref ai, .ref ap, .int sy, .ref af, .int sp])), (af, .inl (gI G, 121, .inl (fun m => nI (fdy m)))), (a, .inl (gI G, 2175, .inl (ly1 r m)))] : va_W) = [(h, .inr (4, [.ref an, .ref tr, .ref ah, .int ch, .ref ak, .ref ai, .ref ap, .int sy, .ref af, .int sp])), (af, .inl (gI G, 121, .inl (fun m => nI (fdy m)))), (a, .inl (gI G, 2175, .inl (ly2 r m)))] := (wlc (rfl) (wlc (rfl) (wlc (wli (by unfold ly2; first | exact (cI_t (by omega)).symm | exact (cI_f (by omega)).symm)) rfl)))
            have hPj := hP.sub (ws' := [(h, .inr (4, [.ref an, .ref tr, .ref ah, .int ch, .ref ak, .ref ai, .ref ap, .int sy, .ref af, .int sp])), (af, .inl (gI G, 121, .inl (fun m => nI (fdy m)))), (a, .inl (gI G, 2175, .inl (ly1 r m)))]) [0, 1, 2] rfl
            have hDj := hD.sub (ws' := [(h, .inr (4, [.ref an, .ref tr, .ref ah, .int ch, .ref ak, .ref ai, .ref ap, .int sy, .ref af, .int sp])), (af, .inl (gI G, 121, .inl (fun m => nI (fdy m)))), (a, .inl (gI G, 2175, .inl (ly1 r m)))]) [0, 1, 2] (by decide) rfl
            rw [w_15] at hPj hDj
            exact J78 _ _ ls ⟨hPj, hDj, hS, lv_sub hl [1, 2, 3, 4, 5, 6, 7] rfl⟩
          · skip
            refine lv_aload_n hx hb dX4_lay_73 rfl (lv_at hl 3 rfl) ?_
            refine lv_iload_n hx hb dX4_lay_74 rfl (lv_at hl 5 rfl) ?_
            refine k_rvS (As := [.ref a, .int (nI m)]) (rest := []) (wr := [(h, .inr (4, [.ref an, .ref tr, .ref ah, .int ch, .ref ak, .ref ai, .ref ap, .int sy, .ref af, .int sp])), (af, .inl (gI G, 121, .inl (fun m => nI (fdy m))))]) hF (c_X4_unfold l G _ a (ly1 r m) m (by omega)) mw_3_192 mw_3_193 mw_1_5 mw_3_194 hd_X4_unfold ⟨Nat.le_of_ble_eq_true rfl, Nat.le_of_ble_eq_true rfl⟩ hKx hZ hS hP hD hA [2] [0, 1] rfl rfl (by decide) (by decide) (by decide) rfl rfl hl.1 rfl (Nat.le_of_ble_eq_true rfl) dX4_lay_75 ⟨Nat.zero_le _, Nat.zero_le _⟩ (fun H locs hP hD hS => ?_)
            have hP : va_P G.1 vwCl [(h, .inr (4, [.ref an, .ref tr, .ref ah, .int ch, .ref ak, .ref ai, .ref ap, .int sy, .ref af, .int sp])), (af, .inl (gI G, 121, .inl (fun m => nI (fdy m)))), (a, .inl (gI G, 2175, .inl (ufd (ly1 r m) m)))] H := hP
            have hD : va_D A [(h, .inr (4, [.ref an, .ref tr, .ref ah, .int ch, .ref ak, .ref ai, .ref ap, .int sy, .ref af, .int sp])), (af, .inl (gI G, 121, .inl (fun m => nI (fdy m)))), (a, .inl (gI G, 2175, .inl (ufd (ly1 r m) m)))] := hD
            have w_16 : ([(h, .inr (4, [.ref an, .ref tr, .ref ah, .int ch, .ref ak, .ref ai, .ref ap, .int sy, .ref af, .int sp])), (af, .inl (gI G, 121, .inl (fun m => nI (fdy m)))), (a, .inl (gI G, 2175, .inl (ufd (ly1 r m) m)))] : va_W) = [(h, .inr (4, [.ref an, .ref tr, .ref ah, .int ch, .ref ak, .ref ai, .ref ap, .int sy, .ref af, .int sp])), (af, .inl (gI G, 121, .inl (fun m => nI (fdy m)))), (a, .inl (gI G, 2175, .inl (ly2 r m)))] := (wlc (rfl) (wlc (rfl) (wlc (wli (by unfold ly2; first | exact (cI_t (by omega)).symm | exact (cI_f (by omega)).symm)) rfl)))
            have hPj := hP.sub (ws' := [(h, .inr (4, [.ref an, .ref tr, .ref ah, .int ch, .ref ak, .ref ai, .ref ap, .int sy, .ref af, .int sp])), (af, .inl (gI G, 121, .inl (fun m => nI (fdy m)))), (a, .inl (gI G, 2175, .inl (ufd (ly1 r m) m)))]) [0, 1, 2] rfl
            have hDj := hD.sub (ws' := [(h, .inr (4, [.ref an, .ref tr, .ref ah, .int ch, .ref ak, .ref ai, .ref ap, .int sy, .ref af, .int sp])), (af, .inl (gI G, 121, .inl (fun m => nI (fdy m)))), (a, .inl (gI G, 2175, .inl (ufd (ly1 r m) m)))]) [0, 1, 2] (by decide) rfl
            rw [w_16] at hPj hDj
            exact J78 _ _ ls ⟨hPj, hDj, hS, lv_sub hl [1, 2, 3, 4, 5, 6, 7] rfl⟩
    · skip
      refine lv_aload_n hx hb dX4_lay_23 rfl (lv_at hl 3 rfl) ?_
      refine lv_bipush (v := nI 15) hx hb dX4_lay_24 (by decide) ?_
      refine lv_iload hx hb dX4_lay_26 (lv_at hl 0 rfl) ?_
      refine n_iadd hx hb dX4_lay_28 ?_
      refine n_iald hx hb hK hP 2 0 rfl rfl (by omega) (by decide) dX4_lay_29 ?_
      refine lv_iconst (v := nI 2) hx hb dX4_lay_30 (by decide) ?_
      refine z_ne hx hb (tgt := 53) (((lnk r m k) (15 + k)).toInt) 2 dX4_lay_31 (by decide) rfl (by decide) (fun c_31 => ?_) (fun c_31 => ?_)
      · skip
        refine lv_iinc (v := nI (k + 1)) (lv' := [(7, .int (nI (k + 1))), (6, .int (pI (m + kpn r ≤ mot (td r)))), (0, .ref h), (1, .ref a), (2, .int (nI s)), (3, .int (nI m)), (4, .int x), (5, .int (pI P))]) hx hb dX4_lay_53 hl (k := 0) rfl (nI_add _ _) (by decide) rfl (fun ls hl => ?_)
        refine lv_goto (tgt := 11) hx hb dX4_lay_56 (by decide) ?_
        have w_17 : ([(h, .inr (4, [.ref an, .ref tr, .ref ah, .int ch, .ref ak, .ref ai, .ref ap, .int sy, .ref af, .int sp])), (af, .inl (gI G, 121, .inl (fun m => nI (fdy m)))), (a, .inl (gI G, 2175, .inl (lnk r m k)))] : va_W) = [(h, .inr (4, [.ref an, .ref tr, .ref ah, .int ch, .ref ak, .ref ai, .ref ap, .int sy, .ref af, .int sp])), (af, .inl (gI G, 121, .inl (fun m => nI (fdy m)))), (a, .inl (gI G, 2175, .inl (lnk r m (k + 1))))] := (wlc (rfl) (wlc (rfl) (wlc (wli (by first | exact lnk_t ⟨c_31, c_43⟩ | exact lnk_f (fun z => by first | exact c_31 z.1 | exact c_43 z.2))) rfl)))
        have hPj := hP.sub (ws' := [(h, .inr (4, [.ref an, .ref tr, .ref ah, .int ch, .ref ak, .ref ai, .ref ap, .int sy, .ref af, .int sp])), (af, .inl (gI G, 121, .inl (fun m => nI (fdy m)))), (a, .inl (gI G, 2175, .inl (lnk r m k)))]) [0, 1, 2] rfl
        have hDj := hD.sub (ws' := [(h, .inr (4, [.ref an, .ref tr, .ref ah, .int ch, .ref ak, .ref ai, .ref ap, .int sy, .ref af, .int sp])), (af, .inl (gI G, 121, .inl (fun m => nI (fdy m)))), (a, .inl (gI G, 2175, .inl (lnk r m k)))]) [0, 1, 2] (by decide) rfl
        rw [w_17] at hPj hDj
        exact ih (k + 1) _ _ ls (by omega) ⟨(by omega), (by omega), hPj, hDj, hS, lv_sub hl [0, 1, 2, 3, 4, 5, 6, 7] rfl⟩
      · skip
        refine lv_aload_n hx hb dX4_lay_34 rfl (lv_at hl 3 rfl) ?_
        refine lv_sipush (v := nI 135) hx hb dX4_lay_35 (by decide) ?_
        refine lv_iload hx hb dX4_lay_38 (lv_at hl 0 rfl) ?_
        refine n_iadd hx hb dX4_lay_40 ?_
        refine n_iald hx hb hK hP 2 0 rfl rfl (by omega) (by decide) dX4_lay_41 ?_
        refine lv_iload_n hx hb dX4_lay_42 rfl (lv_at hl 5 rfl) ?_
        refine z_ne hx hb (tgt := 53) (((lnk r m k) (135 + k)).toInt) ((m : Nat) : Int) dX4_lay_43 (by decide) rfl (toI (by omega)) (fun c_43 => ?_) (fun c_43 => ?_)
        · skip
          refine lv_iinc (v := nI (k + 1)) (lv' := [(7, .int (nI (k + 1))), (6, .int (pI (m + kpn r ≤ mot (td r)))), (0, .ref h), (1, .ref a), (2, .int (nI s)), (3, .int (nI m)), (4, .int x), (5, .int (pI P))]) hx hb dX4_lay_53 hl (k := 0) rfl (nI_add _ _) (by decide) rfl (fun ls hl => ?_)
          refine lv_goto (tgt := 11) hx hb dX4_lay_56 (by decide) ?_
          have w_18 : ([(h, .inr (4, [.ref an, .ref tr, .ref ah, .int ch, .ref ak, .ref ai, .ref ap, .int sy, .ref af, .int sp])), (af, .inl (gI G, 121, .inl (fun m => nI (fdy m)))), (a, .inl (gI G, 2175, .inl (lnk r m k)))] : va_W) = [(h, .inr (4, [.ref an, .ref tr, .ref ah, .int ch, .ref ak, .ref ai, .ref ap, .int sy, .ref af, .int sp])), (af, .inl (gI G, 121, .inl (fun m => nI (fdy m)))), (a, .inl (gI G, 2175, .inl (lnk r m (k + 1))))] := (wlc (rfl) (wlc (rfl) (wlc (wli (by first | exact lnk_t ⟨c_31, c_43⟩ | exact lnk_f (fun z => by first | exact c_31 z.1 | exact c_43 z.2))) rfl)))
          have hPj := hP.sub (ws' := [(h, .inr (4, [.ref an, .ref tr, .ref ah, .int ch, .ref ak, .ref ai, .ref ap, .int sy, .ref af, .int sp])), (af, .inl (gI G, 121, .inl (fun m => nI (fdy m)))), (a, .inl (gI G, 2175, .inl (lnk r m k)))]) [0, 1, 2] rfl
          have hDj := hD.sub (ws' := [(h, .inr (4, [.ref an, .ref tr, .ref ah, .int ch, .ref ak, .ref ai, .ref ap, .int sy, .ref af, .int sp])), (af, .inl (gI G, 121, .inl (fun m => nI (fdy m)))), (a, .inl (gI G, 2175, .inl (lnk r m k)))]) [0, 1, 2] (by decide) rfl
          rw [w_18] at hPj hDj
          exact ih (k + 1) _ _ ls (by omega) ⟨(by omega), (by omega), hPj, hDj, hS, lv_sub hl [0, 1, 2, 3, 4, 5, 6, 7] rfl⟩
        · skip
          refine lv_aload_n hx hb dX4_lay_46 rfl (lv_at hl 3 rfl) ?_
          refine lv_iload hx hb dX4_lay_47 (lv_at hl 0 rfl) ?_
          refine lv_iload_n hx hb dX4_lay_49 rfl (lv_at hl 5 rfl) ?_
          refine k_rvS (As := [.ref a, .int (nI k), .int (nI m)]) (rest := []) (wr := [(h, .inr (4, [.ref an, .ref tr, .ref ah, .int ch, .ref ak, .ref ai, .ref ap, .int sy, .ref af, .int sp])), (af, .inl (gI G, 121, .inl (fun m => nI (fdy m))))]) hF (c_X4_fold l G _ a (lnk r m k) k (nI m) ((m : Nat) : Int) (by omega) (toI (by omega))) mw_3_109 mw_3_110 mw_1_5 mw_3_111 hd_X4_fold ⟨Nat.le_of_ble_eq_true rfl, Nat.le_of_ble_eq_true rfl⟩ hKx hZ hS hP hD hA [2] [0, 1] rfl rfl (by decide) (by decide) (by decide) rfl rfl hl.1 rfl (Nat.le_of_ble_eq_true rfl) dX4_lay_50 ⟨Nat.zero_le _, Nat.zero_le _⟩ (fun H locs hP hD hS => ?_)
          have hP : va_P G.1 vwCl [(h, .inr (4, [.ref an, .ref tr, .ref ah, .int ch, .ref ak, .ref ai, .ref ap, .int sy, .ref af, .int sp])), (af, .inl (gI G, 121, .inl (fun m => nI (fdy m)))), (a, .inl (gI G, 2175, .inl (fld (lnk r m k) k ((m : Nat) : Int))))] H := hP
          have hD : va_D A [(h, .inr (4, [.ref an, .ref tr, .ref ah, .int ch, .ref ak, .ref ai, .ref ap, .int sy, .ref af, .int sp])), (af, .inl (gI G, 121, .inl (fun m => nI (fdy m)))), (a, .inl (gI G, 2175, .inl (fld (lnk r m k) k ((m : Nat) : Int))))] := hD
          refine lv_iinc (v := nI (k + 1)) (lv' := [(7, .int (nI (k + 1))), (6, .int (pI (m + kpn r ≤ mot (td r)))), (0, .ref h), (1, .ref a), (2, .int (nI s)), (3, .int (nI m)), (4, .int x), (5, .int (pI P))]) hx hb dX4_lay_53 hl (k := 0) rfl (nI_add _ _) (by decide) rfl (fun ls hl => ?_)
          refine lv_goto (tgt := 11) hx hb dX4_lay_56 (by decide) ?_
          have w_19 : ([(h, .inr (4, [.ref an, .ref tr, .ref ah, .int ch, .ref ak, .ref ai, .ref ap, .int sy, .ref af, .int sp])), (af, .inl (gI G, 121, .inl (fun m => nI (fdy m)))), (a, .inl (gI G, 2175, .inl (fld (lnk r m k) k ((m : Nat) : Int))))] : va_W) = [(h, .inr (4, [.ref an, .ref tr, .ref ah, .int ch, .ref ak, .ref ai, .ref ap, .int sy, .ref af, .int sp])), (af, .inl (gI G, 121, .inl (fun m => nI (fdy m)))), (a, .inl (gI G, 2175, .inl (lnk r m (k + 1))))] := (wlc (rfl) (wlc (rfl) (wlc (wli (by first | exact lnk_t ⟨c_31, c_43⟩ | exact lnk_f (fun z => by first | exact c_31 z.1 | exact c_43 z.2))) rfl)))
          have hPj := hP.sub (ws' := [(h, .inr (4, [.ref an, .ref tr, .ref ah, .int ch, .ref ak, .ref ai, .ref ap, .int sy, .ref af, .int sp])), (af, .inl (gI G, 121, .inl (fun m => nI (fdy m)))), (a, .inl (gI G, 2175, .inl (fld (lnk r m k) k ((m : Nat) : Int))))]) [0, 1, 2] rfl
          have hDj := hD.sub (ws' := [(h, .inr (4, [.ref an, .ref tr, .ref ah, .int ch, .ref ak, .ref ai, .ref ap, .int sy, .ref af, .int sp])), (af, .inl (gI G, 121, .inl (fun m => nI (fdy m)))), (a, .inl (gI G, 2175, .inl (fld (lnk r m k) k ((m : Nat) : Int))))]) [0, 1, 2] (by decide) rfl
          rw [w_19] at hPj hDj
          exact ih (k + 1) _ _ ls (by omega) ⟨(by omega), (by omega), hPj, hDj, hS, lv_sub hl [0, 1, 2, 3, 4, 5, 6, 7] rfl⟩
end
section
/-- the owed statement, until it is proved -/
theorem i_vc : Claimed_1_1 ∧ Claimed_1_2 := sorry
end
