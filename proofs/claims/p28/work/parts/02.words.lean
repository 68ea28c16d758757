/-- the words that every contract of ours rests on: those of the tables that may be handed on -/
def GW : List Cond := lw_tbl.filter goodWord
theorem gw_of {w : Cond} (h : w ∈ lw_tbl) (hg : goodWord w = true) : w ∈ GW := List.mem_filter.mpr ⟨h, hg⟩
theorem gw_tbl : ∀ w ∈ GW, w ∈ lw_tbl := fun w h => (List.mem_filter.mp h).1
theorem gw_good {w : Cond} (h : w ∈ GW) : goodWord w = true := (List.mem_filter.mp h).2
theorem gt_1 {w : Cond} {i : Nat} (h : tables_1_1[i]? = some w) (hg : goodWord w = true) : w ∈ GW := gw_of (List.mem_append_right _ (List.mem_append_left _ (List.mem_of_getElem? h))) hg
theorem gt_2 {w : Cond} {i : Nat} (h : tables_1_2[i]? = some w) (hg : goodWord w = true) : w ∈ GW := gw_of (List.mem_append_right _ (List.mem_append_right _ (List.mem_append_left _ (List.mem_of_getElem? h)))) hg
theorem gt_3 {w : Cond} {i : Nat} (h : tables_1_3[i]? = some w) (hg : goodWord w = true) : w ∈ GW := gw_of (List.mem_append_right _ (List.mem_append_right _ (List.mem_append_right _ (List.mem_of_getElem? h)))) hg
theorem gp_0 {q : MethodName × Nat} (h : q ∈ lw_privs) : Cond.selects q.1.cls q.1 q.1 ∈ GW := gw_of (List.mem_append_left _ (List.mem_map_of_mem h)) rfl
theorem gp_1 {q : MethodName × Nat} {i : Nat} (h : lw_privs_1[i]? = some q) : Cond.selects q.1.cls q.1 q.1 ∈ GW := gp_0 (List.mem_of_getElem? h)

theorem mw_1_0 : Cond.initialized "FoldedMonthsLaw" ∈ GW := gt_1 (i := 0) rfl rfl
theorem mw_1_1 : Cond.initialized "FoldedMonths" ∈ GW := gt_1 (i := 1) rfl rfl
theorem mw_1_2 : Cond.initialized "FoldedMonths$Diary" ∈ GW := gt_1 (i := 2) rfl rfl
theorem mw_1_3 : Cond.initialized "FoldedMonths$Pad" ∈ GW := gt_1 (i := 3) rfl rfl
theorem mw_1_4 : Cond.initialized "FoldedMonths$Step" ∈ GW := gt_1 (i := 4) rfl rfl
theorem mw_1_5 : Cond.initialized "java/lang/Math" ∈ GW := gt_1 (i := 5) rfl rfl
theorem mw_1_6 : Cond.initialized "java/lang/Integer" ∈ GW := gt_1 (i := 6) rfl rfl
theorem mw_1_7 : Cond.initialized "java/lang/System" ∈ GW := gt_1 (i := 7) rfl rfl
theorem mw_1_8 : Cond.classLink "FoldedMonthsLaw" 10 "FoldedMonths" ∈ GW := gt_1 (i := 8) rfl rfl
theorem mw_1_9 : Cond.instantiable "FoldedMonths" 7 ∈ GW := gt_1 (i := 9) rfl rfl
theorem mw_1_10 : Cond.methodLink "FoldedMonthsLaw" 106 yX3_init ∈ GW := gt_1 (i := 10) rfl rfl
theorem mw_1_11 : Cond.instanceMethod yX3_init ∈ GW := gt_1 (i := 11) rfl rfl
theorem mw_1_12 : Cond.code yX3_init cX3_init 2 (Option.none : Option FieldType) ∈ GW := gt_1 (i := 12) rfl rfl
theorem mw_1_13 : Cond.methodLink "FoldedMonths" 3 objectInit ∈ GW := gt_1 (i := 13) rfl rfl
theorem mw_1_14 : Cond.instanceMethod objectInit ∈ GW := gt_1 (i := 14) rfl rfl
theorem mw_1_15 : Cond.code objectInit object_method_1_code 1 (Option.none : Option FieldType) ∈ GW := gt_1 (i := 15) rfl rfl
theorem mw_1_16 : Cond.classLink "FoldedMonths" 9 "FoldedMonths$Diary" ∈ GW := gt_1 (i := 16) rfl rfl
theorem mw_1_17 : Cond.instantiable "FoldedMonths$Diary" 11 ∈ GW := gt_1 (i := 17) rfl rfl
theorem mw_1_18 : Cond.methodLink "FoldedMonths" 11 yX0_init ∈ GW := gt_1 (i := 18) rfl rfl
theorem mw_1_19 : Cond.instanceMethod yX0_init ∈ GW := gt_1 (i := 19) rfl rfl
theorem mw_1_20 : Cond.code yX0_init cX0_init 2 (Option.none : Option FieldType) ∈ GW := gt_1 (i := 20) rfl rfl
theorem mw_1_21 : Cond.methodLink "FoldedMonths$Diary" 3 objectInit ∈ GW := gt_1 (i := 21) rfl rfl
theorem mw_1_22 : Cond.fieldLink "FoldedMonths" 40 "FoldedMonths$Diary" "today" "I" ∈ GW := gt_1 (i := 22) rfl rfl
theorem mw_1_23 : Cond.fieldLink "FoldedMonths$Diary" 57 "FoldedMonths$Diary" "today" "I" ∈ GW := gt_1 (i := 23) rfl rfl
theorem mw_1_24 : Cond.fieldLink "FoldedMonths$Diary" 9 "FoldedMonths$Diary" "keep" "I" ∈ GW := gt_1 (i := 24) rfl rfl
theorem mw_1_25 : Cond.fieldLink "FoldedMonths" 47 "FoldedMonths$Diary" "keep" "I" ∈ GW := gt_1 (i := 25) rfl rfl
theorem mw_1_26 : Cond.fieldLink "FoldedMonths$Diary" 15 "FoldedMonths$Diary" "open" "I" ∈ GW := gt_1 (i := 26) rfl rfl
theorem mw_1_27 : Cond.fieldLink "FoldedMonths" 50 "FoldedMonths$Diary" "open" "I" ∈ GW := gt_1 (i := 27) rfl rfl
theorem mw_1_28 : Cond.fieldLink "FoldedMonths" 171 "FoldedMonths$Diary" "work" "I" ∈ GW := gt_1 (i := 28) rfl rfl
theorem mw_1_29 : Cond.fieldLink "FoldedMonths$Diary" 95 "FoldedMonths$Diary" "work" "I" ∈ GW := gt_1 (i := 29) rfl rfl
theorem mw_1_30 : Cond.fieldLink "FoldedMonths" 174 "FoldedMonths$Diary" "unfoldings" "I" ∈ GW := gt_1 (i := 30) rfl rfl
theorem mw_1_31 : Cond.fieldLink "FoldedMonths$Diary" 111 "FoldedMonths$Diary" "unfoldings" "I" ∈ GW := gt_1 (i := 31) rfl rfl
theorem mw_1_32 : Cond.fieldLink "FoldedMonths" 177 "FoldedMonths$Diary" "foldings" "I" ∈ GW := gt_1 (i := 32) rfl rfl
theorem mw_1_33 : Cond.fieldLink "FoldedMonths$Diary" 98 "FoldedMonths$Diary" "foldings" "I" ∈ GW := gt_1 (i := 33) rfl rfl
theorem mw_1_34 : Cond.fieldLink "FoldedMonths" 165 "FoldedMonths$Diary" "rowLength" "I" ∈ GW := gt_1 (i := 34) rfl rfl
theorem mw_1_35 : Cond.fieldLink "FoldedMonths$Diary" 101 "FoldedMonths$Diary" "rowLength" "I" ∈ GW := gt_1 (i := 35) rfl rfl
theorem mw_1_36 : Cond.fieldLink "FoldedMonths$Diary" 18 "FoldedMonths$Diary" "bits" "[I" ∈ GW := gt_1 (i := 36) rfl rfl
theorem mw_1_37 : Cond.fieldLink "FoldedMonths" 252 "FoldedMonths$Diary" "bits" "[I" ∈ GW := gt_1 (i := 37) rfl rfl
theorem mw_1_38 : Cond.fieldLink "FoldedMonths$Diary" 25 "FoldedMonths$Diary" "forms" "[I" ∈ GW := gt_1 (i := 38) rfl rfl
theorem mw_1_39 : Cond.fieldLink "FoldedMonths" 260 "FoldedMonths$Diary" "forms" "[I" ∈ GW := gt_1 (i := 39) rfl rfl
theorem mw_1_40 : Cond.fieldLink "FoldedMonths$Diary" 28 "FoldedMonths$Diary" "names" "[I" ∈ GW := gt_1 (i := 40) rfl rfl
theorem mw_1_41 : Cond.fieldLink "FoldedMonths" 263 "FoldedMonths$Diary" "names" "[I" ∈ GW := gt_1 (i := 41) rfl rfl
theorem mw_1_42 : Cond.fieldLink "FoldedMonths$Diary" 22 "FoldedMonths$Diary" "row" "[I" ∈ GW := gt_1 (i := 42) rfl rfl
theorem mw_1_43 : Cond.fieldLink "FoldedMonths" 266 "FoldedMonths$Diary" "row" "[I" ∈ GW := gt_1 (i := 43) rfl rfl
theorem mw_1_44 : Cond.lays "FoldedMonths$Diary" "FoldedMonths$Diary" "today" "I" ∈ GW := gt_1 (i := 44) rfl rfl
theorem mw_1_46 : Cond.lays "FoldedMonths$Diary" "FoldedMonths$Diary" "keep" "I" ∈ GW := gt_1 (i := 46) rfl rfl
theorem mw_1_48 : Cond.lays "FoldedMonths$Diary" "FoldedMonths$Diary" "open" "I" ∈ GW := gt_1 (i := 48) rfl rfl
theorem mw_1_50 : Cond.lays "FoldedMonths$Diary" "FoldedMonths$Diary" "work" "I" ∈ GW := gt_1 (i := 50) rfl rfl
theorem mw_1_52 : Cond.lays "FoldedMonths$Diary" "FoldedMonths$Diary" "unfoldings" "I" ∈ GW := gt_1 (i := 52) rfl rfl
theorem mw_1_54 : Cond.lays "FoldedMonths$Diary" "FoldedMonths$Diary" "foldings" "I" ∈ GW := gt_1 (i := 54) rfl rfl
theorem mw_1_56 : Cond.lays "FoldedMonths$Diary" "FoldedMonths$Diary" "rowLength" "I" ∈ GW := gt_1 (i := 56) rfl rfl
theorem mw_1_58 : Cond.laysFinal "FoldedMonths$Diary" "FoldedMonths$Diary" "bits" "[I" ∈ GW := gt_1 (i := 58) rfl rfl
theorem mw_1_60 : Cond.laysFinal "FoldedMonths$Diary" "FoldedMonths$Diary" "forms" "[I" ∈ GW := gt_1 (i := 60) rfl rfl
theorem mw_1_62 : Cond.laysFinal "FoldedMonths$Diary" "FoldedMonths$Diary" "names" "[I" ∈ GW := gt_1 (i := 62) rfl rfl
theorem mw_1_64 : Cond.laysFinal "FoldedMonths$Diary" "FoldedMonths$Diary" "row" "[I" ∈ GW := gt_1 (i := 64) rfl rfl
theorem mw_1_67 : Cond.arrayClass FieldType.int ∈ GW := gt_1 (i := 67) rfl rfl
theorem mw_1_69 : Cond.classLink "FoldedMonths" 26 "FoldedMonths$Pad" ∈ GW := gt_1 (i := 69) rfl rfl
theorem mw_1_70 : Cond.instantiable "FoldedMonths$Pad" 6 ∈ GW := gt_1 (i := 70) rfl rfl
theorem mw_1_71 : Cond.methodLink "FoldedMonths" 28 yX1_init ∈ GW := gt_1 (i := 71) rfl rfl
theorem mw_1_72 : Cond.instanceMethod yX1_init ∈ GW := gt_1 (i := 72) rfl rfl
theorem mw_1_73 : Cond.code yX1_init cX1_init 2 (Option.none : Option FieldType) ∈ GW := gt_1 (i := 73) rfl rfl
theorem mw_1_74 : Cond.methodLink "FoldedMonths$Pad" 3 objectInit ∈ GW := gt_1 (i := 74) rfl rfl
theorem mw_1_75 : Cond.classLink "FoldedMonths$Pad" 15 "FoldedMonths$Step" ∈ GW := gt_1 (i := 75) rfl rfl
theorem mw_1_77 : Cond.instantiable "FoldedMonths$Step" 5 ∈ GW := gt_1 (i := 77) rfl rfl
theorem mw_1_79 : Cond.instanceMethod yX2_init ∈ GW := gt_1 (i := 79) rfl rfl
theorem mw_1_80 : Cond.code yX2_init cX2_init 1 (Option.none : Option FieldType) ∈ GW := gt_1 (i := 80) rfl rfl
theorem mw_1_81 : Cond.methodLink "FoldedMonths$Step" 1 objectInit ∈ GW := gt_1 (i := 81) rfl rfl
theorem mw_1_82 : Cond.fieldLink "FoldedMonths$Pad" 71 "FoldedMonths$Step" "kind" "C" ∈ GW := gt_1 (i := 82) rfl rfl
theorem mw_1_83 : Cond.fieldLink "FoldedMonths" 229 "FoldedMonths$Step" "kind" "C" ∈ GW := gt_1 (i := 83) rfl rfl
theorem mw_1_84 : Cond.fieldLink "FoldedMonths$Pad" 75 "FoldedMonths$Step" "subject" "I" ∈ GW := gt_1 (i := 84) rfl rfl
theorem mw_1_85 : Cond.fieldLink "FoldedMonths" 236 "FoldedMonths$Step" "subject" "I" ∈ GW := gt_1 (i := 85) rfl rfl
theorem mw_1_86 : Cond.fieldLink "FoldedMonths$Pad" 78 "FoldedMonths$Step" "from" "I" ∈ GW := gt_1 (i := 86) rfl rfl
theorem mw_1_87 : Cond.fieldLink "FoldedMonths" 233 "FoldedMonths$Step" "from" "I" ∈ GW := gt_1 (i := 87) rfl rfl
theorem mw_1_88 : Cond.fieldLink "FoldedMonths$Pad" 81 "FoldedMonths$Step" "to" "I" ∈ GW := gt_1 (i := 88) rfl rfl
theorem mw_1_89 : Cond.fieldLink "FoldedMonths" 239 "FoldedMonths$Step" "to" "I" ∈ GW := gt_1 (i := 89) rfl rfl
theorem mw_1_90 : Cond.fieldLink "FoldedMonths$Pad" 84 "FoldedMonths$Step" "order" "I" ∈ GW := gt_1 (i := 90) rfl rfl
theorem mw_1_91 : Cond.fieldLink "FoldedMonths" 224 "FoldedMonths$Step" "order" "I" ∈ GW := gt_1 (i := 91) rfl rfl
theorem mw_1_92 : Cond.lays "FoldedMonths$Step" "FoldedMonths$Step" "kind" "C" ∈ GW := gt_1 (i := 92) rfl rfl
theorem mw_1_94 : Cond.lays "FoldedMonths$Step" "FoldedMonths$Step" "subject" "I" ∈ GW := gt_1 (i := 94) rfl rfl
theorem mw_1_96 : Cond.lays "FoldedMonths$Step" "FoldedMonths$Step" "from" "I" ∈ GW := gt_1 (i := 96) rfl rfl
theorem mw_1_98 : Cond.lays "FoldedMonths$Step" "FoldedMonths$Step" "to" "I" ∈ GW := gt_1 (i := 98) rfl rfl
theorem mw_1_100 : Cond.lays "FoldedMonths$Step" "FoldedMonths$Step" "order" "I" ∈ GW := gt_1 (i := 100) rfl rfl
theorem mw_1_103 : Cond.arrayClass FieldType.char ∈ GW := gt_1 (i := 103) rfl rfl
theorem mw_1_104 : Cond.fieldLink "FoldedMonths$Pad" 9 "FoldedMonths$Pad" "signs" "[C" ∈ GW := gt_1 (i := 104) rfl rfl
theorem mw_1_105 : Cond.fieldLink "FoldedMonths$Pad" 17 "FoldedMonths$Pad" "steps" "[LFoldedMonths$Step;" ∈ GW := gt_1 (i := 105) rfl rfl
theorem mw_1_106 : Cond.fieldLink "FoldedMonths$Pad" 22 "FoldedMonths$Pad" "length" "I" ∈ GW := gt_1 (i := 106) rfl rfl
theorem mw_1_107 : Cond.fieldLink "FoldedMonths" 183 "FoldedMonths$Pad" "length" "I" ∈ GW := gt_1 (i := 107) rfl rfl
theorem mw_1_108 : Cond.fieldLink "FoldedMonths$Pad" 28 "FoldedMonths$Pad" "place" "I" ∈ GW := gt_1 (i := 108) rfl rfl
theorem mw_1_109 : Cond.fieldLink "FoldedMonths$Pad" 31 "FoldedMonths$Pad" "stepsRead" "I" ∈ GW := gt_1 (i := 109) rfl rfl
theorem mw_1_110 : Cond.fieldLink "FoldedMonths" 213 "FoldedMonths$Pad" "stepsRead" "I" ∈ GW := gt_1 (i := 110) rfl rfl
theorem mw_1_111 : Cond.fieldLink "FoldedMonths$Pad" 34 "FoldedMonths$Pad" "orders" "I" ∈ GW := gt_1 (i := 111) rfl rfl
theorem mw_1_112 : Cond.fieldLink "FoldedMonths" 210 "FoldedMonths$Pad" "orders" "I" ∈ GW := gt_1 (i := 112) rfl rfl
theorem mw_1_113 : Cond.laysFinal "FoldedMonths$Pad" "FoldedMonths$Pad" "signs" "[C" ∈ GW := gt_1 (i := 113) rfl rfl
theorem mw_1_115 : Cond.laysFinal "FoldedMonths$Pad" "FoldedMonths$Pad" "steps" "[LFoldedMonths$Step;" ∈ GW := gt_1 (i := 115) rfl rfl
theorem mw_1_117 : Cond.lays "FoldedMonths$Pad" "FoldedMonths$Pad" "length" "I" ∈ GW := gt_1 (i := 117) rfl rfl
theorem mw_1_119 : Cond.lays "FoldedMonths$Pad" "FoldedMonths$Pad" "place" "I" ∈ GW := gt_1 (i := 119) rfl rfl
theorem mw_1_121 : Cond.lays "FoldedMonths$Pad" "FoldedMonths$Pad" "stepsRead" "I" ∈ GW := gt_1 (i := 121) rfl rfl
theorem mw_1_123 : Cond.lays "FoldedMonths$Pad" "FoldedMonths$Pad" "orders" "I" ∈ GW := gt_1 (i := 123) rfl rfl
theorem mw_1_126 : Cond.fieldLink "FoldedMonths" 12 "FoldedMonths" "diary" "LFoldedMonths$Diary;" ∈ GW := gt_1 (i := 126) rfl rfl
theorem mw_1_127 : Cond.fieldLink "FoldedMonths" 16 "FoldedMonths" "trial" "LFoldedMonths$Diary;" ∈ GW := gt_1 (i := 127) rfl rfl
theorem mw_1_128 : Cond.fieldLink "FoldedMonths" 19 "FoldedMonths" "history" "[LFoldedMonths$Diary;" ∈ GW := gt_1 (i := 128) rfl rfl
theorem mw_1_129 : Cond.fieldLink "FoldedMonths" 23 "FoldedMonths" "slots" "[LFoldedMonths$Diary;" ∈ GW := gt_1 (i := 129) rfl rfl
theorem mw_1_130 : Cond.fieldLink "FoldedMonths" 29 "FoldedMonths" "pad" "LFoldedMonths$Pad;" ∈ GW := gt_1 (i := 130) rfl rfl
theorem mw_1_131 : Cond.fieldLink "FoldedMonths" 186 "FoldedMonths" "historyLength" "I" ∈ GW := gt_1 (i := 131) rfl rfl
theorem mw_1_132 : Cond.fieldLink "FoldedMonths" 246 "FoldedMonths" "savedSlots" "I" ∈ GW := gt_1 (i := 132) rfl rfl
theorem mw_1_133 : Cond.laysFinal "FoldedMonths" "FoldedMonths" "diary" "LFoldedMonths$Diary;" ∈ GW := gt_1 (i := 133) rfl rfl
theorem mw_1_135 : Cond.laysFinal "FoldedMonths" "FoldedMonths" "trial" "LFoldedMonths$Diary;" ∈ GW := gt_1 (i := 135) rfl rfl
theorem mw_1_137 : Cond.laysFinal "FoldedMonths" "FoldedMonths" "history" "[LFoldedMonths$Diary;" ∈ GW := gt_1 (i := 137) rfl rfl
theorem mw_1_139 : Cond.laysFinal "FoldedMonths" "FoldedMonths" "slots" "[LFoldedMonths$Diary;" ∈ GW := gt_1 (i := 139) rfl rfl
theorem mw_1_141 : Cond.laysFinal "FoldedMonths" "FoldedMonths" "pad" "LFoldedMonths$Pad;" ∈ GW := gt_1 (i := 141) rfl rfl
theorem mw_1_143 : Cond.lays "FoldedMonths" "FoldedMonths" "historyLength" "I" ∈ GW := gt_1 (i := 143) rfl rfl
theorem mw_1_145 : Cond.lays "FoldedMonths" "FoldedMonths" "savedSlots" "I" ∈ GW := gt_1 (i := 145) rfl rfl
theorem mw_1_148 : Cond.methodLink "FoldedMonthsLaw" 107 yL_cell ∈ GW := gt_1 (i := 148) rfl rfl
theorem mw_1_149 : Cond.static yL_cell ∈ GW := gt_1 (i := 149) rfl rfl
theorem mw_1_150 : Cond.code yL_cell cL_cell 2 (Option.some FieldType.int) ∈ GW := gt_1 (i := 150) rfl rfl
theorem mw_1_151 : Cond.constant "FoldedMonthsLaw" 7 (15518219 : Int32) ∈ GW := gt_1 (i := 151) rfl rfl
theorem mw_1_152 : Cond.constant "FoldedMonthsLaw" 8 (2147483647 : Int32) ∈ GW := gt_1 (i := 152) rfl rfl
theorem mw_1_153 : Cond.methodLink "FoldedMonthsLaw" 115 yL_refuses ∈ GW := gt_1 (i := 153) rfl rfl
theorem mw_1_154 : Cond.static yL_refuses ∈ GW := gt_1 (i := 154) rfl rfl
theorem mw_1_155 : Cond.code yL_refuses cL_refuses 4 (Option.some FieldType.boolean) ∈ GW := gt_1 (i := 155) rfl rfl
theorem mw_1_156 : Cond.methodLink "FoldedMonthsLaw" 9 yX3_count ∈ GW := gt_1 (i := 156) rfl rfl
theorem mw_1_157 : Cond.instanceMethod yX3_count ∈ GW := gt_1 (i := 157) rfl rfl
theorem mw_1_158 : Cond.selects "FoldedMonths" yX3_count yX3_count ∈ GW := gt_1 (i := 158) rfl rfl
theorem mw_1_159 : Cond.code yX3_count cX3_count 2 (Option.some FieldType.int) ∈ GW := gt_1 (i := 159) rfl rfl
theorem mw_1_160 : Cond.methodLink "FoldedMonths" 76 yX3_monthOf ∈ GW := gt_1 (i := 160) rfl rfl
theorem mw_1_161 : Cond.static yX3_monthOf ∈ GW := gt_1 (i := 161) rfl rfl
theorem mw_1_162 : Cond.code yX3_monthOf cX3_monthOf 4 (Option.some FieldType.int) ∈ GW := gt_1 (i := 162) rfl rfl
theorem mw_1_163 : Cond.methodLink "FoldedMonths" 278 yX3_startInYear ∈ GW := gt_1 (i := 163) rfl rfl
theorem mw_1_164 : Cond.static yX3_startInYear ∈ GW := gt_1 (i := 164) rfl rfl
theorem mw_1_165 : Cond.code yX3_startInYear cX3_startInYear 1 (Option.some FieldType.int) ∈ GW := gt_1 (i := 165) rfl rfl
theorem mw_1_166 : Cond.fieldLink "FoldedMonths" 281 "FoldedMonths" "MONTH_STARTS" "[I" ∈ GW := gt_1 (i := 166) rfl rfl
theorem mw_1_168 : Cond.methodLink "FoldedMonths" 161 yX0_oldMonths ∈ GW := gt_1 (i := 168) rfl rfl
theorem mw_1_169 : Cond.instanceMethod yX0_oldMonths ∈ GW := gt_1 (i := 169) rfl rfl
theorem mw_1_170 : Cond.selects "FoldedMonths$Diary" yX0_oldMonths yX0_oldMonths ∈ GW := gt_1 (i := 170) rfl rfl
theorem mw_1_171 : Cond.code yX0_oldMonths cX0_oldMonths 1 (Option.some FieldType.int) ∈ GW := gt_1 (i := 171) rfl rfl
theorem mw_1_173 : Cond.methodLink "FoldedMonths$Diary" 60 Lib.Math.max.name ∈ GW := gt_1 (i := 173) rfl rfl
theorem mw_1_174 : Cond.static Lib.Math.max.name ∈ GW := gt_1 (i := 174) rfl rfl
theorem mw_1_175 : Cond.code Lib.Math.max.name cJ9_max_7cf53 2 (Option.some FieldType.int) ∈ GW := gt_1 (i := 175) rfl rfl
theorem mw_1_176 : Cond.methodLink "FoldedMonths" 168 yX0_allSizes ∈ GW := gt_1 (i := 176) rfl rfl
theorem mw_1_177 : Cond.instanceMethod yX0_allSizes ∈ GW := gt_1 (i := 177) rfl rfl
theorem mw_1_178 : Cond.selects "FoldedMonths$Diary" yX0_allSizes yX0_allSizes ∈ GW := gt_1 (i := 178) rfl rfl
theorem mw_1_179 : Cond.code yX0_allSizes cX0_allSizes 4 (Option.some FieldType.int) ∈ GW := gt_1 (i := 179) rfl rfl
theorem mw_1_180 : Cond.methodLink "FoldedMonths$Diary" 83 yX0_sizeOf ∈ GW := gt_1 (i := 180) rfl rfl
theorem mw_1_181 : Cond.instanceMethod yX0_sizeOf ∈ GW := gt_1 (i := 181) rfl rfl
theorem mw_1_182 : Cond.selects "FoldedMonths$Diary" yX0_sizeOf yX0_sizeOf ∈ GW := gt_1 (i := 182) rfl rfl
theorem mw_1_183 : Cond.code yX0_sizeOf cX0_sizeOf 2 (Option.some FieldType.int) ∈ GW := gt_1 (i := 183) rfl rfl
theorem mw_1_184 : Cond.methodLink "FoldedMonths$Diary" 73 yX0_formOf ∈ GW := gt_1 (i := 184) rfl rfl
theorem mw_1_185 : Cond.instanceMethod yX0_formOf ∈ GW := gt_1 (i := 185) rfl rfl
theorem mw_1_186 : Cond.selects "FoldedMonths$Diary" yX0_formOf yX0_formOf ∈ GW := gt_1 (i := 186) rfl rfl
theorem mw_1_187 : Cond.code yX0_formOf cX0_formOf 2 (Option.some FieldType.int) ∈ GW := gt_1 (i := 187) rfl rfl
theorem mw_1_189 : Cond.static yX3_isMonth ∈ GW := gt_1 (i := 189) rfl rfl
theorem mw_1_190 : Cond.code yX3_isMonth cX3_isMonth 1 (Option.some FieldType.boolean) ∈ GW := gt_1 (i := 190) rfl rfl
theorem mw_1_191 : Cond.methodLink "FoldedMonths$Diary" 76 yX0_namedBy ∈ GW := gt_1 (i := 191) rfl rfl
theorem mw_1_192 : Cond.instanceMethod yX0_namedBy ∈ GW := gt_1 (i := 192) rfl rfl
theorem mw_1_193 : Cond.selects "FoldedMonths$Diary" yX0_namedBy yX0_namedBy ∈ GW := gt_1 (i := 193) rfl rfl
theorem mw_1_194 : Cond.code yX0_namedBy cX0_namedBy 2 (Option.some FieldType.int) ∈ GW := gt_1 (i := 194) rfl rfl
theorem mw_1_195 : Cond.methodLink "FoldedMonths$Diary" 79 yX0_sizeIn ∈ GW := gt_1 (i := 195) rfl rfl
theorem mw_1_196 : Cond.instanceMethod yX0_sizeIn ∈ GW := gt_1 (i := 196) rfl rfl
theorem mw_1_197 : Cond.selects "FoldedMonths$Diary" yX0_sizeIn yX0_sizeIn ∈ GW := gt_1 (i := 197) rfl rfl
theorem mw_1_198 : Cond.code yX0_sizeIn cX0_sizeIn 4 (Option.some FieldType.int) ∈ GW := gt_1 (i := 198) rfl rfl
theorem mw_1_199 : Cond.methodLink "FoldedMonths$Diary" 54 yX0_marksIn ∈ GW := gt_1 (i := 199) rfl rfl
theorem mw_1_200 : Cond.instanceMethod yX0_marksIn ∈ GW := gt_1 (i := 200) rfl rfl
theorem mw_1_201 : Cond.selects "FoldedMonths$Diary" yX0_marksIn yX0_marksIn ∈ GW := gt_1 (i := 201) rfl rfl
theorem mw_1_202 : Cond.code yX0_marksIn cX0_marksIn 4 (Option.some FieldType.int) ∈ GW := gt_1 (i := 202) rfl rfl
theorem mw_1_203 : Cond.methodLink "FoldedMonths$Diary" 35 yX0_bitsOf ∈ GW := gt_1 (i := 203) rfl rfl
theorem mw_1_204 : Cond.instanceMethod yX0_bitsOf ∈ GW := gt_1 (i := 204) rfl rfl
theorem mw_1_205 : Cond.selects "FoldedMonths$Diary" yX0_bitsOf yX0_bitsOf ∈ GW := gt_1 (i := 205) rfl rfl
theorem mw_1_206 : Cond.code yX0_bitsOf cX0_bitsOf 4 (Option.some FieldType.int) ∈ GW := gt_1 (i := 206) rfl rfl
theorem mw_1_207 : Cond.methodLink "FoldedMonths$Diary" 46 yJ6_bitCount_0f7a4 ∈ GW := gt_1 (i := 207) rfl rfl
theorem mw_1_208 : Cond.static yJ6_bitCount_0f7a4 ∈ GW := gt_1 (i := 208) rfl rfl
theorem mw_1_209 : Cond.code yJ6_bitCount_0f7a4 cJ6_bitCount_0f7a4 1 (Option.some FieldType.int) ∈ GW := gt_1 (i := 209) rfl rfl
theorem mw_1_210 : Cond.constant "java/lang/Integer" 265 (1431655765 : Int32) ∈ GW := gt_1 (i := 210) rfl rfl
theorem mw_1_211 : Cond.constant "java/lang/Integer" 266 (858993459 : Int32) ∈ GW := gt_1 (i := 211) rfl rfl
theorem mw_1_212 : Cond.constant "java/lang/Integer" 267 (252645135 : Int32) ∈ GW := gt_1 (i := 212) rfl rfl
theorem mw_1_213 : Cond.methodLink "FoldedMonths$Diary" 86 yX0_runsIn ∈ GW := gt_1 (i := 213) rfl rfl
theorem mw_1_214 : Cond.instanceMethod yX0_runsIn ∈ GW := gt_1 (i := 214) rfl rfl
theorem mw_1_215 : Cond.selects "FoldedMonths$Diary" yX0_runsIn yX0_runsIn ∈ GW := gt_1 (i := 215) rfl rfl
theorem mw_1_216 : Cond.code yX0_runsIn cX0_runsIn 5 (Option.some FieldType.int) ∈ GW := gt_1 (i := 216) rfl rfl
theorem mw_1_217 : Cond.methodLink "FoldedMonths" 180 yX0_allMarks ∈ GW := gt_1 (i := 217) rfl rfl
theorem mw_1_218 : Cond.instanceMethod yX0_allMarks ∈ GW := gt_1 (i := 218) rfl rfl
theorem mw_1_219 : Cond.selects "FoldedMonths$Diary" yX0_allMarks yX0_allMarks ∈ GW := gt_1 (i := 219) rfl rfl
theorem mw_1_220 : Cond.code yX0_allMarks cX0_allMarks 3 (Option.some FieldType.int) ∈ GW := gt_1 (i := 220) rfl rfl
theorem mw_1_221 : Cond.methodLink "FoldedMonthsLaw" 15 yX3_set ∈ GW := gt_1 (i := 221) rfl rfl
theorem mw_1_222 : Cond.instanceMethod yX3_set ∈ GW := gt_1 (i := 222) rfl rfl
theorem mw_1_223 : Cond.selects "FoldedMonths" yX3_set yX3_set ∈ GW := gt_1 (i := 223) rfl rfl
theorem mw_1_224 : Cond.code yX3_set cX3_set 3 (Option.some FieldType.int) ∈ GW := gt_1 (i := 224) rfl rfl
theorem mw_1_225 : Cond.methodLink "FoldedMonths" 33 yX3_changeKeep ∈ GW := gt_1 (i := 225) rfl rfl
theorem mw_1_227 : Cond.instanceMethod yX3_changeKeep ∈ GW := gt_1 (i := 227) rfl rfl
theorem mw_1_228 : Cond.code yX3_changeKeep cX3_changeKeep 3 (Option.some FieldType.int) ∈ GW := gt_1 (i := 228) rfl rfl
theorem mw_1_229 : Cond.methodLink "FoldedMonths" 44 yX3_record ∈ GW := gt_1 (i := 229) rfl rfl
theorem mw_1_231 : Cond.instanceMethod yX3_record ∈ GW := gt_1 (i := 231) rfl rfl
theorem mw_1_232 : Cond.code yX3_record cX3_record 1 (Option.none : Option FieldType) ∈ GW := gt_1 (i := 232) rfl rfl
theorem mw_1_233 : Cond.methodLink "FoldedMonths" 249 yX3_moveOldestToTheEnd ∈ GW := gt_1 (i := 233) rfl rfl
theorem mw_1_235 : Cond.instanceMethod yX3_moveOldestToTheEnd ∈ GW := gt_1 (i := 235) rfl rfl
theorem mw_1_236 : Cond.code yX3_moveOldestToTheEnd cX3_moveOldestToTheEnd 3 (Option.none : Option FieldType) ∈ GW := gt_1 (i := 236) rfl rfl
theorem mw_1_237 : Cond.methodLink "FoldedMonths" 242 yX3_stateAt ∈ GW := gt_1 (i := 237) rfl rfl
theorem mw_1_238 : Cond.static yX3_stateAt ∈ GW := gt_1 (i := 238) rfl rfl
theorem mw_1_239 : Cond.code yX3_stateAt cX3_stateAt 2 (Option.some (FieldType.object "FoldedMonths$Diary")) ∈ GW := gt_1 (i := 239) rfl rfl
theorem mw_2_0 : Cond.methodLink "FoldedMonths" 195 yX3_copy ∈ GW := gt_2 (i := 0) rfl rfl
theorem mw_2_1 : Cond.static yX3_copy ∈ GW := gt_2 (i := 1) rfl rfl
theorem mw_2_2 : Cond.code yX3_copy cX3_copy 2 (Option.none : Option FieldType) ∈ GW := gt_2 (i := 2) rfl rfl
theorem mw_2_3 : Cond.methodLink "FoldedMonths" 256 yX3_copyNumbers ∈ GW := gt_2 (i := 3) rfl rfl
theorem mw_2_4 : Cond.static yX3_copyNumbers ∈ GW := gt_2 (i := 4) rfl rfl
theorem mw_2_5 : Cond.code yX3_copyNumbers cX3_copyNumbers 2 (Option.none : Option FieldType) ∈ GW := gt_2 (i := 5) rfl rfl
theorem mw_2_6 : Cond.methodLink "FoldedMonths" 269 yJ9_min_7cf53 ∈ GW := gt_2 (i := 6) rfl rfl
theorem mw_2_7 : Cond.static yJ9_min_7cf53 ∈ GW := gt_2 (i := 7) rfl rfl
theorem mw_2_8 : Cond.code yJ9_min_7cf53 cJ9_min_7cf53 2 (Option.some FieldType.int) ∈ GW := gt_2 (i := 8) rfl rfl
theorem mw_2_9 : Cond.methodLink "FoldedMonths" 272 (⟨"java/lang/System", "arraycopy", "(Ljava/lang/Object;ILjava/lang/Object;II)V"⟩ : MethodName) ∈ GW := gt_2 (i := 9) rfl rfl
theorem mw_2_10 : Cond.static (⟨"java/lang/System", "arraycopy", "(Ljava/lang/Object;ILjava/lang/Object;II)V"⟩ : MethodName) ∈ GW := gt_2 (i := 10) rfl rfl
theorem mw_2_11 : Cond.native (⟨"java/lang/System", "arraycopy", "(Ljava/lang/Object;ILjava/lang/Object;II)V"⟩ : MethodName) ∈ GW := gt_2 (i := 11) rfl rfl
theorem mw_2_12 : Cond.methodLink "FoldedMonths" 37 yX3_changeOpen ∈ GW := gt_2 (i := 12) rfl rfl
theorem mw_2_14 : Cond.instanceMethod yX3_changeOpen ∈ GW := gt_2 (i := 14) rfl rfl
theorem mw_2_15 : Cond.code yX3_changeOpen cX3_changeOpen 3 (Option.some FieldType.int) ∈ GW := gt_2 (i := 15) rfl rfl
theorem mw_2_16 : Cond.methodLink "FoldedMonths" 53 yX0_foldSurplus ∈ GW := gt_2 (i := 16) rfl rfl
theorem mw_2_17 : Cond.instanceMethod yX0_foldSurplus ∈ GW := gt_2 (i := 17) rfl rfl
theorem mw_2_18 : Cond.selects "FoldedMonths$Diary" yX0_foldSurplus yX0_foldSurplus ∈ GW := gt_2 (i := 18) rfl rfl
theorem mw_2_19 : Cond.code yX0_foldSurplus cX0_foldSurplus 3 (Option.none : Option FieldType) ∈ GW := gt_2 (i := 19) rfl rfl
theorem mw_2_20 : Cond.methodLink "FoldedMonths$Diary" 114 yX0_fold ∈ GW := gt_2 (i := 20) rfl rfl
theorem mw_2_21 : Cond.instanceMethod yX0_fold ∈ GW := gt_2 (i := 21) rfl rfl
theorem mw_2_22 : Cond.selects "FoldedMonths$Diary" yX0_fold yX0_fold ∈ GW := gt_2 (i := 22) rfl rfl
theorem mw_2_23 : Cond.code yX0_fold cX0_fold 8 (Option.none : Option FieldType) ∈ GW := gt_2 (i := 23) rfl rfl
theorem mw_2_24 : Cond.methodLink "FoldedMonths$Diary" 92 yX0_twinOf ∈ GW := gt_2 (i := 24) rfl rfl
theorem mw_2_25 : Cond.instanceMethod yX0_twinOf ∈ GW := gt_2 (i := 25) rfl rfl
theorem mw_2_26 : Cond.selects "FoldedMonths$Diary" yX0_twinOf yX0_twinOf ∈ GW := gt_2 (i := 26) rfl rfl
theorem mw_2_27 : Cond.code yX0_twinOf cX0_twinOf 6 (Option.some FieldType.int) ∈ GW := gt_2 (i := 27) rfl rfl
theorem mw_2_28 : Cond.methodLink "FoldedMonths$Diary" 89 yX0_hasSameMarks ∈ GW := gt_2 (i := 28) rfl rfl
theorem mw_2_29 : Cond.instanceMethod yX0_hasSameMarks ∈ GW := gt_2 (i := 29) rfl rfl
theorem mw_2_30 : Cond.selects "FoldedMonths$Diary" yX0_hasSameMarks yX0_hasSameMarks ∈ GW := gt_2 (i := 30) rfl rfl
theorem mw_2_31 : Cond.code yX0_hasSameMarks cX0_hasSameMarks 4 (Option.some FieldType.boolean) ∈ GW := gt_2 (i := 31) rfl rfl
theorem mw_2_32 : Cond.methodLink "FoldedMonths$Diary" 107 yX0_leaveRow ∈ GW := gt_2 (i := 32) rfl rfl
theorem mw_2_33 : Cond.instanceMethod yX0_leaveRow ∈ GW := gt_2 (i := 33) rfl rfl
theorem mw_2_34 : Cond.selects "FoldedMonths$Diary" yX0_leaveRow yX0_leaveRow ∈ GW := gt_2 (i := 34) rfl rfl
theorem mw_2_35 : Cond.code yX0_leaveRow cX0_leaveRow 3 (Option.none : Option FieldType) ∈ GW := gt_2 (i := 35) rfl rfl
theorem mw_2_36 : Cond.methodLink "FoldedMonthsLaw" 21 yX3_pass ∈ GW := gt_2 (i := 36) rfl rfl
theorem mw_2_37 : Cond.instanceMethod yX3_pass ∈ GW := gt_2 (i := 37) rfl rfl
theorem mw_2_38 : Cond.selects "FoldedMonths" yX3_pass yX3_pass ∈ GW := gt_2 (i := 38) rfl rfl
theorem mw_2_39 : Cond.code yX3_pass cX3_pass 3 (Option.some FieldType.int) ∈ GW := gt_2 (i := 39) rfl rfl
theorem mw_2_40 : Cond.methodLink "FoldedMonths" 56 yX3_passError ∈ GW := gt_2 (i := 40) rfl rfl
theorem mw_2_42 : Cond.instanceMethod yX3_passError ∈ GW := gt_2 (i := 42) rfl rfl
theorem mw_2_43 : Cond.code yX3_passError cX3_passError 2 (Option.some FieldType.int) ∈ GW := gt_2 (i := 43) rfl rfl
theorem mw_2_44 : Cond.methodLink "FoldedMonths" 59 yX0_advance ∈ GW := gt_2 (i := 44) rfl rfl
theorem mw_2_45 : Cond.instanceMethod yX0_advance ∈ GW := gt_2 (i := 45) rfl rfl
theorem mw_2_46 : Cond.selects "FoldedMonths$Diary" yX0_advance yX0_advance ∈ GW := gt_2 (i := 46) rfl rfl
theorem mw_2_47 : Cond.code yX0_advance cX0_advance 5 (Option.some FieldType.int) ∈ GW := gt_2 (i := 47) rfl rfl
theorem mw_2_48 : Cond.methodLink "FoldedMonths$Diary" 65 yX0_oldMonths ∈ GW := gt_2 (i := 48) rfl rfl
theorem mw_2_49 : Cond.methodLink "FoldedMonthsLaw" 24 yX3_mark ∈ GW := gt_2 (i := 49) rfl rfl
theorem mw_2_50 : Cond.instanceMethod yX3_mark ∈ GW := gt_2 (i := 50) rfl rfl
theorem mw_2_51 : Cond.selects "FoldedMonths" yX3_mark yX3_mark ∈ GW := gt_2 (i := 51) rfl rfl
theorem mw_2_52 : Cond.code yX3_mark cX3_mark 4 (Option.some FieldType.int) ∈ GW := gt_2 (i := 52) rfl rfl
theorem mw_2_53 : Cond.methodLink "FoldedMonths" 62 yX3_changeDays ∈ GW := gt_2 (i := 53) rfl rfl
theorem mw_2_55 : Cond.instanceMethod yX3_changeDays ∈ GW := gt_2 (i := 55) rfl rfl
theorem mw_2_56 : Cond.code yX3_changeDays cX3_changeDays 6 (Option.some FieldType.int) ∈ GW := gt_2 (i := 56) rfl rfl
theorem mw_2_57 : Cond.methodLink "FoldedMonths" 66 yX3_changeError ∈ GW := gt_2 (i := 57) rfl rfl
theorem mw_2_59 : Cond.instanceMethod yX3_changeError ∈ GW := gt_2 (i := 59) rfl rfl
theorem mw_2_60 : Cond.code yX3_changeError cX3_changeError 5 (Option.some FieldType.int) ∈ GW := gt_2 (i := 60) rfl rfl
theorem mw_2_61 : Cond.methodLink "FoldedMonths" 73 yX3_subjectSpanError ∈ GW := gt_2 (i := 61) rfl rfl
theorem mw_2_62 : Cond.static yX3_subjectSpanError ∈ GW := gt_2 (i := 62) rfl rfl
theorem mw_2_63 : Cond.code yX3_subjectSpanError cX3_subjectSpanError 3 (Option.some FieldType.int) ∈ GW := gt_2 (i := 63) rfl rfl
theorem mw_2_64 : Cond.methodLink "FoldedMonths" 98 yX3_isSubject ∈ GW := gt_2 (i := 64) rfl rfl
theorem mw_2_65 : Cond.static yX3_isSubject ∈ GW := gt_2 (i := 65) rfl rfl
theorem mw_2_66 : Cond.code yX3_isSubject cX3_isSubject 1 (Option.some FieldType.boolean) ∈ GW := gt_2 (i := 66) rfl rfl
theorem mw_2_67 : Cond.methodLink "FoldedMonths" 116 yX3_spanError ∈ GW := gt_2 (i := 67) rfl rfl
theorem mw_2_68 : Cond.static yX3_spanError ∈ GW := gt_2 (i := 68) rfl rfl
theorem mw_2_69 : Cond.code yX3_spanError cX3_spanError 2 (Option.some FieldType.int) ∈ GW := gt_2 (i := 69) rfl rfl
theorem mw_2_70 : Cond.methodLink "FoldedMonths" 102 yX3_isDay ∈ GW := gt_2 (i := 70) rfl rfl
theorem mw_2_71 : Cond.static yX3_isDay ∈ GW := gt_2 (i := 71) rfl rfl
theorem mw_2_72 : Cond.code yX3_isDay cX3_isDay 1 (Option.some FieldType.boolean) ∈ GW := gt_2 (i := 72) rfl rfl
theorem mw_2_73 : Cond.methodLink "FoldedMonths" 70 yX0_writeDays ∈ GW := gt_2 (i := 73) rfl rfl
theorem mw_2_74 : Cond.instanceMethod yX0_writeDays ∈ GW := gt_2 (i := 74) rfl rfl
theorem mw_2_75 : Cond.selects "FoldedMonths$Diary" yX0_writeDays yX0_writeDays ∈ GW := gt_2 (i := 75) rfl rfl
theorem mw_2_76 : Cond.code yX0_writeDays cX0_writeDays 10 (Option.some FieldType.int) ∈ GW := gt_2 (i := 76) rfl rfl
theorem mw_2_78 : Cond.static yX3_daysMeant ∈ GW := gt_2 (i := 78) rfl rfl
theorem mw_2_79 : Cond.code yX3_daysMeant cX3_daysMeant 6 (Option.some FieldType.int) ∈ GW := gt_2 (i := 79) rfl rfl
theorem mw_2_80 : Cond.methodLink "FoldedMonths" 105 yX3_firstDayOf ∈ GW := gt_2 (i := 80) rfl rfl
theorem mw_2_81 : Cond.static yX3_firstDayOf ∈ GW := gt_2 (i := 81) rfl rfl
theorem mw_2_82 : Cond.code yX3_firstDayOf cX3_firstDayOf 1 (Option.some FieldType.int) ∈ GW := gt_2 (i := 82) rfl rfl
theorem mw_2_83 : Cond.methodLink "FoldedMonths" 132 Lib.Math.max.name ∈ GW := gt_2 (i := 83) rfl rfl
theorem mw_2_84 : Cond.methodLink "FoldedMonths" 129 yX3_daysOf ∈ GW := gt_2 (i := 84) rfl rfl
theorem mw_2_85 : Cond.static yX3_daysOf ∈ GW := gt_2 (i := 85) rfl rfl
theorem mw_2_86 : Cond.code yX3_daysOf cX3_daysOf 2 (Option.some FieldType.int) ∈ GW := gt_2 (i := 86) rfl rfl
theorem mw_2_87 : Cond.methodLink "FoldedMonths" 284 yX3_lowestBits ∈ GW := gt_2 (i := 87) rfl rfl
theorem mw_2_88 : Cond.static yX3_lowestBits ∈ GW := gt_2 (i := 88) rfl rfl
theorem mw_2_89 : Cond.code yX3_lowestBits cX3_lowestBits 1 (Option.some FieldType.int) ∈ GW := gt_2 (i := 89) rfl rfl
theorem mw_2_90 : Cond.methodLink "FoldedMonths$Diary" 118 yX0_isOld ∈ GW := gt_2 (i := 90) rfl rfl
theorem mw_2_91 : Cond.instanceMethod yX0_isOld ∈ GW := gt_2 (i := 91) rfl rfl
theorem mw_2_92 : Cond.selects "FoldedMonths$Diary" yX0_isOld yX0_isOld ∈ GW := gt_2 (i := 92) rfl rfl
theorem mw_2_93 : Cond.code yX0_isOld cX0_isOld 2 (Option.some FieldType.boolean) ∈ GW := gt_2 (i := 93) rfl rfl
theorem mw_2_94 : Cond.methodLink "FoldedMonths$Diary" 133 yX0_foldNamersOf ∈ GW := gt_2 (i := 94) rfl rfl
theorem mw_2_95 : Cond.instanceMethod yX0_foldNamersOf ∈ GW := gt_2 (i := 95) rfl rfl
theorem mw_2_96 : Cond.selects "FoldedMonths$Diary" yX0_foldNamersOf yX0_foldNamersOf ∈ GW := gt_2 (i := 96) rfl rfl
theorem mw_2_97 : Cond.code yX0_foldNamersOf cX0_foldNamersOf 3 (Option.none : Option FieldType) ∈ GW := gt_2 (i := 97) rfl rfl
theorem mw_2_98 : Cond.methodLink "FoldedMonths$Diary" 121 yX0_bringToTheEnd ∈ GW := gt_2 (i := 98) rfl rfl
theorem mw_2_99 : Cond.instanceMethod yX0_bringToTheEnd ∈ GW := gt_2 (i := 99) rfl rfl
theorem mw_2_100 : Cond.selects "FoldedMonths$Diary" yX0_bringToTheEnd yX0_bringToTheEnd ∈ GW := gt_2 (i := 100) rfl rfl
theorem mw_2_101 : Cond.code yX0_bringToTheEnd cX0_bringToTheEnd 3 (Option.none : Option FieldType) ∈ GW := gt_2 (i := 101) rfl rfl
theorem mw_2_102 : Cond.methodLink "FoldedMonths$Diary" 104 yX0_placeInRow ∈ GW := gt_2 (i := 102) rfl rfl
theorem mw_2_103 : Cond.instanceMethod yX0_placeInRow ∈ GW := gt_2 (i := 103) rfl rfl
theorem mw_2_104 : Cond.selects "FoldedMonths$Diary" yX0_placeInRow yX0_placeInRow ∈ GW := gt_2 (i := 104) rfl rfl
theorem mw_2_105 : Cond.code yX0_placeInRow cX0_placeInRow 3 (Option.some FieldType.int) ∈ GW := gt_2 (i := 105) rfl rfl
theorem mw_2_106 : Cond.methodLink "FoldedMonths$Diary" 136 yX0_writeBits ∈ GW := gt_2 (i := 106) rfl rfl
theorem mw_2_107 : Cond.instanceMethod yX0_writeBits ∈ GW := gt_2 (i := 107) rfl rfl
theorem mw_2_108 : Cond.selects "FoldedMonths$Diary" yX0_writeBits yX0_writeBits ∈ GW := gt_2 (i := 108) rfl rfl
theorem mw_2_109 : Cond.code yX0_writeBits cX0_writeBits 5 (Option.none : Option FieldType) ∈ GW := gt_2 (i := 109) rfl rfl
theorem mw_2_110 : Cond.methodLink "FoldedMonths$Diary" 124 yX0_foldSurplus ∈ GW := gt_2 (i := 110) rfl rfl
theorem mw_2_111 : Cond.methodLink "FoldedMonthsLaw" 28 yX3_clear ∈ GW := gt_2 (i := 111) rfl rfl
theorem mw_2_112 : Cond.instanceMethod yX3_clear ∈ GW := gt_2 (i := 112) rfl rfl
theorem mw_2_113 : Cond.selects "FoldedMonths" yX3_clear yX3_clear ∈ GW := gt_2 (i := 113) rfl rfl
theorem mw_2_114 : Cond.code yX3_clear cX3_clear 4 (Option.some FieldType.int) ∈ GW := gt_2 (i := 114) rfl rfl
theorem mw_2_115 : Cond.methodLink "FoldedMonthsLaw" 31 yX3_marks ∈ GW := gt_2 (i := 115) rfl rfl
theorem mw_2_116 : Cond.instanceMethod yX3_marks ∈ GW := gt_2 (i := 116) rfl rfl
theorem mw_2_117 : Cond.selects "FoldedMonths" yX3_marks yX3_marks ∈ GW := gt_2 (i := 117) rfl rfl
theorem mw_2_118 : Cond.code yX3_marks cX3_marks 9 (Option.some FieldType.int) ∈ GW := gt_2 (i := 118) rfl rfl
theorem mw_2_119 : Cond.methodLink "FoldedMonths" 79 yX3_daysMeant ∈ GW := gt_2 (i := 119) rfl rfl
theorem mw_2_120 : Cond.methodLink "FoldedMonths" 82 yX3_allDays ∈ GW := gt_2 (i := 120) rfl rfl
theorem mw_2_121 : Cond.static yX3_allDays ∈ GW := gt_2 (i := 121) rfl rfl
theorem mw_2_122 : Cond.code yX3_allDays cX3_allDays 1 (Option.some FieldType.int) ∈ GW := gt_2 (i := 122) rfl rfl
theorem mw_2_123 : Cond.methodLink "FoldedMonths" 85 yX0_lookAt ∈ GW := gt_2 (i := 123) rfl rfl
theorem mw_2_124 : Cond.instanceMethod yX0_lookAt ∈ GW := gt_2 (i := 124) rfl rfl
theorem mw_2_125 : Cond.selects "FoldedMonths$Diary" yX0_lookAt yX0_lookAt ∈ GW := gt_2 (i := 125) rfl rfl
theorem mw_2_126 : Cond.code yX0_lookAt cX0_lookAt 2 (Option.none : Option FieldType) ∈ GW := gt_2 (i := 126) rfl rfl
theorem mw_2_127 : Cond.methodLink "FoldedMonths" 89 yX0_bitsOf ∈ GW := gt_2 (i := 127) rfl rfl
theorem mw_2_128 : Cond.methodLink "FoldedMonths" 93 yJ6_bitCount_0f7a4 ∈ GW := gt_2 (i := 128) rfl rfl
theorem mw_2_129 : Cond.methodLink "FoldedMonthsLaw" 34 yX3_isMarked ∈ GW := gt_2 (i := 129) rfl rfl
theorem mw_2_130 : Cond.instanceMethod yX3_isMarked ∈ GW := gt_2 (i := 130) rfl rfl
theorem mw_2_131 : Cond.selects "FoldedMonths" yX3_isMarked yX3_isMarked ∈ GW := gt_2 (i := 131) rfl rfl
theorem mw_2_132 : Cond.code yX3_isMarked cX3_isMarked 4 (Option.some FieldType.int) ∈ GW := gt_2 (i := 132) rfl rfl
theorem mw_2_133 : Cond.methodLink "FoldedMonths" 108 yX3_isBitSet ∈ GW := gt_2 (i := 133) rfl rfl
theorem mw_2_134 : Cond.static yX3_isBitSet ∈ GW := gt_2 (i := 134) rfl rfl
theorem mw_2_135 : Cond.code yX3_isBitSet cX3_isBitSet 2 (Option.some FieldType.boolean) ∈ GW := gt_2 (i := 135) rfl rfl
theorem mw_2_136 : Cond.methodLink "FoldedMonthsLaw" 37 yX3_both ∈ GW := gt_2 (i := 136) rfl rfl
theorem mw_2_137 : Cond.instanceMethod yX3_both ∈ GW := gt_2 (i := 137) rfl rfl
theorem mw_2_138 : Cond.selects "FoldedMonths" yX3_both yX3_both ∈ GW := gt_2 (i := 138) rfl rfl
theorem mw_2_139 : Cond.code yX3_both cX3_both 10 (Option.some FieldType.int) ∈ GW := gt_2 (i := 139) rfl rfl
theorem mw_2_140 : Cond.methodLink "FoldedMonths" 112 yX0_lookAtMonths ∈ GW := gt_2 (i := 140) rfl rfl
theorem mw_2_141 : Cond.instanceMethod yX0_lookAtMonths ∈ GW := gt_2 (i := 141) rfl rfl
theorem mw_2_142 : Cond.selects "FoldedMonths$Diary" yX0_lookAtMonths yX0_lookAtMonths ∈ GW := gt_2 (i := 142) rfl rfl
theorem mw_2_143 : Cond.code yX0_lookAtMonths cX0_lookAtMonths 5 (Option.none : Option FieldType) ∈ GW := gt_2 (i := 143) rfl rfl
theorem mw_2_144 : Cond.methodLink "FoldedMonths$Diary" 127 yX0_lookAt ∈ GW := gt_2 (i := 144) rfl rfl
theorem mw_2_145 : Cond.methodLink "FoldedMonthsLaw" 41 yX3_crowded ∈ GW := gt_2 (i := 145) rfl rfl
theorem mw_2_146 : Cond.instanceMethod yX3_crowded ∈ GW := gt_2 (i := 146) rfl rfl
theorem mw_2_147 : Cond.selects "FoldedMonths" yX3_crowded yX3_crowded ∈ GW := gt_2 (i := 147) rfl rfl
theorem mw_2_148 : Cond.code yX3_crowded cX3_crowded 8 (Option.some FieldType.int) ∈ GW := gt_2 (i := 148) rfl rfl
theorem mw_2_149 : Cond.methodLink "FoldedMonths" 119 yX0_crowdedDays ∈ GW := gt_2 (i := 149) rfl rfl
theorem mw_2_150 : Cond.instanceMethod yX0_crowdedDays ∈ GW := gt_2 (i := 150) rfl rfl
theorem mw_2_151 : Cond.selects "FoldedMonths$Diary" yX0_crowdedDays yX0_crowdedDays ∈ GW := gt_2 (i := 151) rfl rfl
theorem mw_2_152 : Cond.code yX0_crowdedDays cX0_crowdedDays 6 (Option.some FieldType.int) ∈ GW := gt_2 (i := 152) rfl rfl
theorem mw_2_154 : Cond.methodLink "FoldedMonths$Diary" 51 yX0_subjectsOn ∈ GW := gt_2 (i := 154) rfl rfl
theorem mw_2_155 : Cond.instanceMethod yX0_subjectsOn ∈ GW := gt_2 (i := 155) rfl rfl
theorem mw_2_156 : Cond.selects "FoldedMonths$Diary" yX0_subjectsOn yX0_subjectsOn ∈ GW := gt_2 (i := 156) rfl rfl
theorem mw_2_157 : Cond.code yX0_subjectsOn cX0_subjectsOn 5 (Option.some FieldType.int) ∈ GW := gt_2 (i := 157) rfl rfl
theorem mw_2_158 : Cond.methodLink "FoldedMonthsLaw" 44 yX3_longest ∈ GW := gt_2 (i := 158) rfl rfl
theorem mw_2_159 : Cond.instanceMethod yX3_longest ∈ GW := gt_2 (i := 159) rfl rfl
theorem mw_2_160 : Cond.selects "FoldedMonths" yX3_longest yX3_longest ∈ GW := gt_2 (i := 160) rfl rfl
theorem mw_2_161 : Cond.code yX3_longest cX3_longest 10 (Option.some FieldType.int) ∈ GW := gt_2 (i := 161) rfl rfl
theorem mw_2_162 : Cond.methodLink "FoldedMonths" 122 yX0_lookAtMarkedMonths ∈ GW := gt_2 (i := 162) rfl rfl
theorem mw_2_163 : Cond.instanceMethod yX0_lookAtMarkedMonths ∈ GW := gt_2 (i := 163) rfl rfl
theorem mw_2_164 : Cond.selects "FoldedMonths$Diary" yX0_lookAtMarkedMonths yX0_lookAtMarkedMonths ∈ GW := gt_2 (i := 164) rfl rfl
theorem mw_2_165 : Cond.code yX0_lookAtMarkedMonths cX0_lookAtMarkedMonths 6 (Option.none : Option FieldType) ∈ GW := gt_2 (i := 165) rfl rfl
theorem mw_2_166 : Cond.methodLink "FoldedMonths" 126 yX0_isMarkedOn ∈ GW := gt_2 (i := 166) rfl rfl
theorem mw_2_167 : Cond.instanceMethod yX0_isMarkedOn ∈ GW := gt_2 (i := 167) rfl rfl
theorem mw_2_168 : Cond.selects "FoldedMonths$Diary" yX0_isMarkedOn yX0_isMarkedOn ∈ GW := gt_2 (i := 168) rfl rfl
theorem mw_2_169 : Cond.code yX0_isMarkedOn cX0_isMarkedOn 4 (Option.some FieldType.boolean) ∈ GW := gt_2 (i := 169) rfl rfl
theorem mw_2_171 : Cond.methodLink "FoldedMonthsLaw" 47 yX3_nextMark ∈ GW := gt_2 (i := 171) rfl rfl
theorem mw_2_172 : Cond.instanceMethod yX3_nextMark ∈ GW := gt_2 (i := 172) rfl rfl
theorem mw_2_173 : Cond.selects "FoldedMonths" yX3_nextMark yX3_nextMark ∈ GW := gt_2 (i := 173) rfl rfl
theorem mw_2_174 : Cond.code yX3_nextMark cX3_nextMark 6 (Option.some FieldType.int) ∈ GW := gt_2 (i := 174) rfl rfl
theorem mw_2_175 : Cond.methodLink "FoldedMonthsLaw" 50 yX3_ofMonth ∈ GW := gt_2 (i := 175) rfl rfl
theorem mw_2_176 : Cond.instanceMethod yX3_ofMonth ∈ GW := gt_2 (i := 176) rfl rfl
theorem mw_2_177 : Cond.selects "FoldedMonths" yX3_ofMonth yX3_ofMonth ∈ GW := gt_2 (i := 177) rfl rfl
theorem mw_2_178 : Cond.code yX3_ofMonth cX3_ofMonth 3 (Option.some FieldType.int) ∈ GW := gt_2 (i := 178) rfl rfl
theorem mw_2_179 : Cond.methodLink "FoldedMonths" 137 yX3_isMonth ∈ GW := gt_2 (i := 179) rfl rfl
theorem mw_2_180 : Cond.methodLink "FoldedMonths" 140 yX0_isOld ∈ GW := gt_2 (i := 180) rfl rfl
theorem mw_2_181 : Cond.methodLink "FoldedMonths" 143 yX0_placeInRow ∈ GW := gt_2 (i := 181) rfl rfl
theorem mw_2_182 : Cond.methodLink "FoldedMonths" 146 yX0_formOf ∈ GW := gt_2 (i := 182) rfl rfl
theorem mw_2_183 : Cond.methodLink "FoldedMonths" 149 yX0_sizeOf ∈ GW := gt_2 (i := 183) rfl rfl
theorem mw_2_184 : Cond.methodLink "FoldedMonths" 152 yX0_namedBy ∈ GW := gt_2 (i := 184) rfl rfl
theorem mw_2_185 : Cond.methodLink "FoldedMonths" 155 yX0_marksIn ∈ GW := gt_2 (i := 185) rfl rfl
theorem mw_2_186 : Cond.methodLink "FoldedMonths" 158 yX0_subjectsIn ∈ GW := gt_2 (i := 186) rfl rfl
theorem mw_2_187 : Cond.instanceMethod yX0_subjectsIn ∈ GW := gt_2 (i := 187) rfl rfl
theorem mw_2_188 : Cond.selects "FoldedMonths$Diary" yX0_subjectsIn yX0_subjectsIn ∈ GW := gt_2 (i := 188) rfl rfl
theorem mw_2_189 : Cond.code yX0_subjectsIn cX0_subjectsIn 4 (Option.some FieldType.int) ∈ GW := gt_2 (i := 189) rfl rfl
theorem mw_2_190 : Cond.methodLink "FoldedMonthsLaw" 53 yX3_inMonth ∈ GW := gt_2 (i := 190) rfl rfl
theorem mw_2_191 : Cond.instanceMethod yX3_inMonth ∈ GW := gt_2 (i := 191) rfl rfl
theorem mw_2_192 : Cond.selects "FoldedMonths" yX3_inMonth yX3_inMonth ∈ GW := gt_2 (i := 192) rfl rfl
theorem mw_2_193 : Cond.code yX3_inMonth cX3_inMonth 3 (Option.some FieldType.int) ∈ GW := gt_2 (i := 193) rfl rfl
theorem mw_2_194 : Cond.methodLink "FoldedMonthsLaw" 56 yX3_dayOf ∈ GW := gt_2 (i := 194) rfl rfl
theorem mw_2_195 : Cond.instanceMethod yX3_dayOf ∈ GW := gt_2 (i := 195) rfl rfl
theorem mw_2_196 : Cond.selects "FoldedMonths" yX3_dayOf yX3_dayOf ∈ GW := gt_2 (i := 196) rfl rfl
theorem mw_2_197 : Cond.code yX3_dayOf cX3_dayOf 5 (Option.some FieldType.int) ∈ GW := gt_2 (i := 197) rfl rfl
theorem mw_2_198 : Cond.methodLink "FoldedMonthsLaw" 59 yX3_dateOf ∈ GW := gt_2 (i := 198) rfl rfl
theorem mw_2_199 : Cond.instanceMethod yX3_dateOf ∈ GW := gt_2 (i := 199) rfl rfl
theorem mw_2_200 : Cond.selects "FoldedMonths" yX3_dateOf yX3_dateOf ∈ GW := gt_2 (i := 200) rfl rfl
theorem mw_2_201 : Cond.code yX3_dateOf cX3_dateOf 4 (Option.some FieldType.int) ∈ GW := gt_2 (i := 201) rfl rfl
theorem mw_2_202 : Cond.methodLink "FoldedMonthsLaw" 62 yX3_sizeAs ∈ GW := gt_2 (i := 202) rfl rfl
theorem mw_2_203 : Cond.instanceMethod yX3_sizeAs ∈ GW := gt_2 (i := 203) rfl rfl
theorem mw_2_204 : Cond.selects "FoldedMonths" yX3_sizeAs yX3_sizeAs ∈ GW := gt_2 (i := 204) rfl rfl
theorem mw_2_205 : Cond.code yX3_sizeAs cX3_sizeAs 3 (Option.some FieldType.int) ∈ GW := gt_2 (i := 205) rfl rfl
theorem mw_2_206 : Cond.methodLink "FoldedMonths" 189 yX0_twinOf ∈ GW := gt_2 (i := 206) rfl rfl
theorem mw_2_207 : Cond.methodLink "FoldedMonths" 192 yX0_sizeIn ∈ GW := gt_2 (i := 207) rfl rfl
theorem mw_2_208 : Cond.methodLink "FoldedMonthsLaw" 65 yX3_workOf ∈ GW := gt_2 (i := 208) rfl rfl
theorem mw_2_209 : Cond.instanceMethod yX3_workOf ∈ GW := gt_2 (i := 209) rfl rfl
theorem mw_2_210 : Cond.selects "FoldedMonths" yX3_workOf yX3_workOf ∈ GW := gt_2 (i := 210) rfl rfl
theorem mw_2_211 : Cond.code yX3_workOf cX3_workOf 4 (Option.some FieldType.int) ∈ GW := gt_2 (i := 211) rfl rfl
theorem mw_2_212 : Cond.methodLink "FoldedMonthsLaw" 68 yX3_bestOpen ∈ GW := gt_2 (i := 212) rfl rfl
theorem mw_2_213 : Cond.instanceMethod yX3_bestOpen ∈ GW := gt_2 (i := 213) rfl rfl
theorem mw_2_214 : Cond.selects "FoldedMonths" yX3_bestOpen yX3_bestOpen ∈ GW := gt_2 (i := 214) rfl rfl
theorem mw_2_215 : Cond.code yX3_bestOpen cX3_bestOpen 8 (Option.some FieldType.int) ∈ GW := gt_2 (i := 215) rfl rfl
theorem mw_2_216 : Cond.methodLink "FoldedMonthsLaw" 71 yX3_put ∈ GW := gt_2 (i := 216) rfl rfl
theorem mw_2_217 : Cond.instanceMethod yX3_put ∈ GW := gt_2 (i := 217) rfl rfl
theorem mw_2_218 : Cond.selects "FoldedMonths" yX3_put yX3_put ∈ GW := gt_2 (i := 218) rfl rfl
theorem mw_2_219 : Cond.code yX3_put cX3_put 4 (Option.some FieldType.int) ∈ GW := gt_2 (i := 219) rfl rfl
theorem mw_2_220 : Cond.methodLink "FoldedMonths" 199 yX3_charactersIn ∈ GW := gt_2 (i := 220) rfl rfl
theorem mw_2_221 : Cond.static yX3_charactersIn ∈ GW := gt_2 (i := 221) rfl rfl
theorem mw_2_222 : Cond.code yX3_charactersIn cX3_charactersIn 6 (Option.some FieldType.int) ∈ GW := gt_2 (i := 222) rfl rfl
theorem mw_2_223 : Cond.constantLong "FoldedMonths" 287 (255 : Int64) ∈ GW := gt_2 (i := 223) rfl rfl
theorem mw_2_224 : Cond.methodLink "FoldedMonths" 203 yX1_append ∈ GW := gt_2 (i := 224) rfl rfl
theorem mw_2_225 : Cond.instanceMethod yX1_append ∈ GW := gt_2 (i := 225) rfl rfl
theorem mw_2_226 : Cond.selects "FoldedMonths$Pad" yX1_append yX1_append ∈ GW := gt_2 (i := 226) rfl rfl
theorem mw_2_227 : Cond.code yX1_append cX1_append 5 (Option.none : Option FieldType) ∈ GW := gt_2 (i := 227) rfl rfl
theorem mw_2_228 : Cond.constantLong "FoldedMonths$Pad" 26 (255 : Int64) ∈ GW := gt_2 (i := 228) rfl rfl
theorem mw_2_229 : Cond.constantLong "FoldedMonthsLaw" 75 (127 : Int64) ∈ GW := gt_2 (i := 229) rfl rfl
theorem mw_2_230 : Cond.methodLink "FoldedMonthsLaw" 77 yX3_save ∈ GW := gt_2 (i := 230) rfl rfl
theorem mw_2_231 : Cond.instanceMethod yX3_save ∈ GW := gt_2 (i := 231) rfl rfl
theorem mw_2_232 : Cond.selects "FoldedMonths" yX3_save yX3_save ∈ GW := gt_2 (i := 232) rfl rfl
theorem mw_2_233 : Cond.code yX3_save cX3_save 2 (Option.some FieldType.int) ∈ GW := gt_2 (i := 233) rfl rfl
theorem mw_2_234 : Cond.methodLink "FoldedMonthsLaw" 80 yX3_restore ∈ GW := gt_2 (i := 234) rfl rfl
theorem mw_2_235 : Cond.instanceMethod yX3_restore ∈ GW := gt_2 (i := 235) rfl rfl
theorem mw_2_236 : Cond.selects "FoldedMonths" yX3_restore yX3_restore ∈ GW := gt_2 (i := 236) rfl rfl
theorem mw_2_237 : Cond.code yX3_restore cX3_restore 2 (Option.some FieldType.int) ∈ GW := gt_2 (i := 237) rfl rfl
theorem mw_2_238 : Cond.methodLink "FoldedMonthsLaw" 83 yX3_fault ∈ GW := gt_2 (i := 238) rfl rfl
theorem mw_2_239 : Cond.instanceMethod yX3_fault ∈ GW := gt_2 (i := 239) rfl rfl
theorem mw_3_0 : Cond.selects "FoldedMonths" yX3_fault yX3_fault ∈ GW := gt_3 (i := 0) rfl rfl
theorem mw_3_1 : Cond.code yX3_fault cX3_fault 1 (Option.some FieldType.int) ∈ GW := gt_3 (i := 1) rfl rfl
theorem mw_3_2 : Cond.methodLink "FoldedMonths" 207 yX1_readAll ∈ GW := gt_3 (i := 2) rfl rfl
theorem mw_3_3 : Cond.instanceMethod yX1_readAll ∈ GW := gt_3 (i := 3) rfl rfl
theorem mw_3_4 : Cond.selects "FoldedMonths$Pad" yX1_readAll yX1_readAll ∈ GW := gt_3 (i := 4) rfl rfl
theorem mw_3_5 : Cond.code yX1_readAll cX1_readAll 2 (Option.some FieldType.int) ∈ GW := gt_3 (i := 5) rfl rfl
theorem mw_3_6 : Cond.methodLink "FoldedMonths$Pad" 37 yX1_readOrder ∈ GW := gt_3 (i := 6) rfl rfl
theorem mw_3_7 : Cond.instanceMethod yX1_readOrder ∈ GW := gt_3 (i := 7) rfl rfl
theorem mw_3_8 : Cond.selects "FoldedMonths$Pad" yX1_readOrder yX1_readOrder ∈ GW := gt_3 (i := 8) rfl rfl
theorem mw_3_9 : Cond.code yX1_readOrder cX1_readOrder 4 (Option.some FieldType.boolean) ∈ GW := gt_3 (i := 9) rfl rfl
theorem mw_3_10 : Cond.methodLink "FoldedMonths$Pad" 41 yX1_take ∈ GW := gt_3 (i := 10) rfl rfl
theorem mw_3_11 : Cond.instanceMethod yX1_take ∈ GW := gt_3 (i := 11) rfl rfl
theorem mw_3_12 : Cond.selects "FoldedMonths$Pad" yX1_take yX1_take ∈ GW := gt_3 (i := 12) rfl rfl
theorem mw_3_13 : Cond.code yX1_take cX1_take 2 (Option.some FieldType.boolean) ∈ GW := gt_3 (i := 13) rfl rfl
theorem mw_3_14 : Cond.methodLink "FoldedMonths$Pad" 53 yX1_signHere ∈ GW := gt_3 (i := 14) rfl rfl
theorem mw_3_15 : Cond.instanceMethod yX1_signHere ∈ GW := gt_3 (i := 15) rfl rfl
theorem mw_3_16 : Cond.selects "FoldedMonths$Pad" yX1_signHere yX1_signHere ∈ GW := gt_3 (i := 16) rfl rfl
theorem mw_3_17 : Cond.code yX1_signHere cX1_signHere 2 (Option.some FieldType.char) ∈ GW := gt_3 (i := 17) rfl rfl
theorem mw_3_18 : Cond.methodLink "FoldedMonths$Pad" 45 yX1_readNumber ∈ GW := gt_3 (i := 18) rfl rfl
theorem mw_3_19 : Cond.instanceMethod yX1_readNumber ∈ GW := gt_3 (i := 19) rfl rfl
theorem mw_3_20 : Cond.selects "FoldedMonths$Pad" yX1_readNumber yX1_readNumber ∈ GW := gt_3 (i := 20) rfl rfl
theorem mw_3_21 : Cond.code yX1_readNumber cX1_readNumber 4 (Option.some FieldType.int) ∈ GW := gt_3 (i := 21) rfl rfl
theorem mw_3_22 : Cond.methodLink "FoldedMonths$Pad" 64 yX1_digitHere ∈ GW := gt_3 (i := 22) rfl rfl
theorem mw_3_23 : Cond.instanceMethod yX1_digitHere ∈ GW := gt_3 (i := 23) rfl rfl
theorem mw_3_24 : Cond.selects "FoldedMonths$Pad" yX1_digitHere yX1_digitHere ∈ GW := gt_3 (i := 24) rfl rfl
theorem mw_3_25 : Cond.code yX1_digitHere cX1_digitHere 2 (Option.some FieldType.int) ∈ GW := gt_3 (i := 25) rfl rfl
theorem mw_3_26 : Cond.methodLink "FoldedMonths$Pad" 49 yX1_addStep ∈ GW := gt_3 (i := 26) rfl rfl
theorem mw_3_27 : Cond.instanceMethod yX1_addStep ∈ GW := gt_3 (i := 27) rfl rfl
theorem mw_3_28 : Cond.selects "FoldedMonths$Pad" yX1_addStep yX1_addStep ∈ GW := gt_3 (i := 28) rfl rfl
theorem mw_3_29 : Cond.code yX1_addStep cX1_addStep 7 (Option.some FieldType.boolean) ∈ GW := gt_3 (i := 29) rfl rfl
theorem mw_3_30 : Cond.methodLink "FoldedMonths$Pad" 67 yX1_stepAt ∈ GW := gt_3 (i := 30) rfl rfl
theorem mw_3_31 : Cond.instanceMethod yX1_stepAt ∈ GW := gt_3 (i := 31) rfl rfl
theorem mw_3_32 : Cond.selects "FoldedMonths$Pad" yX1_stepAt yX1_stepAt ∈ GW := gt_3 (i := 32) rfl rfl
theorem mw_3_33 : Cond.code yX1_stepAt cX1_stepAt 2 (Option.some (FieldType.object "FoldedMonths$Step")) ∈ GW := gt_3 (i := 33) rfl rfl
theorem mw_3_35 : Cond.methodLink "FoldedMonths$Pad" 60 yX1_readRanges ∈ GW := gt_3 (i := 35) rfl rfl
theorem mw_3_36 : Cond.instanceMethod yX1_readRanges ∈ GW := gt_3 (i := 36) rfl rfl
theorem mw_3_37 : Cond.selects "FoldedMonths$Pad" yX1_readRanges yX1_readRanges ∈ GW := gt_3 (i := 37) rfl rfl
theorem mw_3_38 : Cond.code yX1_readRanges cX1_readRanges 7 (Option.some FieldType.boolean) ∈ GW := gt_3 (i := 38) rfl rfl
theorem mw_3_39 : Cond.methodLink "FoldedMonthsLaw" 87 yX3_carryOut ∈ GW := gt_3 (i := 39) rfl rfl
theorem mw_3_40 : Cond.instanceMethod yX3_carryOut ∈ GW := gt_3 (i := 40) rfl rfl
theorem mw_3_41 : Cond.selects "FoldedMonths" yX3_carryOut yX3_carryOut ∈ GW := gt_3 (i := 41) rfl rfl
theorem mw_3_42 : Cond.code yX3_carryOut cX3_carryOut 4 (Option.some FieldType.int) ∈ GW := gt_3 (i := 42) rfl rfl
theorem mw_3_43 : Cond.methodLink "FoldedMonths" 216 yX1_stepAt ∈ GW := gt_3 (i := 43) rfl rfl
theorem mw_3_44 : Cond.methodLink "FoldedMonths" 220 yX3_carryStep ∈ GW := gt_3 (i := 44) rfl rfl
theorem mw_3_46 : Cond.instanceMethod yX3_carryStep ∈ GW := gt_3 (i := 46) rfl rfl
theorem mw_3_47 : Cond.code yX3_carryStep cX3_carryStep 3 (Option.some FieldType.int) ∈ GW := gt_3 (i := 47) rfl rfl
theorem mw_3_48 : Cond.methodLink "FoldedMonthsLaw" 119 yL_alike ∈ GW := gt_3 (i := 48) rfl rfl
theorem mw_3_49 : Cond.static yL_alike ∈ GW := gt_3 (i := 49) rfl rfl
theorem mw_3_50 : Cond.code yL_alike cL_alike 7 (Option.some FieldType.boolean) ∈ GW := gt_3 (i := 50) rfl rfl
theorem mw_3_51 : Cond.methodLink "FoldedMonthsLaw" 123 yL_holds ∈ GW := gt_3 (i := 51) rfl rfl
theorem mw_3_52 : Cond.static yL_holds ∈ GW := gt_3 (i := 52) rfl rfl
theorem mw_3_53 : Cond.code yL_holds cL_holds 18 (Option.some FieldType.boolean) ∈ GW := gt_3 (i := 53) rfl rfl
theorem mw_3_54 : Cond.methodLink "FoldedMonthsLaw" 111 yL_act ∈ GW := gt_3 (i := 54) rfl rfl
theorem mw_3_55 : Cond.static yL_act ∈ GW := gt_3 (i := 55) rfl rfl
theorem mw_3_56 : Cond.code yL_act cL_act 6 (Option.some FieldType.int) ∈ GW := gt_3 (i := 56) rfl rfl
theorem mw_3_57 : Cond.methodLink "FoldedMonthsLaw" 90 yX3_undo ∈ GW := gt_3 (i := 57) rfl rfl
theorem mw_3_58 : Cond.instanceMethod yX3_undo ∈ GW := gt_3 (i := 58) rfl rfl
theorem mw_3_59 : Cond.selects "FoldedMonths" yX3_undo yX3_undo ∈ GW := gt_3 (i := 59) rfl rfl
theorem mw_3_60 : Cond.code yX3_undo cX3_undo 1 (Option.some FieldType.int) ∈ GW := gt_3 (i := 60) rfl rfl
theorem mw_3_61 : Cond.methodLink "FoldedMonthsLaw" 93 yX3_wipe ∈ GW := gt_3 (i := 61) rfl rfl
theorem mw_3_62 : Cond.instanceMethod yX3_wipe ∈ GW := gt_3 (i := 62) rfl rfl
theorem mw_3_63 : Cond.selects "FoldedMonths" yX3_wipe yX3_wipe ∈ GW := gt_3 (i := 63) rfl rfl
theorem mw_3_64 : Cond.code yX3_wipe cX3_wipe 2 (Option.some FieldType.int) ∈ GW := gt_3 (i := 64) rfl rfl
theorem mw_3_65 : Cond.constantLong "FoldedMonthsLaw" 96 (112 : Int64) ∈ GW := gt_3 (i := 65) rfl rfl
theorem mw_3_66 : Cond.constantLong "FoldedMonthsLaw" 98 (59 : Int64) ∈ GW := gt_3 (i := 66) rfl rfl
theorem mw_3_67 : Cond.constantLong "FoldedMonthsLaw" 100 (109 : Int64) ∈ GW := gt_3 (i := 67) rfl rfl
theorem mw_3_68 : Cond.constantLong "FoldedMonthsLaw" 102 (98 : Int64) ∈ GW := gt_3 (i := 68) rfl rfl
theorem mw_3_69 : Cond.constantLong "FoldedMonthsLaw" 104 (58 : Int64) ∈ GW := gt_3 (i := 69) rfl rfl
theorem mw_p1_0 : Cond.selects "FoldedMonths" yX3_changeKeep yX3_changeKeep ∈ GW := gp_1 (q := (yX3_changeKeep, 7)) (i := 0) rfl
theorem mw_p1_1 : Cond.selects "FoldedMonths" yX3_record yX3_record ∈ GW := gp_1 (q := (yX3_record, 7)) (i := 1) rfl
theorem mw_p1_2 : Cond.selects "FoldedMonths" yX3_moveOldestToTheEnd yX3_moveOldestToTheEnd ∈ GW := gp_1 (q := (yX3_moveOldestToTheEnd, 7)) (i := 2) rfl
theorem mw_p1_3 : Cond.selects "FoldedMonths" yX3_changeOpen yX3_changeOpen ∈ GW := gp_1 (q := (yX3_changeOpen, 7)) (i := 3) rfl
theorem mw_p1_4 : Cond.selects "FoldedMonths" yX3_passError yX3_passError ∈ GW := gp_1 (q := (yX3_passError, 7)) (i := 4) rfl
theorem mw_p1_5 : Cond.selects "FoldedMonths" yX3_changeDays yX3_changeDays ∈ GW := gp_1 (q := (yX3_changeDays, 7)) (i := 5) rfl
theorem mw_p1_6 : Cond.selects "FoldedMonths" yX3_changeError yX3_changeError ∈ GW := gp_1 (q := (yX3_changeError, 7)) (i := 6) rfl
theorem mw_p1_7 : Cond.selects "FoldedMonths" yX3_carryStep yX3_carryStep ∈ GW := gp_1 (q := (yX3_carryStep, 7)) (i := 7) rfl
theorem iGX0 : ∀ k, k < 11 → u_lay RX0 TX0 k ∈ GW := fun k hk => match k, hk with
  | 0, _ => mw_1_44
  | 1, _ => mw_1_46
  | 2, _ => mw_1_48
  | 3, _ => mw_1_50
  | 4, _ => mw_1_52
  | 5, _ => mw_1_54
  | 6, _ => mw_1_56
  | 7, _ => mw_1_58
  | 8, _ => mw_1_60
  | 9, _ => mw_1_62
  | 10, _ => mw_1_64
  | k + 11, h => absurd h (by omega)
theorem inGX0 : ∀ w ∈ u_ws RX0 TX0 11, w ∈ GW := by
  intro w h
  obtain ⟨k, hk, rfl⟩ := List.mem_map.mp h
  exact iGX0 k (List.mem_range.mp hk)
theorem iGX1 : ∀ k, k < 6 → u_lay RX1 TX1 k ∈ GW := fun k hk => match k, hk with
  | 0, _ => mw_1_113
  | 1, _ => mw_1_115
  | 2, _ => mw_1_117
  | 3, _ => mw_1_119
  | 4, _ => mw_1_121
  | 5, _ => mw_1_123
  | k + 6, h => absurd h (by omega)
theorem inGX1 : ∀ w ∈ u_ws RX1 TX1 6, w ∈ GW := by
  intro w h
  obtain ⟨k, hk, rfl⟩ := List.mem_map.mp h
  exact iGX1 k (List.mem_range.mp hk)
theorem iGX2 : ∀ k, k < 5 → u_lay RX2 TX2 k ∈ GW := fun k hk => match k, hk with
  | 0, _ => mw_1_92
  | 1, _ => mw_1_94
  | 2, _ => mw_1_96
  | 3, _ => mw_1_98
  | 4, _ => mw_1_100
  | k + 5, h => absurd h (by omega)
theorem inGX2 : ∀ w ∈ u_ws RX2 TX2 5, w ∈ GW := by
  intro w h
  obtain ⟨k, hk, rfl⟩ := List.mem_map.mp h
  exact iGX2 k (List.mem_range.mp hk)
theorem iGX3 : ∀ k, k < 7 → u_lay RX3 TX3 k ∈ GW := fun k hk => match k, hk with
  | 0, _ => mw_1_133
  | 1, _ => mw_1_135
  | 2, _ => mw_1_137
  | 3, _ => mw_1_139
  | 4, _ => mw_1_141
  | 5, _ => mw_1_143
  | 6, _ => mw_1_145
  | k + 7, h => absurd h (by omega)
theorem inGX3 : ∀ w ∈ u_ws RX3 TX3 7, w ∈ GW := by
  intro w h
  obtain ⟨k, hk, rfl⟩ := List.mem_map.mp h
  exact iGX3 k (List.mem_range.mp hk)
