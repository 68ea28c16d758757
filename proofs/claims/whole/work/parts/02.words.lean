/-- the words that every contract of ours rests on: those of the tables that may be handed on -/
def GW : List Cond := lw_tbl.filter goodWord
theorem gw_of {w : Cond} (h : w ∈ lw_tbl) (hg : goodWord w = true) : w ∈ GW := List.mem_filter.mpr ⟨h, hg⟩
theorem gw_tbl : ∀ w ∈ GW, w ∈ lw_tbl := fun w h => (List.mem_filter.mp h).1
theorem gw_good {w : Cond} (h : w ∈ GW) : goodWord w = true := (List.mem_filter.mp h).2
theorem gt_1 {w : Cond} {i : Nat} (h : tables_1_1[i]? = some w) (hg : goodWord w = true) : w ∈ GW := gw_of (List.mem_append_right _ (List.mem_append_left _ (List.mem_of_getElem? h))) hg
theorem gt_2 {w : Cond} {i : Nat} (h : tables_1_2[i]? = some w) (hg : goodWord w = true) : w ∈ GW := gw_of (List.mem_append_right _ (List.mem_append_right _ (List.mem_append_left _ (List.mem_of_getElem? h)))) hg
theorem gt_3 {w : Cond} {i : Nat} (h : tables_1_3[i]? = some w) (hg : goodWord w = true) : w ∈ GW := gw_of (List.mem_append_right _ (List.mem_append_right _ (List.mem_append_right _ (List.mem_append_left _ (List.mem_of_getElem? h))))) hg
theorem gt_4 {w : Cond} {i : Nat} (h : tables_1_4[i]? = some w) (hg : goodWord w = true) : w ∈ GW := gw_of (List.mem_append_right _ (List.mem_append_right _ (List.mem_append_right _ (List.mem_append_right _ (List.mem_of_getElem? h))))) hg
theorem gp_0 {q : MethodName × Nat} (h : q ∈ lw_privs) : Cond.selects q.1.cls q.1 q.1 ∈ GW := gw_of (List.mem_append_left _ (List.mem_map_of_mem h)) rfl
theorem gp_1 {q : MethodName × Nat} {i : Nat} (h : lw_privs_1[i]? = some q) : Cond.selects q.1.cls q.1 q.1 ∈ GW := gp_0 (List.mem_append_left _ (List.mem_of_getElem? h))
theorem gp_2 {q : MethodName × Nat} {i : Nat} (h : lw_privs_2[i]? = some q) : Cond.selects q.1.cls q.1 q.1 ∈ GW := gp_0 (List.mem_append_right _ (List.mem_of_getElem? h))

theorem mw_1_0 : Cond.initialized "FoldedMonthsLaw" ∈ GW := gt_1 (i := 0) rfl rfl
theorem mw_1_1 : Cond.initialized "FoldedMonths" ∈ GW := gt_1 (i := 1) rfl rfl
theorem mw_1_2 : Cond.initialized "FoldedMonths$Diary" ∈ GW := gt_1 (i := 2) rfl rfl
theorem mw_1_3 : Cond.initialized "FoldedMonths$Pad" ∈ GW := gt_1 (i := 3) rfl rfl
theorem mw_1_4 : Cond.initialized "FoldedMonths$Step" ∈ GW := gt_1 (i := 4) rfl rfl
theorem mw_1_5 : Cond.initialized "FoldedMonthsModel" ∈ GW := gt_1 (i := 5) rfl rfl
theorem mw_1_6 : Cond.initialized "java/lang/Math" ∈ GW := gt_1 (i := 6) rfl rfl
theorem mw_1_7 : Cond.initialized "java/lang/System" ∈ GW := gt_1 (i := 7) rfl rfl
theorem mw_1_8 : Cond.initialized "java/lang/Integer" ∈ GW := gt_1 (i := 8) rfl rfl
theorem mw_1_9 : Cond.classLink "FoldedMonthsLaw" 7 "FoldedMonths" ∈ GW := gt_1 (i := 9) rfl rfl
theorem mw_1_10 : Cond.instantiable "FoldedMonths" 7 ∈ GW := gt_1 (i := 10) rfl rfl
theorem mw_1_11 : Cond.methodLink "FoldedMonthsLaw" 9 yX3_init ∈ GW := gt_1 (i := 11) rfl rfl
theorem mw_1_12 : Cond.instanceMethod yX3_init ∈ GW := gt_1 (i := 12) rfl rfl
theorem mw_1_13 : Cond.code yX3_init cX3_init 2 (Option.none : Option FieldType) ∈ GW := gt_1 (i := 13) rfl rfl
theorem mw_1_14 : Cond.methodLink "FoldedMonths" 3 objectInit ∈ GW := gt_1 (i := 14) rfl rfl
theorem mw_1_15 : Cond.instanceMethod objectInit ∈ GW := gt_1 (i := 15) rfl rfl
theorem mw_1_16 : Cond.code objectInit object_method_1_code 1 (Option.none : Option FieldType) ∈ GW := gt_1 (i := 16) rfl rfl
theorem mw_1_17 : Cond.classLink "FoldedMonths" 9 "FoldedMonths$Diary" ∈ GW := gt_1 (i := 17) rfl rfl
theorem mw_1_18 : Cond.instantiable "FoldedMonths$Diary" 11 ∈ GW := gt_1 (i := 18) rfl rfl
theorem mw_1_19 : Cond.methodLink "FoldedMonths" 11 yX0_init ∈ GW := gt_1 (i := 19) rfl rfl
theorem mw_1_20 : Cond.instanceMethod yX0_init ∈ GW := gt_1 (i := 20) rfl rfl
theorem mw_1_21 : Cond.code yX0_init cX0_init 2 (Option.none : Option FieldType) ∈ GW := gt_1 (i := 21) rfl rfl
theorem mw_1_22 : Cond.methodLink "FoldedMonths$Diary" 3 objectInit ∈ GW := gt_1 (i := 22) rfl rfl
theorem mw_1_23 : Cond.fieldLink "FoldedMonths" 40 "FoldedMonths$Diary" "today" "I" ∈ GW := gt_1 (i := 23) rfl rfl
theorem mw_1_24 : Cond.fieldLink "FoldedMonths$Diary" 57 "FoldedMonths$Diary" "today" "I" ∈ GW := gt_1 (i := 24) rfl rfl
theorem mw_1_25 : Cond.fieldLink "FoldedMonths$Diary" 9 "FoldedMonths$Diary" "keep" "I" ∈ GW := gt_1 (i := 25) rfl rfl
theorem mw_1_26 : Cond.fieldLink "FoldedMonths" 47 "FoldedMonths$Diary" "keep" "I" ∈ GW := gt_1 (i := 26) rfl rfl
theorem mw_1_27 : Cond.fieldLink "FoldedMonths$Diary" 15 "FoldedMonths$Diary" "open" "I" ∈ GW := gt_1 (i := 27) rfl rfl
theorem mw_1_28 : Cond.fieldLink "FoldedMonths" 50 "FoldedMonths$Diary" "open" "I" ∈ GW := gt_1 (i := 28) rfl rfl
theorem mw_1_29 : Cond.fieldLink "FoldedMonths" 171 "FoldedMonths$Diary" "work" "I" ∈ GW := gt_1 (i := 29) rfl rfl
theorem mw_1_30 : Cond.fieldLink "FoldedMonths$Diary" 95 "FoldedMonths$Diary" "work" "I" ∈ GW := gt_1 (i := 30) rfl rfl
theorem mw_1_31 : Cond.fieldLink "FoldedMonths" 174 "FoldedMonths$Diary" "unfoldings" "I" ∈ GW := gt_1 (i := 31) rfl rfl
theorem mw_1_32 : Cond.fieldLink "FoldedMonths$Diary" 111 "FoldedMonths$Diary" "unfoldings" "I" ∈ GW := gt_1 (i := 32) rfl rfl
theorem mw_1_33 : Cond.fieldLink "FoldedMonths" 177 "FoldedMonths$Diary" "foldings" "I" ∈ GW := gt_1 (i := 33) rfl rfl
theorem mw_1_34 : Cond.fieldLink "FoldedMonths$Diary" 98 "FoldedMonths$Diary" "foldings" "I" ∈ GW := gt_1 (i := 34) rfl rfl
theorem mw_1_35 : Cond.fieldLink "FoldedMonths" 165 "FoldedMonths$Diary" "rowLength" "I" ∈ GW := gt_1 (i := 35) rfl rfl
theorem mw_1_36 : Cond.fieldLink "FoldedMonths$Diary" 101 "FoldedMonths$Diary" "rowLength" "I" ∈ GW := gt_1 (i := 36) rfl rfl
theorem mw_1_37 : Cond.fieldLink "FoldedMonths$Diary" 18 "FoldedMonths$Diary" "bits" "[I" ∈ GW := gt_1 (i := 37) rfl rfl
theorem mw_1_38 : Cond.fieldLink "FoldedMonths" 252 "FoldedMonths$Diary" "bits" "[I" ∈ GW := gt_1 (i := 38) rfl rfl
theorem mw_1_39 : Cond.fieldLink "FoldedMonths$Diary" 25 "FoldedMonths$Diary" "forms" "[I" ∈ GW := gt_1 (i := 39) rfl rfl
theorem mw_1_40 : Cond.fieldLink "FoldedMonths" 260 "FoldedMonths$Diary" "forms" "[I" ∈ GW := gt_1 (i := 40) rfl rfl
theorem mw_1_41 : Cond.fieldLink "FoldedMonths$Diary" 28 "FoldedMonths$Diary" "names" "[I" ∈ GW := gt_1 (i := 41) rfl rfl
theorem mw_1_42 : Cond.fieldLink "FoldedMonths" 263 "FoldedMonths$Diary" "names" "[I" ∈ GW := gt_1 (i := 42) rfl rfl
theorem mw_1_43 : Cond.fieldLink "FoldedMonths$Diary" 22 "FoldedMonths$Diary" "row" "[I" ∈ GW := gt_1 (i := 43) rfl rfl
theorem mw_1_44 : Cond.fieldLink "FoldedMonths" 266 "FoldedMonths$Diary" "row" "[I" ∈ GW := gt_1 (i := 44) rfl rfl
theorem mw_1_45 : Cond.lays "FoldedMonths$Diary" "FoldedMonths$Diary" "today" "I" ∈ GW := gt_1 (i := 45) rfl rfl
theorem mw_1_47 : Cond.lays "FoldedMonths$Diary" "FoldedMonths$Diary" "keep" "I" ∈ GW := gt_1 (i := 47) rfl rfl
theorem mw_1_49 : Cond.lays "FoldedMonths$Diary" "FoldedMonths$Diary" "open" "I" ∈ GW := gt_1 (i := 49) rfl rfl
theorem mw_1_51 : Cond.lays "FoldedMonths$Diary" "FoldedMonths$Diary" "work" "I" ∈ GW := gt_1 (i := 51) rfl rfl
theorem mw_1_53 : Cond.lays "FoldedMonths$Diary" "FoldedMonths$Diary" "unfoldings" "I" ∈ GW := gt_1 (i := 53) rfl rfl
theorem mw_1_55 : Cond.lays "FoldedMonths$Diary" "FoldedMonths$Diary" "foldings" "I" ∈ GW := gt_1 (i := 55) rfl rfl
theorem mw_1_57 : Cond.lays "FoldedMonths$Diary" "FoldedMonths$Diary" "rowLength" "I" ∈ GW := gt_1 (i := 57) rfl rfl
theorem mw_1_59 : Cond.laysFinal "FoldedMonths$Diary" "FoldedMonths$Diary" "bits" "[I" ∈ GW := gt_1 (i := 59) rfl rfl
theorem mw_1_61 : Cond.laysFinal "FoldedMonths$Diary" "FoldedMonths$Diary" "forms" "[I" ∈ GW := gt_1 (i := 61) rfl rfl
theorem mw_1_63 : Cond.laysFinal "FoldedMonths$Diary" "FoldedMonths$Diary" "names" "[I" ∈ GW := gt_1 (i := 63) rfl rfl
theorem mw_1_65 : Cond.laysFinal "FoldedMonths$Diary" "FoldedMonths$Diary" "row" "[I" ∈ GW := gt_1 (i := 65) rfl rfl
theorem mw_1_68 : Cond.arrayClass FieldType.int ∈ GW := gt_1 (i := 68) rfl rfl
theorem mw_1_70 : Cond.classLink "FoldedMonths" 26 "FoldedMonths$Pad" ∈ GW := gt_1 (i := 70) rfl rfl
theorem mw_1_71 : Cond.instantiable "FoldedMonths$Pad" 6 ∈ GW := gt_1 (i := 71) rfl rfl
theorem mw_1_72 : Cond.methodLink "FoldedMonths" 28 yX1_init ∈ GW := gt_1 (i := 72) rfl rfl
theorem mw_1_73 : Cond.instanceMethod yX1_init ∈ GW := gt_1 (i := 73) rfl rfl
theorem mw_1_74 : Cond.code yX1_init cX1_init 2 (Option.none : Option FieldType) ∈ GW := gt_1 (i := 74) rfl rfl
theorem mw_1_75 : Cond.methodLink "FoldedMonths$Pad" 3 objectInit ∈ GW := gt_1 (i := 75) rfl rfl
theorem mw_1_76 : Cond.classLink "FoldedMonths$Pad" 15 "FoldedMonths$Step" ∈ GW := gt_1 (i := 76) rfl rfl
theorem mw_1_78 : Cond.instantiable "FoldedMonths$Step" 5 ∈ GW := gt_1 (i := 78) rfl rfl
theorem mw_1_80 : Cond.instanceMethod yX2_init ∈ GW := gt_1 (i := 80) rfl rfl
theorem mw_1_81 : Cond.code yX2_init cX2_init 1 (Option.none : Option FieldType) ∈ GW := gt_1 (i := 81) rfl rfl
theorem mw_1_82 : Cond.methodLink "FoldedMonths$Step" 1 objectInit ∈ GW := gt_1 (i := 82) rfl rfl
theorem mw_1_83 : Cond.fieldLink "FoldedMonths$Pad" 71 "FoldedMonths$Step" "kind" "C" ∈ GW := gt_1 (i := 83) rfl rfl
theorem mw_1_84 : Cond.fieldLink "FoldedMonths" 229 "FoldedMonths$Step" "kind" "C" ∈ GW := gt_1 (i := 84) rfl rfl
theorem mw_1_85 : Cond.fieldLink "FoldedMonths$Pad" 75 "FoldedMonths$Step" "subject" "I" ∈ GW := gt_1 (i := 85) rfl rfl
theorem mw_1_86 : Cond.fieldLink "FoldedMonths" 236 "FoldedMonths$Step" "subject" "I" ∈ GW := gt_1 (i := 86) rfl rfl
theorem mw_1_87 : Cond.fieldLink "FoldedMonths$Pad" 78 "FoldedMonths$Step" "from" "I" ∈ GW := gt_1 (i := 87) rfl rfl
theorem mw_1_88 : Cond.fieldLink "FoldedMonths" 233 "FoldedMonths$Step" "from" "I" ∈ GW := gt_1 (i := 88) rfl rfl
theorem mw_1_89 : Cond.fieldLink "FoldedMonths$Pad" 81 "FoldedMonths$Step" "to" "I" ∈ GW := gt_1 (i := 89) rfl rfl
theorem mw_1_90 : Cond.fieldLink "FoldedMonths" 239 "FoldedMonths$Step" "to" "I" ∈ GW := gt_1 (i := 90) rfl rfl
theorem mw_1_91 : Cond.fieldLink "FoldedMonths$Pad" 84 "FoldedMonths$Step" "order" "I" ∈ GW := gt_1 (i := 91) rfl rfl
theorem mw_1_92 : Cond.fieldLink "FoldedMonths" 224 "FoldedMonths$Step" "order" "I" ∈ GW := gt_1 (i := 92) rfl rfl
theorem mw_1_93 : Cond.lays "FoldedMonths$Step" "FoldedMonths$Step" "kind" "C" ∈ GW := gt_1 (i := 93) rfl rfl
theorem mw_1_95 : Cond.lays "FoldedMonths$Step" "FoldedMonths$Step" "subject" "I" ∈ GW := gt_1 (i := 95) rfl rfl
theorem mw_1_97 : Cond.lays "FoldedMonths$Step" "FoldedMonths$Step" "from" "I" ∈ GW := gt_1 (i := 97) rfl rfl
theorem mw_1_99 : Cond.lays "FoldedMonths$Step" "FoldedMonths$Step" "to" "I" ∈ GW := gt_1 (i := 99) rfl rfl
theorem mw_1_101 : Cond.lays "FoldedMonths$Step" "FoldedMonths$Step" "order" "I" ∈ GW := gt_1 (i := 101) rfl rfl
theorem mw_1_104 : Cond.arrayClass FieldType.char ∈ GW := gt_1 (i := 104) rfl rfl
theorem mw_1_105 : Cond.fieldLink "FoldedMonths$Pad" 9 "FoldedMonths$Pad" "signs" "[C" ∈ GW := gt_1 (i := 105) rfl rfl
theorem mw_1_106 : Cond.fieldLink "FoldedMonths$Pad" 17 "FoldedMonths$Pad" "steps" "[LFoldedMonths$Step;" ∈ GW := gt_1 (i := 106) rfl rfl
theorem mw_1_107 : Cond.fieldLink "FoldedMonths$Pad" 22 "FoldedMonths$Pad" "length" "I" ∈ GW := gt_1 (i := 107) rfl rfl
theorem mw_1_108 : Cond.fieldLink "FoldedMonths" 183 "FoldedMonths$Pad" "length" "I" ∈ GW := gt_1 (i := 108) rfl rfl
theorem mw_1_109 : Cond.fieldLink "FoldedMonths$Pad" 28 "FoldedMonths$Pad" "place" "I" ∈ GW := gt_1 (i := 109) rfl rfl
theorem mw_1_110 : Cond.fieldLink "FoldedMonths$Pad" 31 "FoldedMonths$Pad" "stepsRead" "I" ∈ GW := gt_1 (i := 110) rfl rfl
theorem mw_1_111 : Cond.fieldLink "FoldedMonths" 213 "FoldedMonths$Pad" "stepsRead" "I" ∈ GW := gt_1 (i := 111) rfl rfl
theorem mw_1_112 : Cond.fieldLink "FoldedMonths$Pad" 34 "FoldedMonths$Pad" "orders" "I" ∈ GW := gt_1 (i := 112) rfl rfl
theorem mw_1_113 : Cond.fieldLink "FoldedMonths" 210 "FoldedMonths$Pad" "orders" "I" ∈ GW := gt_1 (i := 113) rfl rfl
theorem mw_1_114 : Cond.laysFinal "FoldedMonths$Pad" "FoldedMonths$Pad" "signs" "[C" ∈ GW := gt_1 (i := 114) rfl rfl
theorem mw_1_116 : Cond.laysFinal "FoldedMonths$Pad" "FoldedMonths$Pad" "steps" "[LFoldedMonths$Step;" ∈ GW := gt_1 (i := 116) rfl rfl
theorem mw_1_118 : Cond.lays "FoldedMonths$Pad" "FoldedMonths$Pad" "length" "I" ∈ GW := gt_1 (i := 118) rfl rfl
theorem mw_1_120 : Cond.lays "FoldedMonths$Pad" "FoldedMonths$Pad" "place" "I" ∈ GW := gt_1 (i := 120) rfl rfl
theorem mw_1_122 : Cond.lays "FoldedMonths$Pad" "FoldedMonths$Pad" "stepsRead" "I" ∈ GW := gt_1 (i := 122) rfl rfl
theorem mw_1_124 : Cond.lays "FoldedMonths$Pad" "FoldedMonths$Pad" "orders" "I" ∈ GW := gt_1 (i := 124) rfl rfl
theorem mw_1_127 : Cond.fieldLink "FoldedMonths" 12 "FoldedMonths" "diary" "LFoldedMonths$Diary;" ∈ GW := gt_1 (i := 127) rfl rfl
theorem mw_1_128 : Cond.fieldLink "FoldedMonths" 16 "FoldedMonths" "trial" "LFoldedMonths$Diary;" ∈ GW := gt_1 (i := 128) rfl rfl
theorem mw_1_129 : Cond.fieldLink "FoldedMonths" 19 "FoldedMonths" "history" "[LFoldedMonths$Diary;" ∈ GW := gt_1 (i := 129) rfl rfl
theorem mw_1_130 : Cond.fieldLink "FoldedMonths" 23 "FoldedMonths" "slots" "[LFoldedMonths$Diary;" ∈ GW := gt_1 (i := 130) rfl rfl
theorem mw_1_131 : Cond.fieldLink "FoldedMonths" 29 "FoldedMonths" "pad" "LFoldedMonths$Pad;" ∈ GW := gt_1 (i := 131) rfl rfl
theorem mw_1_132 : Cond.fieldLink "FoldedMonths" 186 "FoldedMonths" "historyLength" "I" ∈ GW := gt_1 (i := 132) rfl rfl
theorem mw_1_133 : Cond.fieldLink "FoldedMonths" 246 "FoldedMonths" "savedSlots" "I" ∈ GW := gt_1 (i := 133) rfl rfl
theorem mw_1_134 : Cond.laysFinal "FoldedMonths" "FoldedMonths" "diary" "LFoldedMonths$Diary;" ∈ GW := gt_1 (i := 134) rfl rfl
theorem mw_1_136 : Cond.laysFinal "FoldedMonths" "FoldedMonths" "trial" "LFoldedMonths$Diary;" ∈ GW := gt_1 (i := 136) rfl rfl
theorem mw_1_138 : Cond.laysFinal "FoldedMonths" "FoldedMonths" "history" "[LFoldedMonths$Diary;" ∈ GW := gt_1 (i := 138) rfl rfl
theorem mw_1_140 : Cond.laysFinal "FoldedMonths" "FoldedMonths" "slots" "[LFoldedMonths$Diary;" ∈ GW := gt_1 (i := 140) rfl rfl
theorem mw_1_142 : Cond.laysFinal "FoldedMonths" "FoldedMonths" "pad" "LFoldedMonths$Pad;" ∈ GW := gt_1 (i := 142) rfl rfl
theorem mw_1_144 : Cond.lays "FoldedMonths" "FoldedMonths" "historyLength" "I" ∈ GW := gt_1 (i := 144) rfl rfl
theorem mw_1_146 : Cond.lays "FoldedMonths" "FoldedMonths" "savedSlots" "I" ∈ GW := gt_1 (i := 146) rfl rfl
theorem mw_1_149 : Cond.methodLink "FoldedMonthsLaw" 13 yX3_set ∈ GW := gt_1 (i := 149) rfl rfl
theorem mw_1_150 : Cond.instanceMethod yX3_set ∈ GW := gt_1 (i := 150) rfl rfl
theorem mw_1_151 : Cond.selects "FoldedMonths" yX3_set yX3_set ∈ GW := gt_1 (i := 151) rfl rfl
theorem mw_1_152 : Cond.code yX3_set cX3_set 3 (Option.some FieldType.int) ∈ GW := gt_1 (i := 152) rfl rfl
theorem mw_1_153 : Cond.methodLink "FoldedMonths" 33 yX3_changeKeep ∈ GW := gt_1 (i := 153) rfl rfl
theorem mw_1_155 : Cond.instanceMethod yX3_changeKeep ∈ GW := gt_1 (i := 155) rfl rfl
theorem mw_1_156 : Cond.code yX3_changeKeep cX3_changeKeep 3 (Option.some FieldType.int) ∈ GW := gt_1 (i := 156) rfl rfl
theorem mw_1_157 : Cond.methodLink "FoldedMonths" 44 yX3_record ∈ GW := gt_1 (i := 157) rfl rfl
theorem mw_1_159 : Cond.instanceMethod yX3_record ∈ GW := gt_1 (i := 159) rfl rfl
theorem mw_1_160 : Cond.code yX3_record cX3_record 1 (Option.none : Option FieldType) ∈ GW := gt_1 (i := 160) rfl rfl
theorem mw_1_161 : Cond.methodLink "FoldedMonths" 249 yX3_moveOldestToTheEnd ∈ GW := gt_1 (i := 161) rfl rfl
theorem mw_1_163 : Cond.instanceMethod yX3_moveOldestToTheEnd ∈ GW := gt_1 (i := 163) rfl rfl
theorem mw_1_164 : Cond.code yX3_moveOldestToTheEnd cX3_moveOldestToTheEnd 3 (Option.none : Option FieldType) ∈ GW := gt_1 (i := 164) rfl rfl
theorem mw_1_165 : Cond.methodLink "FoldedMonths" 242 yX3_stateAt ∈ GW := gt_1 (i := 165) rfl rfl
theorem mw_1_166 : Cond.static yX3_stateAt ∈ GW := gt_1 (i := 166) rfl rfl
theorem mw_1_167 : Cond.code yX3_stateAt cX3_stateAt 2 (Option.some (FieldType.object "FoldedMonths$Diary")) ∈ GW := gt_1 (i := 167) rfl rfl
theorem mw_1_168 : Cond.methodLink "FoldedMonths" 195 yX3_copy ∈ GW := gt_1 (i := 168) rfl rfl
theorem mw_1_169 : Cond.static yX3_copy ∈ GW := gt_1 (i := 169) rfl rfl
theorem mw_1_170 : Cond.code yX3_copy cX3_copy 2 (Option.none : Option FieldType) ∈ GW := gt_1 (i := 170) rfl rfl
theorem mw_1_171 : Cond.methodLink "FoldedMonths" 256 yX3_copyNumbers ∈ GW := gt_1 (i := 171) rfl rfl
theorem mw_1_172 : Cond.static yX3_copyNumbers ∈ GW := gt_1 (i := 172) rfl rfl
theorem mw_1_173 : Cond.code yX3_copyNumbers cX3_copyNumbers 2 (Option.none : Option FieldType) ∈ GW := gt_1 (i := 173) rfl rfl
theorem mw_1_174 : Cond.methodLink "FoldedMonths" 269 yJ9_min_7cf53 ∈ GW := gt_1 (i := 174) rfl rfl
theorem mw_1_175 : Cond.static yJ9_min_7cf53 ∈ GW := gt_1 (i := 175) rfl rfl
theorem mw_1_176 : Cond.code yJ9_min_7cf53 cJ9_min_7cf53 2 (Option.some FieldType.int) ∈ GW := gt_1 (i := 176) rfl rfl
theorem mw_1_177 : Cond.methodLink "FoldedMonths" 272 (⟨"java/lang/System", "arraycopy", "(Ljava/lang/Object;ILjava/lang/Object;II)V"⟩ : MethodName) ∈ GW := gt_1 (i := 177) rfl rfl
theorem mw_1_178 : Cond.static (⟨"java/lang/System", "arraycopy", "(Ljava/lang/Object;ILjava/lang/Object;II)V"⟩ : MethodName) ∈ GW := gt_1 (i := 178) rfl rfl
theorem mw_1_179 : Cond.native (⟨"java/lang/System", "arraycopy", "(Ljava/lang/Object;ILjava/lang/Object;II)V"⟩ : MethodName) ∈ GW := gt_1 (i := 179) rfl rfl
theorem mw_1_180 : Cond.methodLink "FoldedMonths" 37 yX3_changeOpen ∈ GW := gt_1 (i := 180) rfl rfl
theorem mw_1_182 : Cond.instanceMethod yX3_changeOpen ∈ GW := gt_1 (i := 182) rfl rfl
theorem mw_1_183 : Cond.code yX3_changeOpen cX3_changeOpen 3 (Option.some FieldType.int) ∈ GW := gt_1 (i := 183) rfl rfl
theorem mw_1_184 : Cond.methodLink "FoldedMonths" 53 yX0_foldSurplus ∈ GW := gt_1 (i := 184) rfl rfl
theorem mw_1_185 : Cond.instanceMethod yX0_foldSurplus ∈ GW := gt_1 (i := 185) rfl rfl
theorem mw_1_186 : Cond.selects "FoldedMonths$Diary" yX0_foldSurplus yX0_foldSurplus ∈ GW := gt_1 (i := 186) rfl rfl
theorem mw_1_187 : Cond.code yX0_foldSurplus cX0_foldSurplus 3 (Option.none : Option FieldType) ∈ GW := gt_1 (i := 187) rfl rfl
theorem mw_1_188 : Cond.methodLink "FoldedMonths$Diary" 114 yX0_fold ∈ GW := gt_1 (i := 188) rfl rfl
theorem mw_1_189 : Cond.instanceMethod yX0_fold ∈ GW := gt_1 (i := 189) rfl rfl
theorem mw_1_190 : Cond.selects "FoldedMonths$Diary" yX0_fold yX0_fold ∈ GW := gt_1 (i := 190) rfl rfl
theorem mw_1_191 : Cond.code yX0_fold cX0_fold 8 (Option.none : Option FieldType) ∈ GW := gt_1 (i := 191) rfl rfl
theorem mw_1_193 : Cond.static yX3_isMonth ∈ GW := gt_1 (i := 193) rfl rfl
theorem mw_1_194 : Cond.code yX3_isMonth cX3_isMonth 1 (Option.some FieldType.boolean) ∈ GW := gt_1 (i := 194) rfl rfl
theorem mw_1_195 : Cond.methodLink "FoldedMonths$Diary" 92 yX0_twinOf ∈ GW := gt_1 (i := 195) rfl rfl
theorem mw_1_196 : Cond.instanceMethod yX0_twinOf ∈ GW := gt_1 (i := 196) rfl rfl
theorem mw_1_197 : Cond.selects "FoldedMonths$Diary" yX0_twinOf yX0_twinOf ∈ GW := gt_1 (i := 197) rfl rfl
theorem mw_1_198 : Cond.code yX0_twinOf cX0_twinOf 6 (Option.some FieldType.int) ∈ GW := gt_1 (i := 198) rfl rfl
theorem mw_1_199 : Cond.methodLink "FoldedMonths$Diary" 89 yX0_hasSameMarks ∈ GW := gt_1 (i := 199) rfl rfl
theorem mw_1_200 : Cond.instanceMethod yX0_hasSameMarks ∈ GW := gt_1 (i := 200) rfl rfl
theorem mw_1_201 : Cond.selects "FoldedMonths$Diary" yX0_hasSameMarks yX0_hasSameMarks ∈ GW := gt_1 (i := 201) rfl rfl
theorem mw_1_202 : Cond.code yX0_hasSameMarks cX0_hasSameMarks 4 (Option.some FieldType.boolean) ∈ GW := gt_1 (i := 202) rfl rfl
theorem mw_1_203 : Cond.methodLink "FoldedMonths$Diary" 35 yX0_bitsOf ∈ GW := gt_1 (i := 203) rfl rfl
theorem mw_1_204 : Cond.instanceMethod yX0_bitsOf ∈ GW := gt_1 (i := 204) rfl rfl
theorem mw_1_205 : Cond.selects "FoldedMonths$Diary" yX0_bitsOf yX0_bitsOf ∈ GW := gt_1 (i := 205) rfl rfl
theorem mw_1_206 : Cond.code yX0_bitsOf cX0_bitsOf 4 (Option.some FieldType.int) ∈ GW := gt_1 (i := 206) rfl rfl
theorem mw_1_207 : Cond.methodLink "FoldedMonths$Diary" 79 yX0_sizeIn ∈ GW := gt_1 (i := 207) rfl rfl
theorem mw_1_208 : Cond.instanceMethod yX0_sizeIn ∈ GW := gt_1 (i := 208) rfl rfl
theorem mw_1_209 : Cond.selects "FoldedMonths$Diary" yX0_sizeIn yX0_sizeIn ∈ GW := gt_1 (i := 209) rfl rfl
theorem mw_1_210 : Cond.code yX0_sizeIn cX0_sizeIn 4 (Option.some FieldType.int) ∈ GW := gt_1 (i := 210) rfl rfl
theorem mw_1_211 : Cond.methodLink "FoldedMonths$Diary" 54 yX0_marksIn ∈ GW := gt_1 (i := 211) rfl rfl
theorem mw_1_212 : Cond.instanceMethod yX0_marksIn ∈ GW := gt_1 (i := 212) rfl rfl
theorem mw_1_213 : Cond.selects "FoldedMonths$Diary" yX0_marksIn yX0_marksIn ∈ GW := gt_1 (i := 213) rfl rfl
theorem mw_1_214 : Cond.code yX0_marksIn cX0_marksIn 4 (Option.some FieldType.int) ∈ GW := gt_1 (i := 214) rfl rfl
theorem mw_1_215 : Cond.methodLink "FoldedMonths$Diary" 46 yJ6_bitCount_0f7a4 ∈ GW := gt_1 (i := 215) rfl rfl
theorem mw_1_216 : Cond.static yJ6_bitCount_0f7a4 ∈ GW := gt_1 (i := 216) rfl rfl
theorem mw_1_217 : Cond.code yJ6_bitCount_0f7a4 cJ6_bitCount_0f7a4 1 (Option.some FieldType.int) ∈ GW := gt_1 (i := 217) rfl rfl
theorem mw_1_218 : Cond.constant "java/lang/Integer" 265 (1431655765 : Int32) ∈ GW := gt_1 (i := 218) rfl rfl
theorem mw_1_219 : Cond.constant "java/lang/Integer" 266 (858993459 : Int32) ∈ GW := gt_1 (i := 219) rfl rfl
theorem mw_1_220 : Cond.constant "java/lang/Integer" 267 (252645135 : Int32) ∈ GW := gt_1 (i := 220) rfl rfl
theorem mw_1_221 : Cond.methodLink "FoldedMonths$Diary" 86 yX0_runsIn ∈ GW := gt_1 (i := 221) rfl rfl
theorem mw_1_222 : Cond.instanceMethod yX0_runsIn ∈ GW := gt_1 (i := 222) rfl rfl
theorem mw_1_223 : Cond.selects "FoldedMonths$Diary" yX0_runsIn yX0_runsIn ∈ GW := gt_1 (i := 223) rfl rfl
theorem mw_1_224 : Cond.code yX0_runsIn cX0_runsIn 5 (Option.some FieldType.int) ∈ GW := gt_1 (i := 224) rfl rfl
theorem mw_1_225 : Cond.methodLink "FoldedMonths$Diary" 107 yX0_leaveRow ∈ GW := gt_1 (i := 225) rfl rfl
theorem mw_1_226 : Cond.instanceMethod yX0_leaveRow ∈ GW := gt_1 (i := 226) rfl rfl
theorem mw_1_227 : Cond.selects "FoldedMonths$Diary" yX0_leaveRow yX0_leaveRow ∈ GW := gt_1 (i := 227) rfl rfl
theorem mw_1_228 : Cond.code yX0_leaveRow cX0_leaveRow 3 (Option.none : Option FieldType) ∈ GW := gt_1 (i := 228) rfl rfl
theorem mw_1_229 : Cond.methodLink "FoldedMonths$Diary" 60 Lib.Math.max.name ∈ GW := gt_1 (i := 229) rfl rfl
theorem mw_1_230 : Cond.static Lib.Math.max.name ∈ GW := gt_1 (i := 230) rfl rfl
theorem mw_1_231 : Cond.code Lib.Math.max.name cJ9_max_7cf53 2 (Option.some FieldType.int) ∈ GW := gt_1 (i := 231) rfl rfl
theorem mw_1_232 : Cond.methodLink "FoldedMonthsLaw" 18 yX3_pass ∈ GW := gt_1 (i := 232) rfl rfl
theorem mw_1_233 : Cond.instanceMethod yX3_pass ∈ GW := gt_1 (i := 233) rfl rfl
theorem mw_1_234 : Cond.selects "FoldedMonths" yX3_pass yX3_pass ∈ GW := gt_1 (i := 234) rfl rfl
theorem mw_1_235 : Cond.code yX3_pass cX3_pass 3 (Option.some FieldType.int) ∈ GW := gt_1 (i := 235) rfl rfl
theorem mw_1_236 : Cond.methodLink "FoldedMonths" 56 yX3_passError ∈ GW := gt_1 (i := 236) rfl rfl
theorem mw_1_238 : Cond.instanceMethod yX3_passError ∈ GW := gt_1 (i := 238) rfl rfl
theorem mw_1_239 : Cond.code yX3_passError cX3_passError 2 (Option.some FieldType.int) ∈ GW := gt_1 (i := 239) rfl rfl
theorem mw_2_0 : Cond.methodLink "FoldedMonths" 59 yX0_advance ∈ GW := gt_2 (i := 0) rfl rfl
theorem mw_2_1 : Cond.instanceMethod yX0_advance ∈ GW := gt_2 (i := 1) rfl rfl
theorem mw_2_2 : Cond.selects "FoldedMonths$Diary" yX0_advance yX0_advance ∈ GW := gt_2 (i := 2) rfl rfl
theorem mw_2_3 : Cond.code yX0_advance cX0_advance 5 (Option.some FieldType.int) ∈ GW := gt_2 (i := 3) rfl rfl
theorem mw_2_4 : Cond.methodLink "FoldedMonths$Diary" 65 yX0_oldMonths ∈ GW := gt_2 (i := 4) rfl rfl
theorem mw_2_5 : Cond.instanceMethod yX0_oldMonths ∈ GW := gt_2 (i := 5) rfl rfl
theorem mw_2_6 : Cond.selects "FoldedMonths$Diary" yX0_oldMonths yX0_oldMonths ∈ GW := gt_2 (i := 6) rfl rfl
theorem mw_2_7 : Cond.code yX0_oldMonths cX0_oldMonths 1 (Option.some FieldType.int) ∈ GW := gt_2 (i := 7) rfl rfl
theorem mw_2_9 : Cond.static yX3_monthOf ∈ GW := gt_2 (i := 9) rfl rfl
theorem mw_2_10 : Cond.code yX3_monthOf cX3_monthOf 4 (Option.some FieldType.int) ∈ GW := gt_2 (i := 10) rfl rfl
theorem mw_2_11 : Cond.methodLink "FoldedMonths" 278 yX3_startInYear ∈ GW := gt_2 (i := 11) rfl rfl
theorem mw_2_12 : Cond.static yX3_startInYear ∈ GW := gt_2 (i := 12) rfl rfl
theorem mw_2_13 : Cond.code yX3_startInYear cX3_startInYear 1 (Option.some FieldType.int) ∈ GW := gt_2 (i := 13) rfl rfl
theorem mw_2_14 : Cond.fieldLink "FoldedMonths" 281 "FoldedMonths" "MONTH_STARTS" "[I" ∈ GW := gt_2 (i := 14) rfl rfl
theorem mw_2_16 : Cond.methodLink "FoldedMonthsLaw" 23 yX3_mark ∈ GW := gt_2 (i := 16) rfl rfl
theorem mw_2_17 : Cond.instanceMethod yX3_mark ∈ GW := gt_2 (i := 17) rfl rfl
theorem mw_2_18 : Cond.selects "FoldedMonths" yX3_mark yX3_mark ∈ GW := gt_2 (i := 18) rfl rfl
theorem mw_2_19 : Cond.code yX3_mark cX3_mark 4 (Option.some FieldType.int) ∈ GW := gt_2 (i := 19) rfl rfl
theorem mw_2_20 : Cond.methodLink "FoldedMonths" 62 yX3_changeDays ∈ GW := gt_2 (i := 20) rfl rfl
theorem mw_2_22 : Cond.instanceMethod yX3_changeDays ∈ GW := gt_2 (i := 22) rfl rfl
theorem mw_2_23 : Cond.code yX3_changeDays cX3_changeDays 6 (Option.some FieldType.int) ∈ GW := gt_2 (i := 23) rfl rfl
theorem mw_2_24 : Cond.methodLink "FoldedMonths" 66 yX3_changeError ∈ GW := gt_2 (i := 24) rfl rfl
theorem mw_2_26 : Cond.instanceMethod yX3_changeError ∈ GW := gt_2 (i := 26) rfl rfl
theorem mw_2_27 : Cond.code yX3_changeError cX3_changeError 5 (Option.some FieldType.int) ∈ GW := gt_2 (i := 27) rfl rfl
theorem mw_2_28 : Cond.methodLink "FoldedMonths" 73 yX3_subjectSpanError ∈ GW := gt_2 (i := 28) rfl rfl
theorem mw_2_29 : Cond.static yX3_subjectSpanError ∈ GW := gt_2 (i := 29) rfl rfl
theorem mw_2_30 : Cond.code yX3_subjectSpanError cX3_subjectSpanError 3 (Option.some FieldType.int) ∈ GW := gt_2 (i := 30) rfl rfl
theorem mw_2_31 : Cond.methodLink "FoldedMonths" 98 yX3_isSubject ∈ GW := gt_2 (i := 31) rfl rfl
theorem mw_2_32 : Cond.static yX3_isSubject ∈ GW := gt_2 (i := 32) rfl rfl
theorem mw_2_33 : Cond.code yX3_isSubject cX3_isSubject 1 (Option.some FieldType.boolean) ∈ GW := gt_2 (i := 33) rfl rfl
theorem mw_2_34 : Cond.methodLink "FoldedMonths" 116 yX3_spanError ∈ GW := gt_2 (i := 34) rfl rfl
theorem mw_2_35 : Cond.static yX3_spanError ∈ GW := gt_2 (i := 35) rfl rfl
theorem mw_2_36 : Cond.code yX3_spanError cX3_spanError 2 (Option.some FieldType.int) ∈ GW := gt_2 (i := 36) rfl rfl
theorem mw_2_37 : Cond.methodLink "FoldedMonths" 102 yX3_isDay ∈ GW := gt_2 (i := 37) rfl rfl
theorem mw_2_38 : Cond.static yX3_isDay ∈ GW := gt_2 (i := 38) rfl rfl
theorem mw_2_39 : Cond.code yX3_isDay cX3_isDay 1 (Option.some FieldType.boolean) ∈ GW := gt_2 (i := 39) rfl rfl
theorem mw_2_40 : Cond.methodLink "FoldedMonths" 70 yX0_writeDays ∈ GW := gt_2 (i := 40) rfl rfl
theorem mw_2_41 : Cond.instanceMethod yX0_writeDays ∈ GW := gt_2 (i := 41) rfl rfl
theorem mw_2_42 : Cond.selects "FoldedMonths$Diary" yX0_writeDays yX0_writeDays ∈ GW := gt_2 (i := 42) rfl rfl
theorem mw_2_43 : Cond.code yX0_writeDays cX0_writeDays 10 (Option.some FieldType.int) ∈ GW := gt_2 (i := 43) rfl rfl
theorem mw_2_45 : Cond.static yX3_daysMeant ∈ GW := gt_2 (i := 45) rfl rfl
theorem mw_2_46 : Cond.code yX3_daysMeant cX3_daysMeant 6 (Option.some FieldType.int) ∈ GW := gt_2 (i := 46) rfl rfl
theorem mw_2_47 : Cond.methodLink "FoldedMonths" 105 yX3_firstDayOf ∈ GW := gt_2 (i := 47) rfl rfl
theorem mw_2_48 : Cond.static yX3_firstDayOf ∈ GW := gt_2 (i := 48) rfl rfl
theorem mw_2_49 : Cond.code yX3_firstDayOf cX3_firstDayOf 1 (Option.some FieldType.int) ∈ GW := gt_2 (i := 49) rfl rfl
theorem mw_2_50 : Cond.methodLink "FoldedMonths" 132 Lib.Math.max.name ∈ GW := gt_2 (i := 50) rfl rfl
theorem mw_2_51 : Cond.methodLink "FoldedMonths" 129 yX3_daysOf ∈ GW := gt_2 (i := 51) rfl rfl
theorem mw_2_52 : Cond.static yX3_daysOf ∈ GW := gt_2 (i := 52) rfl rfl
theorem mw_2_53 : Cond.code yX3_daysOf cX3_daysOf 2 (Option.some FieldType.int) ∈ GW := gt_2 (i := 53) rfl rfl
theorem mw_2_54 : Cond.methodLink "FoldedMonths" 284 yX3_lowestBits ∈ GW := gt_2 (i := 54) rfl rfl
theorem mw_2_55 : Cond.static yX3_lowestBits ∈ GW := gt_2 (i := 55) rfl rfl
theorem mw_2_56 : Cond.code yX3_lowestBits cX3_lowestBits 1 (Option.some FieldType.int) ∈ GW := gt_2 (i := 56) rfl rfl
theorem mw_2_57 : Cond.methodLink "FoldedMonths$Diary" 118 yX0_isOld ∈ GW := gt_2 (i := 57) rfl rfl
theorem mw_2_58 : Cond.instanceMethod yX0_isOld ∈ GW := gt_2 (i := 58) rfl rfl
theorem mw_2_59 : Cond.selects "FoldedMonths$Diary" yX0_isOld yX0_isOld ∈ GW := gt_2 (i := 59) rfl rfl
theorem mw_2_60 : Cond.code yX0_isOld cX0_isOld 2 (Option.some FieldType.boolean) ∈ GW := gt_2 (i := 60) rfl rfl
theorem mw_2_61 : Cond.methodLink "FoldedMonths$Diary" 133 yX0_foldNamersOf ∈ GW := gt_2 (i := 61) rfl rfl
theorem mw_2_62 : Cond.instanceMethod yX0_foldNamersOf ∈ GW := gt_2 (i := 62) rfl rfl
theorem mw_2_63 : Cond.selects "FoldedMonths$Diary" yX0_foldNamersOf yX0_foldNamersOf ∈ GW := gt_2 (i := 63) rfl rfl
theorem mw_2_64 : Cond.code yX0_foldNamersOf cX0_foldNamersOf 3 (Option.none : Option FieldType) ∈ GW := gt_2 (i := 64) rfl rfl
theorem mw_2_65 : Cond.methodLink "FoldedMonths$Diary" 76 yX0_namedBy ∈ GW := gt_2 (i := 65) rfl rfl
theorem mw_2_66 : Cond.instanceMethod yX0_namedBy ∈ GW := gt_2 (i := 66) rfl rfl
theorem mw_2_67 : Cond.selects "FoldedMonths$Diary" yX0_namedBy yX0_namedBy ∈ GW := gt_2 (i := 67) rfl rfl
theorem mw_2_68 : Cond.code yX0_namedBy cX0_namedBy 2 (Option.some FieldType.int) ∈ GW := gt_2 (i := 68) rfl rfl
theorem mw_2_69 : Cond.methodLink "FoldedMonths$Diary" 121 yX0_bringToTheEnd ∈ GW := gt_2 (i := 69) rfl rfl
theorem mw_2_70 : Cond.instanceMethod yX0_bringToTheEnd ∈ GW := gt_2 (i := 70) rfl rfl
theorem mw_2_71 : Cond.selects "FoldedMonths$Diary" yX0_bringToTheEnd yX0_bringToTheEnd ∈ GW := gt_2 (i := 71) rfl rfl
theorem mw_2_72 : Cond.code yX0_bringToTheEnd cX0_bringToTheEnd 3 (Option.none : Option FieldType) ∈ GW := gt_2 (i := 72) rfl rfl
theorem mw_2_73 : Cond.methodLink "FoldedMonths$Diary" 104 yX0_placeInRow ∈ GW := gt_2 (i := 73) rfl rfl
theorem mw_2_74 : Cond.instanceMethod yX0_placeInRow ∈ GW := gt_2 (i := 74) rfl rfl
theorem mw_2_75 : Cond.selects "FoldedMonths$Diary" yX0_placeInRow yX0_placeInRow ∈ GW := gt_2 (i := 75) rfl rfl
theorem mw_2_76 : Cond.code yX0_placeInRow cX0_placeInRow 3 (Option.some FieldType.int) ∈ GW := gt_2 (i := 76) rfl rfl
theorem mw_2_77 : Cond.methodLink "FoldedMonths$Diary" 83 yX0_sizeOf ∈ GW := gt_2 (i := 77) rfl rfl
theorem mw_2_78 : Cond.instanceMethod yX0_sizeOf ∈ GW := gt_2 (i := 78) rfl rfl
theorem mw_2_79 : Cond.selects "FoldedMonths$Diary" yX0_sizeOf yX0_sizeOf ∈ GW := gt_2 (i := 79) rfl rfl
theorem mw_2_80 : Cond.code yX0_sizeOf cX0_sizeOf 2 (Option.some FieldType.int) ∈ GW := gt_2 (i := 80) rfl rfl
theorem mw_2_81 : Cond.methodLink "FoldedMonths$Diary" 73 yX0_formOf ∈ GW := gt_2 (i := 81) rfl rfl
theorem mw_2_82 : Cond.instanceMethod yX0_formOf ∈ GW := gt_2 (i := 82) rfl rfl
theorem mw_2_83 : Cond.selects "FoldedMonths$Diary" yX0_formOf yX0_formOf ∈ GW := gt_2 (i := 83) rfl rfl
theorem mw_2_84 : Cond.code yX0_formOf cX0_formOf 2 (Option.some FieldType.int) ∈ GW := gt_2 (i := 84) rfl rfl
theorem mw_2_85 : Cond.methodLink "FoldedMonths$Diary" 136 yX0_writeBits ∈ GW := gt_2 (i := 85) rfl rfl
theorem mw_2_86 : Cond.instanceMethod yX0_writeBits ∈ GW := gt_2 (i := 86) rfl rfl
theorem mw_2_87 : Cond.selects "FoldedMonths$Diary" yX0_writeBits yX0_writeBits ∈ GW := gt_2 (i := 87) rfl rfl
theorem mw_2_88 : Cond.code yX0_writeBits cX0_writeBits 5 (Option.none : Option FieldType) ∈ GW := gt_2 (i := 88) rfl rfl
theorem mw_2_89 : Cond.methodLink "FoldedMonths$Diary" 124 yX0_foldSurplus ∈ GW := gt_2 (i := 89) rfl rfl
theorem mw_2_90 : Cond.methodLink "FoldedMonthsLaw" 28 yX3_clear ∈ GW := gt_2 (i := 90) rfl rfl
theorem mw_2_91 : Cond.instanceMethod yX3_clear ∈ GW := gt_2 (i := 91) rfl rfl
theorem mw_2_92 : Cond.selects "FoldedMonths" yX3_clear yX3_clear ∈ GW := gt_2 (i := 92) rfl rfl
theorem mw_2_93 : Cond.code yX3_clear cX3_clear 4 (Option.some FieldType.int) ∈ GW := gt_2 (i := 93) rfl rfl
theorem mw_2_94 : Cond.methodLink "FoldedMonthsLaw" 32 yX3_marks ∈ GW := gt_2 (i := 94) rfl rfl
theorem mw_2_95 : Cond.instanceMethod yX3_marks ∈ GW := gt_2 (i := 95) rfl rfl
theorem mw_2_96 : Cond.selects "FoldedMonths" yX3_marks yX3_marks ∈ GW := gt_2 (i := 96) rfl rfl
theorem mw_2_97 : Cond.code yX3_marks cX3_marks 9 (Option.some FieldType.int) ∈ GW := gt_2 (i := 97) rfl rfl
theorem mw_2_98 : Cond.methodLink "FoldedMonths" 76 yX3_monthOf ∈ GW := gt_2 (i := 98) rfl rfl
theorem mw_2_99 : Cond.methodLink "FoldedMonths" 79 yX3_daysMeant ∈ GW := gt_2 (i := 99) rfl rfl
theorem mw_2_100 : Cond.methodLink "FoldedMonths" 82 yX3_allDays ∈ GW := gt_2 (i := 100) rfl rfl
theorem mw_2_101 : Cond.static yX3_allDays ∈ GW := gt_2 (i := 101) rfl rfl
theorem mw_2_102 : Cond.code yX3_allDays cX3_allDays 1 (Option.some FieldType.int) ∈ GW := gt_2 (i := 102) rfl rfl
theorem mw_2_103 : Cond.methodLink "FoldedMonths" 85 yX0_lookAt ∈ GW := gt_2 (i := 103) rfl rfl
theorem mw_2_104 : Cond.instanceMethod yX0_lookAt ∈ GW := gt_2 (i := 104) rfl rfl
theorem mw_2_105 : Cond.selects "FoldedMonths$Diary" yX0_lookAt yX0_lookAt ∈ GW := gt_2 (i := 105) rfl rfl
theorem mw_2_106 : Cond.code yX0_lookAt cX0_lookAt 2 (Option.none : Option FieldType) ∈ GW := gt_2 (i := 106) rfl rfl
theorem mw_2_107 : Cond.methodLink "FoldedMonths" 89 yX0_bitsOf ∈ GW := gt_2 (i := 107) rfl rfl
theorem mw_2_108 : Cond.methodLink "FoldedMonths" 93 yJ6_bitCount_0f7a4 ∈ GW := gt_2 (i := 108) rfl rfl
theorem mw_2_109 : Cond.methodLink "FoldedMonthsLaw" 36 yX3_isMarked ∈ GW := gt_2 (i := 109) rfl rfl
theorem mw_2_110 : Cond.instanceMethod yX3_isMarked ∈ GW := gt_2 (i := 110) rfl rfl
theorem mw_2_111 : Cond.selects "FoldedMonths" yX3_isMarked yX3_isMarked ∈ GW := gt_2 (i := 111) rfl rfl
theorem mw_2_112 : Cond.code yX3_isMarked cX3_isMarked 4 (Option.some FieldType.int) ∈ GW := gt_2 (i := 112) rfl rfl
theorem mw_2_113 : Cond.methodLink "FoldedMonths" 108 yX3_isBitSet ∈ GW := gt_2 (i := 113) rfl rfl
theorem mw_2_114 : Cond.static yX3_isBitSet ∈ GW := gt_2 (i := 114) rfl rfl
theorem mw_2_115 : Cond.code yX3_isBitSet cX3_isBitSet 2 (Option.some FieldType.boolean) ∈ GW := gt_2 (i := 115) rfl rfl
theorem mw_2_116 : Cond.methodLink "FoldedMonthsLaw" 40 yX3_both ∈ GW := gt_2 (i := 116) rfl rfl
theorem mw_2_117 : Cond.instanceMethod yX3_both ∈ GW := gt_2 (i := 117) rfl rfl
theorem mw_2_118 : Cond.selects "FoldedMonths" yX3_both yX3_both ∈ GW := gt_2 (i := 118) rfl rfl
theorem mw_2_119 : Cond.code yX3_both cX3_both 10 (Option.some FieldType.int) ∈ GW := gt_2 (i := 119) rfl rfl
theorem mw_2_120 : Cond.methodLink "FoldedMonths" 112 yX0_lookAtMonths ∈ GW := gt_2 (i := 120) rfl rfl
theorem mw_2_121 : Cond.instanceMethod yX0_lookAtMonths ∈ GW := gt_2 (i := 121) rfl rfl
theorem mw_2_122 : Cond.selects "FoldedMonths$Diary" yX0_lookAtMonths yX0_lookAtMonths ∈ GW := gt_2 (i := 122) rfl rfl
theorem mw_2_123 : Cond.code yX0_lookAtMonths cX0_lookAtMonths 5 (Option.none : Option FieldType) ∈ GW := gt_2 (i := 123) rfl rfl
theorem mw_2_124 : Cond.methodLink "FoldedMonths$Diary" 127 yX0_lookAt ∈ GW := gt_2 (i := 124) rfl rfl
theorem mw_2_125 : Cond.methodLink "FoldedMonthsLaw" 45 yX3_crowded ∈ GW := gt_2 (i := 125) rfl rfl
theorem mw_2_126 : Cond.instanceMethod yX3_crowded ∈ GW := gt_2 (i := 126) rfl rfl
theorem mw_2_127 : Cond.selects "FoldedMonths" yX3_crowded yX3_crowded ∈ GW := gt_2 (i := 127) rfl rfl
theorem mw_2_128 : Cond.code yX3_crowded cX3_crowded 8 (Option.some FieldType.int) ∈ GW := gt_2 (i := 128) rfl rfl
theorem mw_2_129 : Cond.methodLink "FoldedMonths" 119 yX0_crowdedDays ∈ GW := gt_2 (i := 129) rfl rfl
theorem mw_2_130 : Cond.instanceMethod yX0_crowdedDays ∈ GW := gt_2 (i := 130) rfl rfl
theorem mw_2_131 : Cond.selects "FoldedMonths$Diary" yX0_crowdedDays yX0_crowdedDays ∈ GW := gt_2 (i := 131) rfl rfl
theorem mw_2_132 : Cond.code yX0_crowdedDays cX0_crowdedDays 6 (Option.some FieldType.int) ∈ GW := gt_2 (i := 132) rfl rfl
theorem mw_2_134 : Cond.methodLink "FoldedMonths$Diary" 51 yX0_subjectsOn ∈ GW := gt_2 (i := 134) rfl rfl
theorem mw_2_135 : Cond.instanceMethod yX0_subjectsOn ∈ GW := gt_2 (i := 135) rfl rfl
theorem mw_2_136 : Cond.selects "FoldedMonths$Diary" yX0_subjectsOn yX0_subjectsOn ∈ GW := gt_2 (i := 136) rfl rfl
theorem mw_2_137 : Cond.code yX0_subjectsOn cX0_subjectsOn 5 (Option.some FieldType.int) ∈ GW := gt_2 (i := 137) rfl rfl
theorem mw_2_138 : Cond.methodLink "FoldedMonthsLaw" 49 yX3_longest ∈ GW := gt_2 (i := 138) rfl rfl
theorem mw_2_139 : Cond.instanceMethod yX3_longest ∈ GW := gt_2 (i := 139) rfl rfl
theorem mw_2_140 : Cond.selects "FoldedMonths" yX3_longest yX3_longest ∈ GW := gt_2 (i := 140) rfl rfl
theorem mw_2_141 : Cond.code yX3_longest cX3_longest 10 (Option.some FieldType.int) ∈ GW := gt_2 (i := 141) rfl rfl
theorem mw_2_142 : Cond.methodLink "FoldedMonths" 122 yX0_lookAtMarkedMonths ∈ GW := gt_2 (i := 142) rfl rfl
theorem mw_2_143 : Cond.instanceMethod yX0_lookAtMarkedMonths ∈ GW := gt_2 (i := 143) rfl rfl
theorem mw_2_144 : Cond.selects "FoldedMonths$Diary" yX0_lookAtMarkedMonths yX0_lookAtMarkedMonths ∈ GW := gt_2 (i := 144) rfl rfl
theorem mw_2_145 : Cond.code yX0_lookAtMarkedMonths cX0_lookAtMarkedMonths 6 (Option.none : Option FieldType) ∈ GW := gt_2 (i := 145) rfl rfl
theorem mw_2_146 : Cond.methodLink "FoldedMonths" 126 yX0_isMarkedOn ∈ GW := gt_2 (i := 146) rfl rfl
theorem mw_2_147 : Cond.instanceMethod yX0_isMarkedOn ∈ GW := gt_2 (i := 147) rfl rfl
theorem mw_2_148 : Cond.selects "FoldedMonths$Diary" yX0_isMarkedOn yX0_isMarkedOn ∈ GW := gt_2 (i := 148) rfl rfl
theorem mw_2_149 : Cond.code yX0_isMarkedOn cX0_isMarkedOn 4 (Option.some FieldType.boolean) ∈ GW := gt_2 (i := 149) rfl rfl
theorem mw_2_151 : Cond.methodLink "FoldedMonthsLaw" 53 yX3_nextMark ∈ GW := gt_2 (i := 151) rfl rfl
theorem mw_2_152 : Cond.instanceMethod yX3_nextMark ∈ GW := gt_2 (i := 152) rfl rfl
theorem mw_2_153 : Cond.selects "FoldedMonths" yX3_nextMark yX3_nextMark ∈ GW := gt_2 (i := 153) rfl rfl
theorem mw_2_154 : Cond.code yX3_nextMark cX3_nextMark 6 (Option.some FieldType.int) ∈ GW := gt_2 (i := 154) rfl rfl
theorem mw_2_155 : Cond.methodLink "FoldedMonthsLaw" 57 yX3_ofMonth ∈ GW := gt_2 (i := 155) rfl rfl
theorem mw_2_156 : Cond.instanceMethod yX3_ofMonth ∈ GW := gt_2 (i := 156) rfl rfl
theorem mw_2_157 : Cond.selects "FoldedMonths" yX3_ofMonth yX3_ofMonth ∈ GW := gt_2 (i := 157) rfl rfl
theorem mw_2_158 : Cond.code yX3_ofMonth cX3_ofMonth 3 (Option.some FieldType.int) ∈ GW := gt_2 (i := 158) rfl rfl
theorem mw_2_159 : Cond.methodLink "FoldedMonths" 137 yX3_isMonth ∈ GW := gt_2 (i := 159) rfl rfl
theorem mw_2_160 : Cond.methodLink "FoldedMonths" 140 yX0_isOld ∈ GW := gt_2 (i := 160) rfl rfl
theorem mw_2_161 : Cond.methodLink "FoldedMonths" 143 yX0_placeInRow ∈ GW := gt_2 (i := 161) rfl rfl
theorem mw_2_162 : Cond.methodLink "FoldedMonths" 146 yX0_formOf ∈ GW := gt_2 (i := 162) rfl rfl
theorem mw_2_163 : Cond.methodLink "FoldedMonths" 149 yX0_sizeOf ∈ GW := gt_2 (i := 163) rfl rfl
theorem mw_2_164 : Cond.methodLink "FoldedMonths" 152 yX0_namedBy ∈ GW := gt_2 (i := 164) rfl rfl
theorem mw_2_165 : Cond.methodLink "FoldedMonths" 155 yX0_marksIn ∈ GW := gt_2 (i := 165) rfl rfl
theorem mw_2_166 : Cond.methodLink "FoldedMonths" 158 yX0_subjectsIn ∈ GW := gt_2 (i := 166) rfl rfl
theorem mw_2_167 : Cond.instanceMethod yX0_subjectsIn ∈ GW := gt_2 (i := 167) rfl rfl
theorem mw_2_168 : Cond.selects "FoldedMonths$Diary" yX0_subjectsIn yX0_subjectsIn ∈ GW := gt_2 (i := 168) rfl rfl
theorem mw_2_169 : Cond.code yX0_subjectsIn cX0_subjectsIn 4 (Option.some FieldType.int) ∈ GW := gt_2 (i := 169) rfl rfl
theorem mw_2_170 : Cond.methodLink "FoldedMonthsLaw" 61 yX3_inMonth ∈ GW := gt_2 (i := 170) rfl rfl
theorem mw_2_171 : Cond.instanceMethod yX3_inMonth ∈ GW := gt_2 (i := 171) rfl rfl
theorem mw_2_172 : Cond.selects "FoldedMonths" yX3_inMonth yX3_inMonth ∈ GW := gt_2 (i := 172) rfl rfl
theorem mw_2_173 : Cond.code yX3_inMonth cX3_inMonth 3 (Option.some FieldType.int) ∈ GW := gt_2 (i := 173) rfl rfl
theorem mw_2_174 : Cond.methodLink "FoldedMonthsLaw" 65 yX3_dayOf ∈ GW := gt_2 (i := 174) rfl rfl
theorem mw_2_175 : Cond.instanceMethod yX3_dayOf ∈ GW := gt_2 (i := 175) rfl rfl
theorem mw_2_176 : Cond.selects "FoldedMonths" yX3_dayOf yX3_dayOf ∈ GW := gt_2 (i := 176) rfl rfl
theorem mw_2_177 : Cond.code yX3_dayOf cX3_dayOf 5 (Option.some FieldType.int) ∈ GW := gt_2 (i := 177) rfl rfl
theorem mw_2_178 : Cond.methodLink "FoldedMonthsLaw" 69 yX3_dateOf ∈ GW := gt_2 (i := 178) rfl rfl
theorem mw_2_179 : Cond.instanceMethod yX3_dateOf ∈ GW := gt_2 (i := 179) rfl rfl
theorem mw_2_180 : Cond.selects "FoldedMonths" yX3_dateOf yX3_dateOf ∈ GW := gt_2 (i := 180) rfl rfl
theorem mw_2_181 : Cond.code yX3_dateOf cX3_dateOf 4 (Option.some FieldType.int) ∈ GW := gt_2 (i := 181) rfl rfl
theorem mw_2_182 : Cond.methodLink "FoldedMonthsLaw" 73 yX3_count ∈ GW := gt_2 (i := 182) rfl rfl
theorem mw_2_183 : Cond.instanceMethod yX3_count ∈ GW := gt_2 (i := 183) rfl rfl
theorem mw_2_184 : Cond.selects "FoldedMonths" yX3_count yX3_count ∈ GW := gt_2 (i := 184) rfl rfl
theorem mw_2_185 : Cond.code yX3_count cX3_count 2 (Option.some FieldType.int) ∈ GW := gt_2 (i := 185) rfl rfl
theorem mw_2_186 : Cond.methodLink "FoldedMonths" 161 yX0_oldMonths ∈ GW := gt_2 (i := 186) rfl rfl
theorem mw_2_187 : Cond.methodLink "FoldedMonths" 168 yX0_allSizes ∈ GW := gt_2 (i := 187) rfl rfl
theorem mw_2_188 : Cond.instanceMethod yX0_allSizes ∈ GW := gt_2 (i := 188) rfl rfl
theorem mw_2_189 : Cond.selects "FoldedMonths$Diary" yX0_allSizes yX0_allSizes ∈ GW := gt_2 (i := 189) rfl rfl
theorem mw_2_190 : Cond.code yX0_allSizes cX0_allSizes 4 (Option.some FieldType.int) ∈ GW := gt_2 (i := 190) rfl rfl
theorem mw_2_191 : Cond.methodLink "FoldedMonths" 180 yX0_allMarks ∈ GW := gt_2 (i := 191) rfl rfl
theorem mw_2_192 : Cond.instanceMethod yX0_allMarks ∈ GW := gt_2 (i := 192) rfl rfl
theorem mw_2_193 : Cond.selects "FoldedMonths$Diary" yX0_allMarks yX0_allMarks ∈ GW := gt_2 (i := 193) rfl rfl
theorem mw_2_194 : Cond.code yX0_allMarks cX0_allMarks 3 (Option.some FieldType.int) ∈ GW := gt_2 (i := 194) rfl rfl
theorem mw_2_195 : Cond.methodLink "FoldedMonthsLaw" 77 yX3_sizeAs ∈ GW := gt_2 (i := 195) rfl rfl
theorem mw_2_196 : Cond.instanceMethod yX3_sizeAs ∈ GW := gt_2 (i := 196) rfl rfl
theorem mw_2_197 : Cond.selects "FoldedMonths" yX3_sizeAs yX3_sizeAs ∈ GW := gt_2 (i := 197) rfl rfl
theorem mw_2_198 : Cond.code yX3_sizeAs cX3_sizeAs 3 (Option.some FieldType.int) ∈ GW := gt_2 (i := 198) rfl rfl
theorem mw_2_199 : Cond.methodLink "FoldedMonths" 189 yX0_twinOf ∈ GW := gt_2 (i := 199) rfl rfl
theorem mw_2_200 : Cond.methodLink "FoldedMonths" 192 yX0_sizeIn ∈ GW := gt_2 (i := 200) rfl rfl
theorem mw_2_201 : Cond.methodLink "FoldedMonthsLaw" 81 yX3_workOf ∈ GW := gt_2 (i := 201) rfl rfl
theorem mw_2_202 : Cond.instanceMethod yX3_workOf ∈ GW := gt_2 (i := 202) rfl rfl
theorem mw_2_203 : Cond.selects "FoldedMonths" yX3_workOf yX3_workOf ∈ GW := gt_2 (i := 203) rfl rfl
theorem mw_2_204 : Cond.code yX3_workOf cX3_workOf 4 (Option.some FieldType.int) ∈ GW := gt_2 (i := 204) rfl rfl
theorem mw_2_205 : Cond.methodLink "FoldedMonthsLaw" 85 yX3_bestOpen ∈ GW := gt_2 (i := 205) rfl rfl
theorem mw_2_206 : Cond.instanceMethod yX3_bestOpen ∈ GW := gt_2 (i := 206) rfl rfl
theorem mw_2_207 : Cond.selects "FoldedMonths" yX3_bestOpen yX3_bestOpen ∈ GW := gt_2 (i := 207) rfl rfl
theorem mw_2_208 : Cond.code yX3_bestOpen cX3_bestOpen 8 (Option.some FieldType.int) ∈ GW := gt_2 (i := 208) rfl rfl
theorem mw_2_209 : Cond.methodLink "FoldedMonthsLaw" 91 yX3_put ∈ GW := gt_2 (i := 209) rfl rfl
theorem mw_2_210 : Cond.instanceMethod yX3_put ∈ GW := gt_2 (i := 210) rfl rfl
theorem mw_2_211 : Cond.selects "FoldedMonths" yX3_put yX3_put ∈ GW := gt_2 (i := 211) rfl rfl
theorem mw_2_212 : Cond.code yX3_put cX3_put 4 (Option.some FieldType.int) ∈ GW := gt_2 (i := 212) rfl rfl
theorem mw_2_213 : Cond.methodLink "FoldedMonths" 199 yX3_charactersIn ∈ GW := gt_2 (i := 213) rfl rfl
theorem mw_2_214 : Cond.static yX3_charactersIn ∈ GW := gt_2 (i := 214) rfl rfl
theorem mw_2_215 : Cond.code yX3_charactersIn cX3_charactersIn 6 (Option.some FieldType.int) ∈ GW := gt_2 (i := 215) rfl rfl
theorem mw_2_216 : Cond.constantLong "FoldedMonths" 287 (255 : Int64) ∈ GW := gt_2 (i := 216) rfl rfl
theorem mw_2_217 : Cond.methodLink "FoldedMonths" 203 yX1_append ∈ GW := gt_2 (i := 217) rfl rfl
theorem mw_2_218 : Cond.instanceMethod yX1_append ∈ GW := gt_2 (i := 218) rfl rfl
theorem mw_2_219 : Cond.selects "FoldedMonths$Pad" yX1_append yX1_append ∈ GW := gt_2 (i := 219) rfl rfl
theorem mw_2_220 : Cond.code yX1_append cX1_append 5 (Option.none : Option FieldType) ∈ GW := gt_2 (i := 220) rfl rfl
theorem mw_2_221 : Cond.constantLong "FoldedMonths$Pad" 26 (255 : Int64) ∈ GW := gt_2 (i := 221) rfl rfl
theorem mw_2_222 : Cond.methodLink "FoldedMonthsLaw" 96 yX3_wipe ∈ GW := gt_2 (i := 222) rfl rfl
theorem mw_2_223 : Cond.instanceMethod yX3_wipe ∈ GW := gt_2 (i := 223) rfl rfl
theorem mw_2_224 : Cond.selects "FoldedMonths" yX3_wipe yX3_wipe ∈ GW := gt_2 (i := 224) rfl rfl
theorem mw_2_225 : Cond.code yX3_wipe cX3_wipe 2 (Option.some FieldType.int) ∈ GW := gt_2 (i := 225) rfl rfl
theorem mw_2_226 : Cond.methodLink "FoldedMonthsLaw" 101 yX3_fault ∈ GW := gt_2 (i := 226) rfl rfl
theorem mw_2_227 : Cond.instanceMethod yX3_fault ∈ GW := gt_2 (i := 227) rfl rfl
theorem mw_2_228 : Cond.selects "FoldedMonths" yX3_fault yX3_fault ∈ GW := gt_2 (i := 228) rfl rfl
theorem mw_2_229 : Cond.code yX3_fault cX3_fault 1 (Option.some FieldType.int) ∈ GW := gt_2 (i := 229) rfl rfl
theorem mw_2_230 : Cond.methodLink "FoldedMonths" 207 yX1_readAll ∈ GW := gt_2 (i := 230) rfl rfl
theorem mw_2_231 : Cond.instanceMethod yX1_readAll ∈ GW := gt_2 (i := 231) rfl rfl
theorem mw_2_232 : Cond.selects "FoldedMonths$Pad" yX1_readAll yX1_readAll ∈ GW := gt_2 (i := 232) rfl rfl
theorem mw_2_233 : Cond.code yX1_readAll cX1_readAll 2 (Option.some FieldType.int) ∈ GW := gt_2 (i := 233) rfl rfl
theorem mw_2_234 : Cond.methodLink "FoldedMonths$Pad" 37 yX1_readOrder ∈ GW := gt_2 (i := 234) rfl rfl
theorem mw_2_235 : Cond.instanceMethod yX1_readOrder ∈ GW := gt_2 (i := 235) rfl rfl
theorem mw_2_236 : Cond.selects "FoldedMonths$Pad" yX1_readOrder yX1_readOrder ∈ GW := gt_2 (i := 236) rfl rfl
theorem mw_2_237 : Cond.code yX1_readOrder cX1_readOrder 4 (Option.some FieldType.boolean) ∈ GW := gt_2 (i := 237) rfl rfl
theorem mw_2_238 : Cond.methodLink "FoldedMonths$Pad" 41 yX1_take ∈ GW := gt_2 (i := 238) rfl rfl
theorem mw_2_239 : Cond.instanceMethod yX1_take ∈ GW := gt_2 (i := 239) rfl rfl
theorem mw_3_0 : Cond.selects "FoldedMonths$Pad" yX1_take yX1_take ∈ GW := gt_3 (i := 0) rfl rfl
theorem mw_3_1 : Cond.code yX1_take cX1_take 2 (Option.some FieldType.boolean) ∈ GW := gt_3 (i := 1) rfl rfl
theorem mw_3_2 : Cond.methodLink "FoldedMonths$Pad" 53 yX1_signHere ∈ GW := gt_3 (i := 2) rfl rfl
theorem mw_3_3 : Cond.instanceMethod yX1_signHere ∈ GW := gt_3 (i := 3) rfl rfl
theorem mw_3_4 : Cond.selects "FoldedMonths$Pad" yX1_signHere yX1_signHere ∈ GW := gt_3 (i := 4) rfl rfl
theorem mw_3_5 : Cond.code yX1_signHere cX1_signHere 2 (Option.some FieldType.char) ∈ GW := gt_3 (i := 5) rfl rfl
theorem mw_3_6 : Cond.methodLink "FoldedMonths$Pad" 45 yX1_readNumber ∈ GW := gt_3 (i := 6) rfl rfl
theorem mw_3_7 : Cond.instanceMethod yX1_readNumber ∈ GW := gt_3 (i := 7) rfl rfl
theorem mw_3_8 : Cond.selects "FoldedMonths$Pad" yX1_readNumber yX1_readNumber ∈ GW := gt_3 (i := 8) rfl rfl
theorem mw_3_9 : Cond.code yX1_readNumber cX1_readNumber 4 (Option.some FieldType.int) ∈ GW := gt_3 (i := 9) rfl rfl
theorem mw_3_10 : Cond.methodLink "FoldedMonths$Pad" 64 yX1_digitHere ∈ GW := gt_3 (i := 10) rfl rfl
theorem mw_3_11 : Cond.instanceMethod yX1_digitHere ∈ GW := gt_3 (i := 11) rfl rfl
theorem mw_3_12 : Cond.selects "FoldedMonths$Pad" yX1_digitHere yX1_digitHere ∈ GW := gt_3 (i := 12) rfl rfl
theorem mw_3_13 : Cond.code yX1_digitHere cX1_digitHere 2 (Option.some FieldType.int) ∈ GW := gt_3 (i := 13) rfl rfl
theorem mw_3_14 : Cond.methodLink "FoldedMonths$Pad" 49 yX1_addStep ∈ GW := gt_3 (i := 14) rfl rfl
theorem mw_3_15 : Cond.instanceMethod yX1_addStep ∈ GW := gt_3 (i := 15) rfl rfl
theorem mw_3_16 : Cond.selects "FoldedMonths$Pad" yX1_addStep yX1_addStep ∈ GW := gt_3 (i := 16) rfl rfl
theorem mw_3_17 : Cond.code yX1_addStep cX1_addStep 7 (Option.some FieldType.boolean) ∈ GW := gt_3 (i := 17) rfl rfl
theorem mw_3_18 : Cond.methodLink "FoldedMonths$Pad" 67 yX1_stepAt ∈ GW := gt_3 (i := 18) rfl rfl
theorem mw_3_19 : Cond.instanceMethod yX1_stepAt ∈ GW := gt_3 (i := 19) rfl rfl
theorem mw_3_20 : Cond.selects "FoldedMonths$Pad" yX1_stepAt yX1_stepAt ∈ GW := gt_3 (i := 20) rfl rfl
theorem mw_3_21 : Cond.code yX1_stepAt cX1_stepAt 2 (Option.some (FieldType.object "FoldedMonths$Step")) ∈ GW := gt_3 (i := 21) rfl rfl
theorem mw_3_23 : Cond.methodLink "FoldedMonths$Pad" 60 yX1_readRanges ∈ GW := gt_3 (i := 23) rfl rfl
theorem mw_3_24 : Cond.instanceMethod yX1_readRanges ∈ GW := gt_3 (i := 24) rfl rfl
theorem mw_3_25 : Cond.selects "FoldedMonths$Pad" yX1_readRanges yX1_readRanges ∈ GW := gt_3 (i := 25) rfl rfl
theorem mw_3_26 : Cond.code yX1_readRanges cX1_readRanges 7 (Option.some FieldType.boolean) ∈ GW := gt_3 (i := 26) rfl rfl
theorem mw_3_27 : Cond.methodLink "FoldedMonthsLaw" 105 yX3_carryOut ∈ GW := gt_3 (i := 27) rfl rfl
theorem mw_3_28 : Cond.instanceMethod yX3_carryOut ∈ GW := gt_3 (i := 28) rfl rfl
theorem mw_3_29 : Cond.selects "FoldedMonths" yX3_carryOut yX3_carryOut ∈ GW := gt_3 (i := 29) rfl rfl
theorem mw_3_30 : Cond.code yX3_carryOut cX3_carryOut 4 (Option.some FieldType.int) ∈ GW := gt_3 (i := 30) rfl rfl
theorem mw_3_31 : Cond.methodLink "FoldedMonths" 216 yX1_stepAt ∈ GW := gt_3 (i := 31) rfl rfl
theorem mw_3_32 : Cond.methodLink "FoldedMonths" 220 yX3_carryStep ∈ GW := gt_3 (i := 32) rfl rfl
theorem mw_3_34 : Cond.instanceMethod yX3_carryStep ∈ GW := gt_3 (i := 34) rfl rfl
theorem mw_3_35 : Cond.code yX3_carryStep cX3_carryStep 3 (Option.some FieldType.int) ∈ GW := gt_3 (i := 35) rfl rfl
theorem mw_3_36 : Cond.methodLink "FoldedMonthsLaw" 109 yX3_undo ∈ GW := gt_3 (i := 36) rfl rfl
theorem mw_3_37 : Cond.instanceMethod yX3_undo ∈ GW := gt_3 (i := 37) rfl rfl
theorem mw_3_38 : Cond.selects "FoldedMonths" yX3_undo yX3_undo ∈ GW := gt_3 (i := 38) rfl rfl
theorem mw_3_39 : Cond.code yX3_undo cX3_undo 1 (Option.some FieldType.int) ∈ GW := gt_3 (i := 39) rfl rfl
theorem mw_3_40 : Cond.methodLink "FoldedMonthsLaw" 113 yX3_save ∈ GW := gt_3 (i := 40) rfl rfl
theorem mw_3_41 : Cond.instanceMethod yX3_save ∈ GW := gt_3 (i := 41) rfl rfl
theorem mw_3_42 : Cond.selects "FoldedMonths" yX3_save yX3_save ∈ GW := gt_3 (i := 42) rfl rfl
theorem mw_3_43 : Cond.code yX3_save cX3_save 2 (Option.some FieldType.int) ∈ GW := gt_3 (i := 43) rfl rfl
theorem mw_3_44 : Cond.methodLink "FoldedMonthsLaw" 117 yX3_restore ∈ GW := gt_3 (i := 44) rfl rfl
theorem mw_3_45 : Cond.instanceMethod yX3_restore ∈ GW := gt_3 (i := 45) rfl rfl
theorem mw_3_46 : Cond.selects "FoldedMonths" yX3_restore yX3_restore ∈ GW := gt_3 (i := 46) rfl rfl
theorem mw_3_47 : Cond.code yX3_restore cX3_restore 2 (Option.some FieldType.int) ∈ GW := gt_3 (i := 47) rfl rfl
theorem mw_3_48 : Cond.classLink "FoldedMonthsLaw" 10 "FoldedMonthsModel" ∈ GW := gt_3 (i := 48) rfl rfl
theorem mw_3_49 : Cond.instantiable "FoldedMonthsModel" 10 ∈ GW := gt_3 (i := 49) rfl rfl
theorem mw_3_50 : Cond.methodLink "FoldedMonthsLaw" 12 yX4_init ∈ GW := gt_3 (i := 50) rfl rfl
theorem mw_3_51 : Cond.instanceMethod yX4_init ∈ GW := gt_3 (i := 51) rfl rfl
theorem mw_3_52 : Cond.code yX4_init cX4_init 3 (Option.none : Option FieldType) ∈ GW := gt_3 (i := 52) rfl rfl
theorem mw_3_53 : Cond.methodLink "FoldedMonthsModel" 1 objectInit ∈ GW := gt_3 (i := 53) rfl rfl
theorem mw_3_54 : Cond.fieldLink "FoldedMonthsModel" 7 "FoldedMonthsModel" "now" "[I" ∈ GW := gt_3 (i := 54) rfl rfl
theorem mw_3_55 : Cond.fieldLink "FoldedMonthsModel" 13 "FoldedMonthsModel" "trial" "[I" ∈ GW := gt_3 (i := 55) rfl rfl
theorem mw_3_56 : Cond.fieldLink "FoldedMonthsModel" 16 "FoldedMonthsModel" "history" "[I" ∈ GW := gt_3 (i := 56) rfl rfl
theorem mw_3_57 : Cond.fieldLink "FoldedMonthsModel" 107 "FoldedMonthsModel" "changes" "I" ∈ GW := gt_3 (i := 57) rfl rfl
theorem mw_3_58 : Cond.fieldLink "FoldedMonthsModel" 19 "FoldedMonthsModel" "kept" "[I" ∈ GW := gt_3 (i := 58) rfl rfl
theorem mw_3_59 : Cond.fieldLink "FoldedMonthsModel" 22 "FoldedMonthsModel" "isKept" "[Z" ∈ GW := gt_3 (i := 59) rfl rfl
theorem mw_3_60 : Cond.fieldLink "FoldedMonthsModel" 26 "FoldedMonthsModel" "pad" "[I" ∈ GW := gt_3 (i := 60) rfl rfl
theorem mw_3_61 : Cond.fieldLink "FoldedMonthsModel" 170 "FoldedMonthsModel" "size" "I" ∈ GW := gt_3 (i := 61) rfl rfl
theorem mw_3_62 : Cond.fieldLink "FoldedMonthsModel" 29 "FoldedMonthsModel" "firsts" "[I" ∈ GW := gt_3 (i := 62) rfl rfl
theorem mw_3_63 : Cond.fieldLink "FoldedMonthsModel" 185 "FoldedMonthsModel" "spot" "I" ∈ GW := gt_3 (i := 63) rfl rfl
theorem mw_3_64 : Cond.laysFinal "FoldedMonthsModel" "FoldedMonthsModel" "now" "[I" ∈ GW := gt_3 (i := 64) rfl rfl
theorem mw_3_66 : Cond.laysFinal "FoldedMonthsModel" "FoldedMonthsModel" "trial" "[I" ∈ GW := gt_3 (i := 66) rfl rfl
theorem mw_3_68 : Cond.laysFinal "FoldedMonthsModel" "FoldedMonthsModel" "history" "[I" ∈ GW := gt_3 (i := 68) rfl rfl
theorem mw_3_70 : Cond.lays "FoldedMonthsModel" "FoldedMonthsModel" "changes" "I" ∈ GW := gt_3 (i := 70) rfl rfl
theorem mw_3_72 : Cond.laysFinal "FoldedMonthsModel" "FoldedMonthsModel" "kept" "[I" ∈ GW := gt_3 (i := 72) rfl rfl
theorem mw_3_74 : Cond.laysFinal "FoldedMonthsModel" "FoldedMonthsModel" "isKept" "[Z" ∈ GW := gt_3 (i := 74) rfl rfl
theorem mw_3_76 : Cond.laysFinal "FoldedMonthsModel" "FoldedMonthsModel" "pad" "[I" ∈ GW := gt_3 (i := 76) rfl rfl
theorem mw_3_78 : Cond.lays "FoldedMonthsModel" "FoldedMonthsModel" "size" "I" ∈ GW := gt_3 (i := 78) rfl rfl
theorem mw_3_80 : Cond.laysFinal "FoldedMonthsModel" "FoldedMonthsModel" "firsts" "[I" ∈ GW := gt_3 (i := 80) rfl rfl
theorem mw_3_82 : Cond.lays "FoldedMonthsModel" "FoldedMonthsModel" "spot" "I" ∈ GW := gt_3 (i := 82) rfl rfl
theorem mw_3_85 : Cond.arrayClass FieldType.boolean ∈ GW := gt_3 (i := 85) rfl rfl
theorem mw_3_86 : Cond.methodLink "FoldedMonthsLaw" 17 yX4_set ∈ GW := gt_3 (i := 86) rfl rfl
theorem mw_3_87 : Cond.instanceMethod yX4_set ∈ GW := gt_3 (i := 87) rfl rfl
theorem mw_3_88 : Cond.selects "FoldedMonthsModel" yX4_set yX4_set ∈ GW := gt_3 (i := 88) rfl rfl
theorem mw_3_89 : Cond.code yX4_set cX4_set 5 (Option.some FieldType.int) ∈ GW := gt_3 (i := 89) rfl rfl
theorem mw_3_90 : Cond.constantLong "FoldedMonthsModel" 115 (12 : Int64) ∈ GW := gt_3 (i := 90) rfl rfl
theorem mw_3_91 : Cond.methodLink "FoldedMonthsModel" 34 yX4_in ∈ GW := gt_3 (i := 91) rfl rfl
theorem mw_3_92 : Cond.static yX4_in ∈ GW := gt_3 (i := 92) rfl rfl
theorem mw_3_93 : Cond.code yX4_in cX4_in 6 (Option.some FieldType.boolean) ∈ GW := gt_3 (i := 93) rfl rfl
theorem mw_3_94 : Cond.constantLong "FoldedMonthsModel" 117 (6 : Int64) ∈ GW := gt_3 (i := 94) rfl rfl
theorem mw_3_95 : Cond.methodLink "FoldedMonthsModel" 119 yX4_record ∈ GW := gt_3 (i := 95) rfl rfl
theorem mw_3_97 : Cond.instanceMethod yX4_record ∈ GW := gt_3 (i := 97) rfl rfl
theorem mw_3_98 : Cond.code yX4_record cX4_record 2 (Option.none : Option FieldType) ∈ GW := gt_3 (i := 98) rfl rfl
theorem mw_3_99 : Cond.methodLink "FoldedMonthsModel" 111 yX4_copyDiary ∈ GW := gt_3 (i := 99) rfl rfl
theorem mw_3_100 : Cond.static yX4_copyDiary ∈ GW := gt_3 (i := 100) rfl rfl
theorem mw_3_101 : Cond.code yX4_copyDiary cX4_copyDiary 5 (Option.none : Option FieldType) ∈ GW := gt_3 (i := 101) rfl rfl
theorem mw_3_102 : Cond.methodLink "FoldedMonthsModel" 103 yX4_foldAgain ∈ GW := gt_3 (i := 102) rfl rfl
theorem mw_3_103 : Cond.static yX4_foldAgain ∈ GW := gt_3 (i := 103) rfl rfl
theorem mw_3_104 : Cond.code yX4_foldAgain cX4_foldAgain 2 (Option.none : Option FieldType) ∈ GW := gt_3 (i := 104) rfl rfl
theorem mw_3_105 : Cond.methodLink "FoldedMonthsModel" 82 yX4_takeOut ∈ GW := gt_3 (i := 105) rfl rfl
theorem mw_3_106 : Cond.static yX4_takeOut ∈ GW := gt_3 (i := 106) rfl rfl
theorem mw_3_107 : Cond.code yX4_takeOut cX4_takeOut 3 (Option.none : Option FieldType) ∈ GW := gt_3 (i := 107) rfl rfl
theorem mw_3_108 : Cond.methodLink "FoldedMonthsModel" 86 yX4_fold ∈ GW := gt_3 (i := 108) rfl rfl
theorem mw_3_109 : Cond.static yX4_fold ∈ GW := gt_3 (i := 109) rfl rfl
theorem mw_3_110 : Cond.code yX4_fold cX4_fold 6 (Option.none : Option FieldType) ∈ GW := gt_3 (i := 110) rfl rfl
theorem mw_3_111 : Cond.methodLink "FoldedMonthsModel" 75 yX4_sizeIn ∈ GW := gt_3 (i := 111) rfl rfl
theorem mw_3_112 : Cond.static yX4_sizeIn ∈ GW := gt_3 (i := 112) rfl rfl
theorem mw_3_113 : Cond.code yX4_sizeIn cX4_sizeIn 5 (Option.some FieldType.int) ∈ GW := gt_3 (i := 113) rfl rfl
theorem mw_3_114 : Cond.methodLink "FoldedMonthsModel" 64 yX4_marksIn ∈ GW := gt_3 (i := 114) rfl rfl
theorem mw_3_115 : Cond.static yX4_marksIn ∈ GW := gt_3 (i := 115) rfl rfl
theorem mw_3_116 : Cond.code yX4_marksIn cX4_marksIn 4 (Option.some FieldType.int) ∈ GW := gt_3 (i := 116) rfl rfl
theorem mw_3_117 : Cond.methodLink "FoldedMonthsModel" 53 yX4_at ∈ GW := gt_3 (i := 117) rfl rfl
theorem mw_3_118 : Cond.static yX4_at ∈ GW := gt_3 (i := 118) rfl rfl
theorem mw_3_119 : Cond.code yX4_at cX4_at 2 (Option.some FieldType.int) ∈ GW := gt_3 (i := 119) rfl rfl
theorem mw_3_120 : Cond.methodLink "FoldedMonthsModel" 57 yX4_ones ∈ GW := gt_3 (i := 120) rfl rfl
theorem mw_3_121 : Cond.static yX4_ones ∈ GW := gt_3 (i := 121) rfl rfl
theorem mw_3_122 : Cond.code yX4_ones cX4_ones 3 (Option.some FieldType.int) ∈ GW := gt_3 (i := 122) rfl rfl
theorem mw_3_123 : Cond.methodLink "FoldedMonthsModel" 68 yX4_twin ∈ GW := gt_3 (i := 123) rfl rfl
theorem mw_3_124 : Cond.static yX4_twin ∈ GW := gt_3 (i := 124) rfl rfl
theorem mw_3_125 : Cond.code yX4_twin cX4_twin 5 (Option.some FieldType.int) ∈ GW := gt_3 (i := 125) rfl rfl
theorem mw_3_126 : Cond.methodLink "FoldedMonthsModel" 60 yX4_areAlike ∈ GW := gt_3 (i := 126) rfl rfl
theorem mw_3_127 : Cond.static yX4_areAlike ∈ GW := gt_3 (i := 127) rfl rfl
theorem mw_3_128 : Cond.code yX4_areAlike cX4_areAlike 5 (Option.some FieldType.boolean) ∈ GW := gt_3 (i := 128) rfl rfl
theorem mw_3_129 : Cond.methodLink "FoldedMonthsModel" 72 yX4_runsIn ∈ GW := gt_3 (i := 129) rfl rfl
theorem mw_3_130 : Cond.static yX4_runsIn ∈ GW := gt_3 (i := 130) rfl rfl
theorem mw_3_131 : Cond.code yX4_runsIn cX4_runsIn 5 (Option.some FieldType.int) ∈ GW := gt_3 (i := 131) rfl rfl
theorem mw_3_132 : Cond.methodLink "FoldedMonthsModel" 79 yX4_sizeOf ∈ GW := gt_3 (i := 132) rfl rfl
theorem mw_3_133 : Cond.static yX4_sizeOf ∈ GW := gt_3 (i := 133) rfl rfl
theorem mw_3_134 : Cond.code yX4_sizeOf cX4_sizeOf 3 (Option.some FieldType.int) ∈ GW := gt_3 (i := 134) rfl rfl
theorem mw_3_135 : Cond.methodLink "FoldedMonthsLaw" 22 yX4_pass ∈ GW := gt_3 (i := 135) rfl rfl
theorem mw_3_136 : Cond.instanceMethod yX4_pass ∈ GW := gt_3 (i := 136) rfl rfl
theorem mw_3_137 : Cond.selects "FoldedMonthsModel" yX4_pass yX4_pass ∈ GW := gt_3 (i := 137) rfl rfl
theorem mw_3_138 : Cond.code yX4_pass cX4_pass 3 (Option.some FieldType.int) ∈ GW := gt_3 (i := 138) rfl rfl
theorem mw_3_139 : Cond.methodLink "FoldedMonthsModel" 124 yX4_whyNotPass ∈ GW := gt_3 (i := 139) rfl rfl
theorem mw_3_141 : Cond.instanceMethod yX4_whyNotPass ∈ GW := gt_3 (i := 141) rfl rfl
theorem mw_3_142 : Cond.code yX4_whyNotPass cX4_whyNotPass 3 (Option.some FieldType.int) ∈ GW := gt_3 (i := 142) rfl rfl
theorem mw_3_143 : Cond.constantLong "FoldedMonthsModel" 122 (400 : Int64) ∈ GW := gt_3 (i := 143) rfl rfl
theorem mw_3_144 : Cond.methodLink "FoldedMonthsModel" 127 yX4_passOn ∈ GW := gt_3 (i := 144) rfl rfl
theorem mw_3_146 : Cond.instanceMethod yX4_passOn ∈ GW := gt_3 (i := 146) rfl rfl
theorem mw_3_147 : Cond.code yX4_passOn cX4_passOn 5 (Option.some FieldType.int) ∈ GW := gt_3 (i := 147) rfl rfl
theorem mw_3_148 : Cond.methodLink "FoldedMonthsModel" 42 yX4_monthOf ∈ GW := gt_3 (i := 148) rfl rfl
theorem mw_3_150 : Cond.instanceMethod yX4_monthOf ∈ GW := gt_3 (i := 150) rfl rfl
theorem mw_3_151 : Cond.code yX4_monthOf cX4_monthOf 3 (Option.some FieldType.int) ∈ GW := gt_3 (i := 151) rfl rfl
theorem mw_3_152 : Cond.methodLink "FoldedMonthsModel" 93 yX4_isOld ∈ GW := gt_3 (i := 152) rfl rfl
theorem mw_3_154 : Cond.instanceMethod yX4_isOld ∈ GW := gt_3 (i := 154) rfl rfl
theorem mw_3_155 : Cond.code yX4_isOld cX4_isOld 3 (Option.some FieldType.boolean) ∈ GW := gt_3 (i := 155) rfl rfl
theorem mw_3_156 : Cond.methodLink "FoldedMonthsLaw" 27 yX4_mark ∈ GW := gt_3 (i := 156) rfl rfl
theorem mw_3_157 : Cond.instanceMethod yX4_mark ∈ GW := gt_3 (i := 157) rfl rfl
theorem mw_3_158 : Cond.selects "FoldedMonthsModel" yX4_mark yX4_mark ∈ GW := gt_3 (i := 158) rfl rfl
theorem mw_3_159 : Cond.code yX4_mark cX4_mark 5 (Option.some FieldType.int) ∈ GW := gt_3 (i := 159) rfl rfl
theorem mw_3_160 : Cond.methodLink "FoldedMonthsModel" 145 yX4_whyNotMark ∈ GW := gt_3 (i := 160) rfl rfl
theorem mw_3_162 : Cond.instanceMethod yX4_whyNotMark ∈ GW := gt_3 (i := 162) rfl rfl
theorem mw_3_163 : Cond.code yX4_whyNotMark cX4_whyNotMark 6 (Option.some FieldType.int) ∈ GW := gt_3 (i := 163) rfl rfl
theorem mw_3_164 : Cond.methodLink "FoldedMonthsModel" 134 yX4_isSubject ∈ GW := gt_3 (i := 164) rfl rfl
theorem mw_3_165 : Cond.static yX4_isSubject ∈ GW := gt_3 (i := 165) rfl rfl
theorem mw_3_166 : Cond.code yX4_isSubject cX4_isSubject 1 (Option.some FieldType.boolean) ∈ GW := gt_3 (i := 166) rfl rfl
theorem mw_3_167 : Cond.constantLong "FoldedMonthsModel" 38 (15 : Int64) ∈ GW := gt_3 (i := 167) rfl rfl
theorem mw_3_168 : Cond.methodLink "FoldedMonthsModel" 137 yX4_whyNotDays ∈ GW := gt_3 (i := 168) rfl rfl
theorem mw_3_169 : Cond.static yX4_whyNotDays ∈ GW := gt_3 (i := 169) rfl rfl
theorem mw_3_170 : Cond.code yX4_whyNotDays cX4_whyNotDays 3 (Option.some FieldType.int) ∈ GW := gt_3 (i := 170) rfl rfl
theorem mw_3_171 : Cond.methodLink "FoldedMonthsModel" 130 yX4_isDay ∈ GW := gt_3 (i := 171) rfl rfl
theorem mw_3_172 : Cond.static yX4_isDay ∈ GW := gt_3 (i := 172) rfl rfl
theorem mw_3_173 : Cond.code yX4_isDay cX4_isDay 1 (Option.some FieldType.boolean) ∈ GW := gt_3 (i := 173) rfl rfl
theorem mw_3_174 : Cond.constantLong "FoldedMonthsModel" 32 (3649 : Int64) ∈ GW := gt_3 (i := 174) rfl rfl
theorem mw_3_175 : Cond.methodLink "FoldedMonthsModel" 148 yX4_markOn ∈ GW := gt_3 (i := 175) rfl rfl
theorem mw_3_177 : Cond.instanceMethod yX4_markOn ∈ GW := gt_3 (i := 177) rfl rfl
theorem mw_3_178 : Cond.code yX4_markOn cX4_markOn 10 (Option.some FieldType.int) ∈ GW := gt_3 (i := 178) rfl rfl
theorem mw_3_179 : Cond.methodLink "FoldedMonthsModel" 49 yX4_meant ∈ GW := gt_3 (i := 179) rfl rfl
theorem mw_3_181 : Cond.instanceMethod yX4_meant ∈ GW := gt_3 (i := 181) rfl rfl
theorem mw_3_182 : Cond.code yX4_meant cX4_meant 6 (Option.some FieldType.int) ∈ GW := gt_3 (i := 182) rfl rfl
theorem mw_3_183 : Cond.methodLink "FoldedMonthsModel" 46 yX4_daysOf ∈ GW := gt_3 (i := 183) rfl rfl
theorem mw_3_185 : Cond.instanceMethod yX4_daysOf ∈ GW := gt_3 (i := 185) rfl rfl
theorem mw_3_186 : Cond.code yX4_daysOf cX4_daysOf 2 (Option.some FieldType.int) ∈ GW := gt_3 (i := 186) rfl rfl
theorem mw_3_187 : Cond.methodLink "FoldedMonthsModel" 141 yX4_lay ∈ GW := gt_3 (i := 187) rfl rfl
theorem mw_3_189 : Cond.instanceMethod yX4_lay ∈ GW := gt_3 (i := 189) rfl rfl
theorem mw_3_190 : Cond.code yX4_lay cX4_lay 8 (Option.none : Option FieldType) ∈ GW := gt_3 (i := 190) rfl rfl
theorem mw_3_191 : Cond.methodLink "FoldedMonthsModel" 97 yX4_unfold ∈ GW := gt_3 (i := 191) rfl rfl
theorem mw_3_192 : Cond.static yX4_unfold ∈ GW := gt_3 (i := 192) rfl rfl
theorem mw_3_193 : Cond.code yX4_unfold cX4_unfold 2 (Option.none : Option FieldType) ∈ GW := gt_3 (i := 193) rfl rfl
theorem mw_3_194 : Cond.methodLink "FoldedMonthsModel" 100 yX4_toEnd ∈ GW := gt_3 (i := 194) rfl rfl
theorem mw_3_195 : Cond.static yX4_toEnd ∈ GW := gt_3 (i := 195) rfl rfl
theorem mw_3_196 : Cond.code yX4_toEnd cX4_toEnd 3 (Option.none : Option FieldType) ∈ GW := gt_3 (i := 196) rfl rfl
theorem mw_3_197 : Cond.methodLink "FoldedMonthsModel" 90 yX4_placeOf ∈ GW := gt_3 (i := 197) rfl rfl
theorem mw_3_198 : Cond.static yX4_placeOf ∈ GW := gt_3 (i := 198) rfl rfl
theorem mw_3_199 : Cond.code yX4_placeOf cX4_placeOf 3 (Option.some FieldType.int) ∈ GW := gt_3 (i := 199) rfl rfl
theorem mw_3_200 : Cond.methodLink "FoldedMonthsLaw" 31 yX4_clear ∈ GW := gt_3 (i := 200) rfl rfl
theorem mw_3_201 : Cond.instanceMethod yX4_clear ∈ GW := gt_3 (i := 201) rfl rfl
theorem mw_3_202 : Cond.selects "FoldedMonthsModel" yX4_clear yX4_clear ∈ GW := gt_3 (i := 202) rfl rfl
theorem mw_3_203 : Cond.code yX4_clear cX4_clear 5 (Option.some FieldType.int) ∈ GW := gt_3 (i := 203) rfl rfl
theorem mw_3_204 : Cond.methodLink "FoldedMonthsLaw" 35 yX4_marks ∈ GW := gt_3 (i := 204) rfl rfl
theorem mw_3_205 : Cond.instanceMethod yX4_marks ∈ GW := gt_3 (i := 205) rfl rfl
theorem mw_3_206 : Cond.selects "FoldedMonthsModel" yX4_marks yX4_marks ∈ GW := gt_3 (i := 206) rfl rfl
theorem mw_3_207 : Cond.code yX4_marks cX4_marks 8 (Option.some FieldType.int) ∈ GW := gt_3 (i := 207) rfl rfl
theorem mw_3_208 : Cond.methodLink "FoldedMonthsModel" 152 yX4_whole ∈ GW := gt_3 (i := 208) rfl rfl
theorem mw_3_210 : Cond.instanceMethod yX4_whole ∈ GW := gt_3 (i := 210) rfl rfl
theorem mw_3_211 : Cond.code yX4_whole cX4_whole 2 (Option.some FieldType.int) ∈ GW := gt_3 (i := 211) rfl rfl
theorem mw_3_212 : Cond.methodLink "FoldedMonthsModel" 155 yX4_look ∈ GW := gt_3 (i := 212) rfl rfl
theorem mw_3_214 : Cond.instanceMethod yX4_look ∈ GW := gt_3 (i := 214) rfl rfl
theorem mw_3_215 : Cond.code yX4_look cX4_look 3 (Option.none : Option FieldType) ∈ GW := gt_3 (i := 215) rfl rfl
theorem mw_3_216 : Cond.methodLink "FoldedMonthsLaw" 39 yX4_isMarked ∈ GW := gt_3 (i := 216) rfl rfl
theorem mw_3_217 : Cond.instanceMethod yX4_isMarked ∈ GW := gt_3 (i := 217) rfl rfl
theorem mw_3_218 : Cond.selects "FoldedMonthsModel" yX4_isMarked yX4_isMarked ∈ GW := gt_3 (i := 218) rfl rfl
theorem mw_3_219 : Cond.code yX4_isMarked cX4_isMarked 4 (Option.some FieldType.int) ∈ GW := gt_3 (i := 219) rfl rfl
theorem mw_3_220 : Cond.methodLink "FoldedMonthsLaw" 44 yX4_both ∈ GW := gt_3 (i := 220) rfl rfl
theorem mw_3_221 : Cond.instanceMethod yX4_both ∈ GW := gt_3 (i := 221) rfl rfl
theorem mw_3_222 : Cond.selects "FoldedMonthsModel" yX4_both yX4_both ∈ GW := gt_3 (i := 222) rfl rfl
theorem mw_3_223 : Cond.code yX4_both cX4_both 8 (Option.some FieldType.int) ∈ GW := gt_3 (i := 223) rfl rfl
theorem mw_3_224 : Cond.methodLink "FoldedMonthsLaw" 48 yX4_crowded ∈ GW := gt_3 (i := 224) rfl rfl
theorem mw_3_225 : Cond.instanceMethod yX4_crowded ∈ GW := gt_3 (i := 225) rfl rfl
theorem mw_3_226 : Cond.selects "FoldedMonthsModel" yX4_crowded yX4_crowded ∈ GW := gt_3 (i := 226) rfl rfl
theorem mw_3_227 : Cond.code yX4_crowded cX4_crowded 10 (Option.some FieldType.int) ∈ GW := gt_3 (i := 227) rfl rfl
theorem mw_3_228 : Cond.constantLong "FoldedMonthsModel" 158 (16 : Int64) ∈ GW := gt_3 (i := 228) rfl rfl
theorem mw_3_229 : Cond.methodLink "FoldedMonthsLaw" 52 yX4_longest ∈ GW := gt_3 (i := 229) rfl rfl
theorem mw_3_230 : Cond.instanceMethod yX4_longest ∈ GW := gt_3 (i := 230) rfl rfl
theorem mw_3_231 : Cond.selects "FoldedMonthsModel" yX4_longest yX4_longest ∈ GW := gt_3 (i := 231) rfl rfl
theorem mw_3_232 : Cond.code yX4_longest cX4_longest 11 (Option.some FieldType.int) ∈ GW := gt_3 (i := 232) rfl rfl
theorem mw_3_233 : Cond.methodLink "FoldedMonthsLaw" 56 yX4_nextMark ∈ GW := gt_3 (i := 233) rfl rfl
theorem mw_3_234 : Cond.instanceMethod yX4_nextMark ∈ GW := gt_3 (i := 234) rfl rfl
theorem mw_3_235 : Cond.selects "FoldedMonthsModel" yX4_nextMark yX4_nextMark ∈ GW := gt_3 (i := 235) rfl rfl
theorem mw_3_236 : Cond.code yX4_nextMark cX4_nextMark 6 (Option.some FieldType.int) ∈ GW := gt_3 (i := 236) rfl rfl
theorem mw_3_237 : Cond.methodLink "FoldedMonthsLaw" 60 yX4_ofMonth ∈ GW := gt_3 (i := 237) rfl rfl
theorem mw_3_238 : Cond.instanceMethod yX4_ofMonth ∈ GW := gt_3 (i := 238) rfl rfl
theorem mw_3_239 : Cond.selects "FoldedMonthsModel" yX4_ofMonth yX4_ofMonth ∈ GW := gt_3 (i := 239) rfl rfl
theorem mw_4_0 : Cond.code yX4_ofMonth cX4_ofMonth 3 (Option.some FieldType.int) ∈ GW := gt_4 (i := 0) rfl rfl
theorem mw_4_1 : Cond.methodLink "FoldedMonthsModel" 160 yX4_isMonth ∈ GW := gt_4 (i := 1) rfl rfl
theorem mw_4_2 : Cond.static yX4_isMonth ∈ GW := gt_4 (i := 2) rfl rfl
theorem mw_4_3 : Cond.code yX4_isMonth cX4_isMonth 1 (Option.some FieldType.boolean) ∈ GW := gt_4 (i := 3) rfl rfl
theorem mw_4_4 : Cond.constantLong "FoldedMonthsModel" 40 (119 : Int64) ∈ GW := gt_4 (i := 4) rfl rfl
theorem mw_4_5 : Cond.methodLink "FoldedMonthsModel" 163 yX4_subjectsIn ∈ GW := gt_4 (i := 5) rfl rfl
theorem mw_4_6 : Cond.static yX4_subjectsIn ∈ GW := gt_4 (i := 6) rfl rfl
theorem mw_4_7 : Cond.code yX4_subjectsIn cX4_subjectsIn 4 (Option.some FieldType.int) ∈ GW := gt_4 (i := 7) rfl rfl
theorem mw_4_8 : Cond.methodLink "FoldedMonthsLaw" 64 yX4_inMonth ∈ GW := gt_4 (i := 8) rfl rfl
theorem mw_4_9 : Cond.instanceMethod yX4_inMonth ∈ GW := gt_4 (i := 9) rfl rfl
theorem mw_4_10 : Cond.selects "FoldedMonthsModel" yX4_inMonth yX4_inMonth ∈ GW := gt_4 (i := 10) rfl rfl
theorem mw_4_11 : Cond.code yX4_inMonth cX4_inMonth 3 (Option.some FieldType.int) ∈ GW := gt_4 (i := 11) rfl rfl
theorem mw_4_12 : Cond.methodLink "FoldedMonthsLaw" 68 yX4_dayOf ∈ GW := gt_4 (i := 12) rfl rfl
theorem mw_4_13 : Cond.instanceMethod yX4_dayOf ∈ GW := gt_4 (i := 13) rfl rfl
theorem mw_4_14 : Cond.selects "FoldedMonthsModel" yX4_dayOf yX4_dayOf ∈ GW := gt_4 (i := 14) rfl rfl
theorem mw_4_15 : Cond.code yX4_dayOf cX4_dayOf 5 (Option.some FieldType.int) ∈ GW := gt_4 (i := 15) rfl rfl
theorem mw_4_16 : Cond.constantLong "FoldedMonthsModel" 166 (9 : Int64) ∈ GW := gt_4 (i := 16) rfl rfl
theorem mw_4_17 : Cond.methodLink "FoldedMonthsLaw" 72 yX4_dateOf ∈ GW := gt_4 (i := 17) rfl rfl
theorem mw_4_18 : Cond.instanceMethod yX4_dateOf ∈ GW := gt_4 (i := 18) rfl rfl
theorem mw_4_19 : Cond.selects "FoldedMonthsModel" yX4_dateOf yX4_dateOf ∈ GW := gt_4 (i := 19) rfl rfl
theorem mw_4_20 : Cond.code yX4_dateOf cX4_dateOf 4 (Option.some FieldType.int) ∈ GW := gt_4 (i := 20) rfl rfl
theorem mw_4_21 : Cond.constantLong "FoldedMonthsModel" 168 (3 : Int64) ∈ GW := gt_4 (i := 21) rfl rfl
theorem mw_4_22 : Cond.methodLink "FoldedMonthsLaw" 76 yX4_count ∈ GW := gt_4 (i := 22) rfl rfl
theorem mw_4_23 : Cond.instanceMethod yX4_count ∈ GW := gt_4 (i := 23) rfl rfl
theorem mw_4_24 : Cond.selects "FoldedMonthsModel" yX4_count yX4_count ∈ GW := gt_4 (i := 24) rfl rfl
theorem mw_4_25 : Cond.code yX4_count cX4_count 5 (Option.some FieldType.int) ∈ GW := gt_4 (i := 25) rfl rfl
theorem mw_4_26 : Cond.methodLink "FoldedMonthsLaw" 80 yX4_sizeAs ∈ GW := gt_4 (i := 26) rfl rfl
theorem mw_4_27 : Cond.instanceMethod yX4_sizeAs ∈ GW := gt_4 (i := 27) rfl rfl
theorem mw_4_28 : Cond.selects "FoldedMonthsModel" yX4_sizeAs yX4_sizeAs ∈ GW := gt_4 (i := 28) rfl rfl
theorem mw_4_29 : Cond.code yX4_sizeAs cX4_sizeAs 3 (Option.some FieldType.int) ∈ GW := gt_4 (i := 29) rfl rfl
theorem mw_4_30 : Cond.constantLong "FoldedMonthsModel" 173 (4 : Int64) ∈ GW := gt_4 (i := 30) rfl rfl
theorem mw_4_31 : Cond.methodLink "FoldedMonthsLaw" 84 yX4_workOf ∈ GW := gt_4 (i := 31) rfl rfl
theorem mw_4_32 : Cond.instanceMethod yX4_workOf ∈ GW := gt_4 (i := 32) rfl rfl
theorem mw_4_33 : Cond.selects "FoldedMonthsModel" yX4_workOf yX4_workOf ∈ GW := gt_4 (i := 33) rfl rfl
theorem mw_4_34 : Cond.code yX4_workOf cX4_workOf 4 (Option.some FieldType.int) ∈ GW := gt_4 (i := 34) rfl rfl
theorem mw_4_35 : Cond.methodLink "FoldedMonthsModel" 175 yX4_lookAll ∈ GW := gt_4 (i := 35) rfl rfl
theorem mw_4_37 : Cond.instanceMethod yX4_lookAll ∈ GW := gt_4 (i := 37) rfl rfl
theorem mw_4_38 : Cond.code yX4_lookAll cX4_lookAll 4 (Option.none : Option FieldType) ∈ GW := gt_4 (i := 38) rfl rfl
theorem mw_4_39 : Cond.methodLink "FoldedMonthsLaw" 88 yX4_bestOpen ∈ GW := gt_4 (i := 39) rfl rfl
theorem mw_4_40 : Cond.instanceMethod yX4_bestOpen ∈ GW := gt_4 (i := 40) rfl rfl
theorem mw_4_41 : Cond.selects "FoldedMonthsModel" yX4_bestOpen yX4_bestOpen ∈ GW := gt_4 (i := 41) rfl rfl
theorem mw_4_42 : Cond.code yX4_bestOpen cX4_bestOpen 9 (Option.some FieldType.int) ∈ GW := gt_4 (i := 42) rfl rfl
theorem mw_4_43 : Cond.methodLink "FoldedMonthsLaw" 95 yX4_put ∈ GW := gt_4 (i := 43) rfl rfl
theorem mw_4_44 : Cond.instanceMethod yX4_put ∈ GW := gt_4 (i := 44) rfl rfl
theorem mw_4_45 : Cond.selects "FoldedMonthsModel" yX4_put yX4_put ∈ GW := gt_4 (i := 45) rfl rfl
theorem mw_4_46 : Cond.code yX4_put cX4_put 7 (Option.some FieldType.int) ∈ GW := gt_4 (i := 46) rfl rfl
theorem mw_4_47 : Cond.constantLong "FoldedMonthsModel" 179 (255 : Int64) ∈ GW := gt_4 (i := 47) rfl rfl
theorem mw_4_48 : Cond.constantLong "FoldedMonthsModel" 181 (33 : Int64) ∈ GW := gt_4 (i := 48) rfl rfl
theorem mw_4_49 : Cond.constantLong "FoldedMonthsModel" 183 (126 : Int64) ∈ GW := gt_4 (i := 49) rfl rfl
theorem mw_4_50 : Cond.methodLink "FoldedMonthsLaw" 100 yX4_wipe ∈ GW := gt_4 (i := 50) rfl rfl
theorem mw_4_51 : Cond.instanceMethod yX4_wipe ∈ GW := gt_4 (i := 51) rfl rfl
theorem mw_4_52 : Cond.selects "FoldedMonthsModel" yX4_wipe yX4_wipe ∈ GW := gt_4 (i := 52) rfl rfl
theorem mw_4_53 : Cond.code yX4_wipe cX4_wipe 2 (Option.some FieldType.int) ∈ GW := gt_4 (i := 53) rfl rfl
theorem mw_4_54 : Cond.methodLink "FoldedMonthsLaw" 104 yX4_fault ∈ GW := gt_4 (i := 54) rfl rfl
theorem mw_4_55 : Cond.instanceMethod yX4_fault ∈ GW := gt_4 (i := 55) rfl rfl
theorem mw_4_56 : Cond.selects "FoldedMonthsModel" yX4_fault yX4_fault ∈ GW := gt_4 (i := 56) rfl rfl
theorem mw_4_57 : Cond.code yX4_fault cX4_fault 2 (Option.some FieldType.int) ∈ GW := gt_4 (i := 57) rfl rfl
theorem mw_4_58 : Cond.methodLink "FoldedMonthsModel" 207 yX4_readOrder ∈ GW := gt_4 (i := 58) rfl rfl
theorem mw_4_60 : Cond.instanceMethod yX4_readOrder ∈ GW := gt_4 (i := 60) rfl rfl
theorem mw_4_61 : Cond.code yX4_readOrder cX4_readOrder 2 (Option.some FieldType.boolean) ∈ GW := gt_4 (i := 61) rfl rfl
theorem mw_4_62 : Cond.methodLink "FoldedMonthsModel" 188 yX4_sign ∈ GW := gt_4 (i := 62) rfl rfl
theorem mw_4_64 : Cond.instanceMethod yX4_sign ∈ GW := gt_4 (i := 64) rfl rfl
theorem mw_4_65 : Cond.code yX4_sign cX4_sign 1 (Option.some FieldType.int) ∈ GW := gt_4 (i := 65) rfl rfl
theorem mw_4_66 : Cond.methodLink "FoldedMonthsModel" 196 yX4_number ∈ GW := gt_4 (i := 66) rfl rfl
theorem mw_4_68 : Cond.instanceMethod yX4_number ∈ GW := gt_4 (i := 68) rfl rfl
theorem mw_4_69 : Cond.code yX4_number cX4_number 2 (Option.some FieldType.int) ∈ GW := gt_4 (i := 69) rfl rfl
theorem mw_4_70 : Cond.constantLong "FoldedMonthsModel" 192 (48 : Int64) ∈ GW := gt_4 (i := 70) rfl rfl
theorem mw_4_71 : Cond.constantLong "FoldedMonthsModel" 194 (57 : Int64) ∈ GW := gt_4 (i := 71) rfl rfl
theorem mw_4_72 : Cond.constantLong "FoldedMonthsModel" 199 (97 : Int64) ∈ GW := gt_4 (i := 72) rfl rfl
theorem mw_4_73 : Cond.constantLong "FoldedMonthsModel" 201 (112 : Int64) ∈ GW := gt_4 (i := 73) rfl rfl
theorem mw_4_74 : Cond.methodLink "FoldedMonthsModel" 203 yX4_readRanges ∈ GW := gt_4 (i := 74) rfl rfl
theorem mw_4_76 : Cond.instanceMethod yX4_readRanges ∈ GW := gt_4 (i := 76) rfl rfl
theorem mw_4_77 : Cond.code yX4_readRanges cX4_readRanges 2 (Option.some FieldType.boolean) ∈ GW := gt_4 (i := 77) rfl rfl
theorem mw_4_78 : Cond.methodLink "FoldedMonthsLaw" 108 yX4_carryOut ∈ GW := gt_4 (i := 78) rfl rfl
theorem mw_4_79 : Cond.instanceMethod yX4_carryOut ∈ GW := gt_4 (i := 79) rfl rfl
theorem mw_4_80 : Cond.selects "FoldedMonthsModel" yX4_carryOut yX4_carryOut ∈ GW := gt_4 (i := 80) rfl rfl
theorem mw_4_81 : Cond.code yX4_carryOut cX4_carryOut 3 (Option.some FieldType.int) ∈ GW := gt_4 (i := 81) rfl rfl
theorem mw_4_82 : Cond.methodLink "FoldedMonthsModel" 210 yX4_fault ∈ GW := gt_4 (i := 82) rfl rfl
theorem mw_4_83 : Cond.methodLink "FoldedMonthsModel" 213 yX4_doOrder ∈ GW := gt_4 (i := 83) rfl rfl
theorem mw_4_85 : Cond.instanceMethod yX4_doOrder ∈ GW := gt_4 (i := 85) rfl rfl
theorem mw_4_86 : Cond.code yX4_doOrder cX4_doOrder 6 (Option.some FieldType.boolean) ∈ GW := gt_4 (i := 86) rfl rfl
theorem mw_4_87 : Cond.methodLink "FoldedMonthsLaw" 112 yX4_undo ∈ GW := gt_4 (i := 87) rfl rfl
theorem mw_4_88 : Cond.instanceMethod yX4_undo ∈ GW := gt_4 (i := 88) rfl rfl
theorem mw_4_89 : Cond.selects "FoldedMonthsModel" yX4_undo yX4_undo ∈ GW := gt_4 (i := 89) rfl rfl
theorem mw_4_90 : Cond.code yX4_undo cX4_undo 1 (Option.some FieldType.int) ∈ GW := gt_4 (i := 90) rfl rfl
theorem mw_4_91 : Cond.methodLink "FoldedMonthsLaw" 116 yX4_save ∈ GW := gt_4 (i := 91) rfl rfl
theorem mw_4_92 : Cond.instanceMethod yX4_save ∈ GW := gt_4 (i := 92) rfl rfl
theorem mw_4_93 : Cond.selects "FoldedMonthsModel" yX4_save yX4_save ∈ GW := gt_4 (i := 93) rfl rfl
theorem mw_4_94 : Cond.code yX4_save cX4_save 2 (Option.some FieldType.int) ∈ GW := gt_4 (i := 94) rfl rfl
theorem mw_4_95 : Cond.methodLink "FoldedMonthsLaw" 120 yX4_restore ∈ GW := gt_4 (i := 95) rfl rfl
theorem mw_4_96 : Cond.instanceMethod yX4_restore ∈ GW := gt_4 (i := 96) rfl rfl
theorem mw_4_97 : Cond.selects "FoldedMonthsModel" yX4_restore yX4_restore ∈ GW := gt_4 (i := 97) rfl rfl
theorem mw_4_98 : Cond.code yX4_restore cX4_restore 2 (Option.some FieldType.int) ∈ GW := gt_4 (i := 98) rfl rfl
theorem mw_4_99 : Cond.constantLong "FoldedMonthsLaw" 89 (4294967295 : Int64) ∈ GW := gt_4 (i := 99) rfl rfl
theorem mw_p1_0 : Cond.selects "FoldedMonths" yX3_changeKeep yX3_changeKeep ∈ GW := gp_1 (q := (yX3_changeKeep, 7)) (i := 0) rfl
theorem mw_p1_1 : Cond.selects "FoldedMonths" yX3_record yX3_record ∈ GW := gp_1 (q := (yX3_record, 7)) (i := 1) rfl
theorem mw_p1_2 : Cond.selects "FoldedMonths" yX3_moveOldestToTheEnd yX3_moveOldestToTheEnd ∈ GW := gp_1 (q := (yX3_moveOldestToTheEnd, 7)) (i := 2) rfl
theorem mw_p1_3 : Cond.selects "FoldedMonths" yX3_changeOpen yX3_changeOpen ∈ GW := gp_1 (q := (yX3_changeOpen, 7)) (i := 3) rfl
theorem mw_p1_4 : Cond.selects "FoldedMonths" yX3_passError yX3_passError ∈ GW := gp_1 (q := (yX3_passError, 7)) (i := 4) rfl
theorem mw_p1_5 : Cond.selects "FoldedMonths" yX3_changeDays yX3_changeDays ∈ GW := gp_1 (q := (yX3_changeDays, 7)) (i := 5) rfl
theorem mw_p1_6 : Cond.selects "FoldedMonths" yX3_changeError yX3_changeError ∈ GW := gp_1 (q := (yX3_changeError, 7)) (i := 6) rfl
theorem mw_p1_7 : Cond.selects "FoldedMonths" yX3_carryStep yX3_carryStep ∈ GW := gp_1 (q := (yX3_carryStep, 7)) (i := 7) rfl
theorem mw_p1_8 : Cond.selects "FoldedMonthsModel" yX4_record yX4_record ∈ GW := gp_1 (q := (yX4_record, 10)) (i := 8) rfl
theorem mw_p1_9 : Cond.selects "FoldedMonthsModel" yX4_whyNotPass yX4_whyNotPass ∈ GW := gp_1 (q := (yX4_whyNotPass, 10)) (i := 9) rfl
theorem mw_p1_10 : Cond.selects "FoldedMonthsModel" yX4_passOn yX4_passOn ∈ GW := gp_1 (q := (yX4_passOn, 10)) (i := 10) rfl
theorem mw_p1_11 : Cond.selects "FoldedMonthsModel" yX4_monthOf yX4_monthOf ∈ GW := gp_1 (q := (yX4_monthOf, 10)) (i := 11) rfl
theorem mw_p1_12 : Cond.selects "FoldedMonthsModel" yX4_isOld yX4_isOld ∈ GW := gp_1 (q := (yX4_isOld, 10)) (i := 12) rfl
theorem mw_p1_13 : Cond.selects "FoldedMonthsModel" yX4_whyNotMark yX4_whyNotMark ∈ GW := gp_1 (q := (yX4_whyNotMark, 10)) (i := 13) rfl
theorem mw_p1_14 : Cond.selects "FoldedMonthsModel" yX4_markOn yX4_markOn ∈ GW := gp_1 (q := (yX4_markOn, 10)) (i := 14) rfl
theorem mw_p1_15 : Cond.selects "FoldedMonthsModel" yX4_meant yX4_meant ∈ GW := gp_1 (q := (yX4_meant, 10)) (i := 15) rfl
theorem mw_p2_0 : Cond.selects "FoldedMonthsModel" yX4_daysOf yX4_daysOf ∈ GW := gp_2 (q := (yX4_daysOf, 10)) (i := 0) rfl
theorem mw_p2_1 : Cond.selects "FoldedMonthsModel" yX4_lay yX4_lay ∈ GW := gp_2 (q := (yX4_lay, 10)) (i := 1) rfl
theorem mw_p2_2 : Cond.selects "FoldedMonthsModel" yX4_whole yX4_whole ∈ GW := gp_2 (q := (yX4_whole, 10)) (i := 2) rfl
theorem mw_p2_3 : Cond.selects "FoldedMonthsModel" yX4_look yX4_look ∈ GW := gp_2 (q := (yX4_look, 10)) (i := 3) rfl
theorem mw_p2_4 : Cond.selects "FoldedMonthsModel" yX4_lookAll yX4_lookAll ∈ GW := gp_2 (q := (yX4_lookAll, 10)) (i := 4) rfl
theorem mw_p2_5 : Cond.selects "FoldedMonthsModel" yX4_readOrder yX4_readOrder ∈ GW := gp_2 (q := (yX4_readOrder, 10)) (i := 5) rfl
theorem mw_p2_6 : Cond.selects "FoldedMonthsModel" yX4_sign yX4_sign ∈ GW := gp_2 (q := (yX4_sign, 10)) (i := 6) rfl
theorem mw_p2_7 : Cond.selects "FoldedMonthsModel" yX4_number yX4_number ∈ GW := gp_2 (q := (yX4_number, 10)) (i := 7) rfl
theorem mw_p2_8 : Cond.selects "FoldedMonthsModel" yX4_readRanges yX4_readRanges ∈ GW := gp_2 (q := (yX4_readRanges, 10)) (i := 8) rfl
theorem mw_p2_9 : Cond.selects "FoldedMonthsModel" yX4_doOrder yX4_doOrder ∈ GW := gp_2 (q := (yX4_doOrder, 10)) (i := 9) rfl
theorem iGX0 : ∀ k, k < 11 → u_lay RX0 TX0 k ∈ GW := fun k hk => match k, hk with
  | 0, _ => mw_1_45
  | 1, _ => mw_1_47
  | 2, _ => mw_1_49
  | 3, _ => mw_1_51
  | 4, _ => mw_1_53
  | 5, _ => mw_1_55
  | 6, _ => mw_1_57
  | 7, _ => mw_1_59
  | 8, _ => mw_1_61
  | 9, _ => mw_1_63
  | 10, _ => mw_1_65
  | k + 11, h => absurd h (by omega)
theorem inGX0 : ∀ w ∈ u_ws RX0 TX0 11, w ∈ GW := by
  intro w h
  obtain ⟨k, hk, rfl⟩ := List.mem_map.mp h
  exact iGX0 k (List.mem_range.mp hk)
theorem iGX1 : ∀ k, k < 6 → u_lay RX1 TX1 k ∈ GW := fun k hk => match k, hk with
  | 0, _ => mw_1_114
  | 1, _ => mw_1_116
  | 2, _ => mw_1_118
  | 3, _ => mw_1_120
  | 4, _ => mw_1_122
  | 5, _ => mw_1_124
  | k + 6, h => absurd h (by omega)
theorem inGX1 : ∀ w ∈ u_ws RX1 TX1 6, w ∈ GW := by
  intro w h
  obtain ⟨k, hk, rfl⟩ := List.mem_map.mp h
  exact iGX1 k (List.mem_range.mp hk)
theorem iGX2 : ∀ k, k < 5 → u_lay RX2 TX2 k ∈ GW := fun k hk => match k, hk with
  | 0, _ => mw_1_93
  | 1, _ => mw_1_95
  | 2, _ => mw_1_97
  | 3, _ => mw_1_99
  | 4, _ => mw_1_101
  | k + 5, h => absurd h (by omega)
theorem inGX2 : ∀ w ∈ u_ws RX2 TX2 5, w ∈ GW := by
  intro w h
  obtain ⟨k, hk, rfl⟩ := List.mem_map.mp h
  exact iGX2 k (List.mem_range.mp hk)
theorem iGX3 : ∀ k, k < 7 → u_lay RX3 TX3 k ∈ GW := fun k hk => match k, hk with
  | 0, _ => mw_1_134
  | 1, _ => mw_1_136
  | 2, _ => mw_1_138
  | 3, _ => mw_1_140
  | 4, _ => mw_1_142
  | 5, _ => mw_1_144
  | 6, _ => mw_1_146
  | k + 7, h => absurd h (by omega)
theorem inGX3 : ∀ w ∈ u_ws RX3 TX3 7, w ∈ GW := by
  intro w h
  obtain ⟨k, hk, rfl⟩ := List.mem_map.mp h
  exact iGX3 k (List.mem_range.mp hk)
theorem iGX4 : ∀ k, k < 10 → u_lay RX4 TX4 k ∈ GW := fun k hk => match k, hk with
  | 0, _ => mw_3_64
  | 1, _ => mw_3_66
  | 2, _ => mw_3_68
  | 3, _ => mw_3_70
  | 4, _ => mw_3_72
  | 5, _ => mw_3_74
  | 6, _ => mw_3_76
  | 7, _ => mw_3_78
  | 8, _ => mw_3_80
  | 9, _ => mw_3_82
  | k + 10, h => absurd h (by omega)
theorem inGX4 : ∀ w ∈ u_ws RX4 TX4 10, w ∈ GW := by
  intro w h
  obtain ⟨k, hk, rfl⟩ := List.mem_map.mp h
  exact iGX4 k (List.mem_range.mp hk)
