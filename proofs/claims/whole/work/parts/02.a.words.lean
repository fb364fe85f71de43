def wsL : List Cond := lw_tbl.filter goodWord
theorem ws_tbl : ∀ w ∈ wsL, w ∈ lw_tbl := fun w h => (List.mem_filter.mp h).1
theorem ws_gd : ∀ w ∈ wsL, (w.onTables && w.keeps) = true ∨ ∃ ty, w = .arrayClass ty := fun w h => good_of_word (List.mem_filter.mp h).2
theorem m_0 : (Cond.classLink RL 8 RX10) ∈ wsL := List.mem_filter.mpr ⟨List.mem_of_getElem? (i := 76) (by decide +kernel), by decide +kernel⟩
theorem m_1 : (Cond.instantiable RX10 6) ∈ wsL := List.mem_filter.mpr ⟨List.mem_of_getElem? (i := 77) (by decide +kernel), by decide +kernel⟩
theorem m_2 : (Cond.initialized RX10) ∈ wsL := List.mem_filter.mpr ⟨List.mem_of_getElem? (i := 46) (by decide +kernel), by decide +kernel⟩
theorem m_3 : (Cond.classLink RL 23 RX11) ∈ wsL := List.mem_filter.mpr ⟨List.mem_of_getElem? (i := 1056) (by decide +kernel), by decide +kernel⟩
theorem m_4 : (Cond.instantiable RX11 35) ∈ wsL := List.mem_filter.mpr ⟨List.mem_of_getElem? (i := 1057) (by decide +kernel), by decide +kernel⟩
theorem m_5 : (Cond.initialized RX11) ∈ wsL := List.mem_filter.mpr ⟨List.mem_of_getElem? (i := 62) (by decide +kernel), by decide +kernel⟩
theorem m_6 : (Cond.arrayClass .long) ∈ wsL := List.mem_filter.mpr ⟨List.mem_of_getElem? (i := 339) (by decide +kernel), by decide +kernel⟩
theorem m_7 : (Cond.methodLink RL 22 yX10_init) ∈ wsL := List.mem_filter.mpr ⟨List.mem_of_getElem? (i := 78) (by decide +kernel), by decide +kernel⟩
theorem m_8 : (Cond.instanceMethod yX10_init) ∈ wsL := List.mem_filter.mpr ⟨List.mem_of_getElem? (i := 79) (by decide +kernel), by decide +kernel⟩
theorem m_9 : (Cond.code yX10_init cX10_init 1 none) ∈ wsL := List.mem_filter.mpr ⟨List.mem_of_getElem? (i := 80) (by decide +kernel), by decide +kernel⟩
theorem m_10 : (Cond.methodLink RX10 1 objectInit) ∈ wsL := List.mem_filter.mpr ⟨List.mem_of_getElem? (i := 81) (by decide +kernel), by decide +kernel⟩
theorem m_11 : (Cond.instanceMethod objectInit) ∈ wsL := List.mem_filter.mpr ⟨List.mem_of_getElem? (i := 82) (by decide +kernel), by decide +kernel⟩
theorem m_12 : (Cond.code objectInit ⟨#[0xb1]⟩ 1 none) ∈ wsL := List.mem_filter.mpr ⟨List.mem_of_getElem? (i := 83) (by decide +kernel), by decide +kernel⟩
theorem m_13 : (Cond.classLink RX10 7 RX8) ∈ wsL := List.mem_filter.mpr ⟨List.mem_of_getElem? (i := 84) (by decide +kernel), by decide +kernel⟩
theorem m_14 : (Cond.instantiable RX8 2) ∈ wsL := List.mem_filter.mpr ⟨List.mem_of_getElem? (i := 85) (by decide +kernel), by decide +kernel⟩
theorem m_15 : (Cond.initialized RX8) ∈ wsL := List.mem_filter.mpr ⟨List.mem_of_getElem? (i := 47) (by decide +kernel), by decide +kernel⟩
theorem m_16 : (Cond.fieldLink RX10 10 "BookClub" "tape" "LBookClub$Tape;") ∈ wsL := List.mem_filter.mpr ⟨List.mem_of_getElem? (i := 357) (by decide +kernel), by decide +kernel⟩
theorem m_17 : (Cond.classLink RX10 16 RX7) ∈ wsL := List.mem_filter.mpr ⟨List.mem_of_getElem? (i := 99) (by decide +kernel), by decide +kernel⟩
theorem m_18 : (Cond.instantiable RX7 5) ∈ wsL := List.mem_filter.mpr ⟨List.mem_of_getElem? (i := 100) (by decide +kernel), by decide +kernel⟩
theorem m_19 : (Cond.initialized RX7) ∈ wsL := List.mem_filter.mpr ⟨List.mem_of_getElem? (i := 48) (by decide +kernel), by decide +kernel⟩
theorem m_20 : (Cond.fieldLink RX10 19 "BookClub" "ruleBook" "LBookClub$RuleBook;") ∈ wsL := List.mem_filter.mpr ⟨List.mem_of_getElem? (i := 358) (by decide +kernel), by decide +kernel⟩
theorem m_21 : (Cond.classLink RX10 23 RX9) ∈ wsL := List.mem_filter.mpr ⟨List.mem_of_getElem? (i := 122) (by decide +kernel), by decide +kernel⟩
theorem m_22 : (Cond.instantiable RX9 5) ∈ wsL := List.mem_filter.mpr ⟨List.mem_of_getElem? (i := 123) (by decide +kernel), by decide +kernel⟩
theorem m_23 : (Cond.initialized RX9) ∈ wsL := List.mem_filter.mpr ⟨List.mem_of_getElem? (i := 49) (by decide +kernel), by decide +kernel⟩
theorem m_24 : (Cond.fieldLink RX10 28 "BookClub" "reader" "LBookClub$TextReader;") ∈ wsL := List.mem_filter.mpr ⟨List.mem_of_getElem? (i := 359) (by decide +kernel), by decide +kernel⟩
theorem m_25 : (Cond.classLink RX10 32 RX2) ∈ wsL := List.mem_filter.mpr ⟨List.mem_of_getElem? (i := 146) (by decide +kernel), by decide +kernel⟩
theorem m_26 : (Cond.instantiable RX2 8) ∈ wsL := List.mem_filter.mpr ⟨List.mem_of_getElem? (i := 147) (by decide +kernel), by decide +kernel⟩
theorem m_27 : (Cond.initialized RX2) ∈ wsL := List.mem_filter.mpr ⟨List.mem_of_getElem? (i := 50) (by decide +kernel), by decide +kernel⟩
theorem m_28 : (Cond.fieldLink RX10 37 "BookClub" "club" "LBookClub$Club;") ∈ wsL := List.mem_filter.mpr ⟨List.mem_of_getElem? (i := 360) (by decide +kernel), by decide +kernel⟩
theorem m_29 : (Cond.classLink RX10 41 RX0) ∈ wsL := List.mem_filter.mpr ⟨List.mem_of_getElem? (i := 325) (by decide +kernel), by decide +kernel⟩
theorem m_30 : (Cond.instantiable RX0 2) ∈ wsL := List.mem_filter.mpr ⟨List.mem_of_getElem? (i := 326) (by decide +kernel), by decide +kernel⟩
theorem m_31 : (Cond.initialized RX0) ∈ wsL := List.mem_filter.mpr ⟨List.mem_of_getElem? (i := 60) (by decide +kernel), by decide +kernel⟩
theorem m_32 : (Cond.fieldLink RX10 44 "BookClub" "chances" "LBookClub$Chances;") ∈ wsL := List.mem_filter.mpr ⟨List.mem_of_getElem? (i := 361) (by decide +kernel), by decide +kernel⟩
theorem m_33 : (Cond.classLink RX10 48 RX4) ∈ wsL := List.mem_filter.mpr ⟨List.mem_of_getElem? (i := 340) (by decide +kernel), by decide +kernel⟩
theorem m_34 : (Cond.instantiable RX4 3) ∈ wsL := List.mem_filter.mpr ⟨List.mem_of_getElem? (i := 341) (by decide +kernel), by decide +kernel⟩
theorem m_35 : (Cond.initialized RX4) ∈ wsL := List.mem_filter.mpr ⟨List.mem_of_getElem? (i := 61) (by decide +kernel), by decide +kernel⟩
theorem m_36 : (Cond.fieldLink RX10 51 "BookClub" "jury" "LBookClub$Jury;") ∈ wsL := List.mem_filter.mpr ⟨List.mem_of_getElem? (i := 362) (by decide +kernel), by decide +kernel⟩
theorem m_37 : (Cond.methodLink RX10 9 yX8_init) ∈ wsL := List.mem_filter.mpr ⟨List.mem_of_getElem? (i := 86) (by decide +kernel), by decide +kernel⟩
theorem m_38 : (Cond.instanceMethod yX8_init) ∈ wsL := List.mem_filter.mpr ⟨List.mem_of_getElem? (i := 87) (by decide +kernel), by decide +kernel⟩
theorem m_39 : (Cond.code yX8_init cX8_init 1 none) ∈ wsL := List.mem_filter.mpr ⟨List.mem_of_getElem? (i := 88) (by decide +kernel), by decide +kernel⟩
theorem m_40 : (Cond.methodLink RX8 3 objectInit) ∈ wsL := List.mem_filter.mpr ⟨List.mem_of_getElem? (i := 89) (by decide +kernel), by decide +kernel⟩
theorem m_41 : (Cond.arrayClass .int) ∈ wsL := List.mem_filter.mpr ⟨List.mem_of_getElem? (i := 98) (by decide +kernel), by decide +kernel⟩
theorem m_42 : (Cond.fieldLink RX8 11 "BookClub$Tape" "bytes" "[I") ∈ wsL := List.mem_filter.mpr ⟨List.mem_of_getElem? (i := 90) (by decide +kernel), by decide +kernel⟩
theorem m_43 : (Cond.fieldLink RX8 15 "BookClub$Tape" "length" "I") ∈ wsL := List.mem_filter.mpr ⟨List.mem_of_getElem? (i := 91) (by decide +kernel), by decide +kernel⟩
theorem m_44 : (Cond.methodLink RX10 18 yX7_init) ∈ wsL := List.mem_filter.mpr ⟨List.mem_of_getElem? (i := 101) (by decide +kernel), by decide +kernel⟩
theorem m_45 : (Cond.instanceMethod yX7_init) ∈ wsL := List.mem_filter.mpr ⟨List.mem_of_getElem? (i := 102) (by decide +kernel), by decide +kernel⟩
theorem m_46 : (Cond.code yX7_init cX7_init 1 none) ∈ wsL := List.mem_filter.mpr ⟨List.mem_of_getElem? (i := 103) (by decide +kernel), by decide +kernel⟩
theorem m_47 : (Cond.methodLink RX7 1 objectInit) ∈ wsL := List.mem_filter.mpr ⟨List.mem_of_getElem? (i := 104) (by decide +kernel), by decide +kernel⟩
theorem m_48 : (Cond.fieldLink RX7 9 "BookClub$RuleBook" "names" "[I") ∈ wsL := List.mem_filter.mpr ⟨List.mem_of_getElem? (i := 105) (by decide +kernel), by decide +kernel⟩
theorem m_49 : (Cond.fieldLink RX7 13 "BookClub$RuleBook" "values" "[I") ∈ wsL := List.mem_filter.mpr ⟨List.mem_of_getElem? (i := 106) (by decide +kernel), by decide +kernel⟩
theorem m_50 : (Cond.fieldLink RX7 16 "BookClub$RuleBook" "months" "[I") ∈ wsL := List.mem_filter.mpr ⟨List.mem_of_getElem? (i := 107) (by decide +kernel), by decide +kernel⟩
theorem m_51 : (Cond.fieldLink RX7 19 "BookClub$RuleBook" "count" "I") ∈ wsL := List.mem_filter.mpr ⟨List.mem_of_getElem? (i := 108) (by decide +kernel), by decide +kernel⟩
theorem m_52 : (Cond.fieldLink RX7 23 "BookClub$RuleBook" "proposed" "I") ∈ wsL := List.mem_filter.mpr ⟨List.mem_of_getElem? (i := 110) (by decide +kernel), by decide +kernel⟩
theorem m_53 : (Cond.methodLink RX10 25 yX9_init) ∈ wsL := List.mem_filter.mpr ⟨List.mem_of_getElem? (i := 124) (by decide +kernel), by decide +kernel⟩
theorem m_54 : (Cond.instanceMethod yX9_init) ∈ wsL := List.mem_filter.mpr ⟨List.mem_of_getElem? (i := 125) (by decide +kernel), by decide +kernel⟩
theorem m_55 : (Cond.code yX9_init cX9_init 3 none) ∈ wsL := List.mem_filter.mpr ⟨List.mem_of_getElem? (i := 126) (by decide +kernel), by decide +kernel⟩
theorem m_56 : (Cond.methodLink RX9 3 objectInit) ∈ wsL := List.mem_filter.mpr ⟨List.mem_of_getElem? (i := 127) (by decide +kernel), by decide +kernel⟩
theorem m_57 : (Cond.fieldLink RX9 9 "BookClub$TextReader" "tape" "LBookClub$Tape;") ∈ wsL := List.mem_filter.mpr ⟨List.mem_of_getElem? (i := 128) (by decide +kernel), by decide +kernel⟩
theorem m_58 : (Cond.fieldLink RX9 15 "BookClub$TextReader" "ruleBook" "LBookClub$RuleBook;") ∈ wsL := List.mem_filter.mpr ⟨List.mem_of_getElem? (i := 129) (by decide +kernel), by decide +kernel⟩
theorem m_59 : (Cond.fieldLink RX9 19 "BookClub$TextReader" "at" "I") ∈ wsL := List.mem_filter.mpr ⟨List.mem_of_getElem? (i := 130) (by decide +kernel), by decide +kernel⟩
theorem m_60 : (Cond.fieldLink RX9 23 "BookClub$TextReader" "fault" "I") ∈ wsL := List.mem_filter.mpr ⟨List.mem_of_getElem? (i := 131) (by decide +kernel), by decide +kernel⟩
theorem m_61 : (Cond.fieldLink RX9 26 "BookClub$TextReader" "place" "I") ∈ wsL := List.mem_filter.mpr ⟨List.mem_of_getElem? (i := 133) (by decide +kernel), by decide +kernel⟩
theorem m_62 : (Cond.methodLink RX10 34 yX2_init) ∈ wsL := List.mem_filter.mpr ⟨List.mem_of_getElem? (i := 148) (by decide +kernel), by decide +kernel⟩
theorem m_63 : (Cond.instanceMethod yX2_init) ∈ wsL := List.mem_filter.mpr ⟨List.mem_of_getElem? (i := 149) (by decide +kernel), by decide +kernel⟩
theorem m_64 : (Cond.code yX2_init cX2_init 2 none) ∈ wsL := List.mem_filter.mpr ⟨List.mem_of_getElem? (i := 150) (by decide +kernel), by decide +kernel⟩
theorem m_65 : (Cond.methodLink RX2 3 objectInit) ∈ wsL := List.mem_filter.mpr ⟨List.mem_of_getElem? (i := 151) (by decide +kernel), by decide +kernel⟩
theorem m_66 : (Cond.fieldLink RX2 9 "BookClub$Club" "ruleBook" "LBookClub$RuleBook;") ∈ wsL := List.mem_filter.mpr ⟨List.mem_of_getElem? (i := 297) (by decide +kernel), by decide +kernel⟩
theorem m_67 : (Cond.fieldLink RX2 15 "BookClub$Club" "lags" "[I") ∈ wsL := List.mem_filter.mpr ⟨List.mem_of_getElem? (i := 298) (by decide +kernel), by decide +kernel⟩
theorem m_68 : (Cond.arrayClass .boolean) ∈ wsL := List.mem_filter.mpr ⟨List.mem_of_getElem? (i := 181) (by decide +kernel), by decide +kernel⟩
theorem m_69 : (Cond.fieldLink RX2 25 "BookClub$Club" "hadGift" "[Z") ∈ wsL := List.mem_filter.mpr ⟨List.mem_of_getElem? (i := 299) (by decide +kernel), by decide +kernel⟩
theorem m_70 : (Cond.classLink RX2 29 RJx4a65c) ∈ wsL := List.mem_filter.mpr ⟨List.mem_of_getElem? (i := 155) (by decide +kernel), by decide +kernel⟩
theorem m_71 : (Cond.instantiable RJx4a65c 3) ∈ wsL := List.mem_filter.mpr ⟨List.mem_of_getElem? (i := 156) (by decide +kernel), by decide +kernel⟩
theorem m_72 : (Cond.initialized RJx4a65c) ∈ wsL := List.mem_filter.mpr ⟨List.mem_of_getElem? (i := 54) (by decide +kernel), by decide +kernel⟩
theorem m_73 : (Cond.fieldLink RX2 32 "BookClub$Club" "members" "Ljava/util/ArrayList;") ∈ wsL := List.mem_filter.mpr ⟨List.mem_of_getElem? (i := 300) (by decide +kernel), by decide +kernel⟩
theorem m_74 : (Cond.fieldLink RX2 36 "BookClub$Club" "choices" "Ljava/util/ArrayList;") ∈ wsL := List.mem_filter.mpr ⟨List.mem_of_getElem? (i := 302) (by decide +kernel), by decide +kernel⟩
theorem m_75 : (Cond.classLink RX2 39 RX5) ∈ wsL := List.mem_filter.mpr ⟨List.mem_of_getElem? (i := 182) (by decide +kernel), by decide +kernel⟩
theorem m_76 : (Cond.instantiable RX5 1) ∈ wsL := List.mem_filter.mpr ⟨List.mem_of_getElem? (i := 183) (by decide +kernel), by decide +kernel⟩
theorem m_77 : (Cond.initialized RX5) ∈ wsL := List.mem_filter.mpr ⟨List.mem_of_getElem? (i := 55) (by decide +kernel), by decide +kernel⟩
theorem m_78 : (Cond.fieldLink RX2 42 "BookClub$Club" "ledger" "LBookClub$Ledger;") ∈ wsL := List.mem_filter.mpr ⟨List.mem_of_getElem? (i := 303) (by decide +kernel), by decide +kernel⟩
theorem m_79 : (Cond.classLink RX2 46 RX1) ∈ wsL := List.mem_filter.mpr ⟨List.mem_of_getElem? (i := 194) (by decide +kernel), by decide +kernel⟩
theorem m_80 : (Cond.instantiable RX1 8) ∈ wsL := List.mem_filter.mpr ⟨List.mem_of_getElem? (i := 195) (by decide +kernel), by decide +kernel⟩
theorem m_81 : (Cond.initialized RX1) ∈ wsL := List.mem_filter.mpr ⟨List.mem_of_getElem? (i := 56) (by decide +kernel), by decide +kernel⟩
theorem m_82 : (Cond.fieldLink RX2 49 "BookClub$Club" "choiceNow" "LBookClub$Choice;") ∈ wsL := List.mem_filter.mpr ⟨List.mem_of_getElem? (i := 305) (by decide +kernel), by decide +kernel⟩
theorem m_83 : (Cond.fieldLink RX2 57 "BookClub$Club" "month" "I") ∈ wsL := List.mem_filter.mpr ⟨List.mem_of_getElem? (i := 306) (by decide +kernel), by decide +kernel⟩
theorem m_84 : (Cond.methodLink RX2 19 yJ7_fill_53178) ∈ wsL := List.mem_filter.mpr ⟨List.mem_of_getElem? (i := 152) (by decide +kernel), by decide +kernel⟩
theorem m_85 : (Cond.static yJ7_fill_53178) ∈ wsL := List.mem_filter.mpr ⟨List.mem_of_getElem? (i := 153) (by decide +kernel), by decide +kernel⟩
theorem m_86 : (Cond.initialized RJ7) ∈ wsL := List.mem_filter.mpr ⟨List.mem_of_getElem? (i := 51) (by decide +kernel), by decide +kernel⟩
theorem m_87 : (Cond.code yJ7_fill_53178 cJ7_fill_53178 4 none) ∈ wsL := List.mem_filter.mpr ⟨List.mem_of_getElem? (i := 154) (by decide +kernel), by decide +kernel⟩
theorem m_88 : (Cond.methodLink RX2 31 yJx4a65c_init_da8c8) ∈ wsL := List.mem_filter.mpr ⟨List.mem_of_getElem? (i := 157) (by decide +kernel), by decide +kernel⟩
theorem m_89 : (Cond.instanceMethod yJx4a65c_init_da8c8) ∈ wsL := List.mem_filter.mpr ⟨List.mem_of_getElem? (i := 158) (by decide +kernel), by decide +kernel⟩
theorem m_90 : (Cond.code yJx4a65c_init_da8c8 cJx4a65c_init_da8c8 1 none) ∈ wsL := List.mem_filter.mpr ⟨List.mem_of_getElem? (i := 159) (by decide +kernel), by decide +kernel⟩
theorem m_91 : (Cond.fieldLink RJx4a65c 39 "java/util/ArrayList" "DEFAULTCAPACITY_EMPTY_ELEMENTDATA" "[Ljava/lang/Object;") ∈ wsL := List.mem_filter.mpr ⟨List.mem_of_getElem? (i := 167) (by decide +kernel), by decide +kernel⟩
theorem m_92 : (Cond.fieldLink RJx4a65c 9 "java/util/ArrayList" "elementData" "[Ljava/lang/Object;") ∈ wsL := List.mem_filter.mpr ⟨List.mem_of_getElem? (i := 169) (by decide +kernel), by decide +kernel⟩
theorem m_93 : (Cond.methodLink RJx4a65c 1 yJxc12de_init_da8c8) ∈ wsL := List.mem_filter.mpr ⟨List.mem_of_getElem? (i := 160) (by decide +kernel), by decide +kernel⟩
theorem m_94 : (Cond.instanceMethod yJxc12de_init_da8c8) ∈ wsL := List.mem_filter.mpr ⟨List.mem_of_getElem? (i := 161) (by decide +kernel), by decide +kernel⟩
theorem m_95 : (Cond.initialized RJxc12de) ∈ wsL := List.mem_filter.mpr ⟨List.mem_of_getElem? (i := 53) (by decide +kernel), by decide +kernel⟩
theorem m_96 : (Cond.code yJxc12de_init_da8c8 cJxc12de_init_da8c8 1 none) ∈ wsL := List.mem_filter.mpr ⟨List.mem_of_getElem? (i := 162) (by decide +kernel), by decide +kernel⟩
theorem m_97 : (Cond.fieldLink RJxc12de 7 "java/util/AbstractList" "modCount" "I") ∈ wsL := List.mem_filter.mpr ⟨List.mem_of_getElem? (i := 171) (by decide +kernel), by decide +kernel⟩
theorem m_98 : (Cond.methodLink RJxc12de 1 yJxa1e45_init_da8c8) ∈ wsL := List.mem_filter.mpr ⟨List.mem_of_getElem? (i := 163) (by decide +kernel), by decide +kernel⟩
theorem m_99 : (Cond.instanceMethod yJxa1e45_init_da8c8) ∈ wsL := List.mem_filter.mpr ⟨List.mem_of_getElem? (i := 164) (by decide +kernel), by decide +kernel⟩
theorem m_100 : (Cond.initialized RJxa1e45) ∈ wsL := List.mem_filter.mpr ⟨List.mem_of_getElem? (i := 52) (by decide +kernel), by decide +kernel⟩
theorem m_101 : (Cond.code yJxa1e45_init_da8c8 cJxa1e45_init_da8c8 1 none) ∈ wsL := List.mem_filter.mpr ⟨List.mem_of_getElem? (i := 165) (by decide +kernel), by decide +kernel⟩
theorem m_102 : (Cond.methodLink RJxa1e45 1 objectInit) ∈ wsL := List.mem_filter.mpr ⟨List.mem_of_getElem? (i := 166) (by decide +kernel), by decide +kernel⟩
theorem m_103 : (Cond.methodLink RX2 41 yX5_init) ∈ wsL := List.mem_filter.mpr ⟨List.mem_of_getElem? (i := 184) (by decide +kernel), by decide +kernel⟩
theorem m_104 : (Cond.instanceMethod yX5_init) ∈ wsL := List.mem_filter.mpr ⟨List.mem_of_getElem? (i := 185) (by decide +kernel), by decide +kernel⟩
theorem m_105 : (Cond.code yX5_init cX5_init 1 none) ∈ wsL := List.mem_filter.mpr ⟨List.mem_of_getElem? (i := 186) (by decide +kernel), by decide +kernel⟩
theorem m_106 : (Cond.methodLink RX5 1 objectInit) ∈ wsL := List.mem_filter.mpr ⟨List.mem_of_getElem? (i := 187) (by decide +kernel), by decide +kernel⟩
theorem m_107 : (Cond.classLink RX5 7 RJx4a65c) ∈ wsL := List.mem_filter.mpr ⟨List.mem_of_getElem? (i := 188) (by decide +kernel), by decide +kernel⟩
theorem m_108 : (Cond.fieldLink RX5 10 "BookClub$Ledger" "entries" "Ljava/util/ArrayList;") ∈ wsL := List.mem_filter.mpr ⟨List.mem_of_getElem? (i := 190) (by decide +kernel), by decide +kernel⟩
theorem m_109 : (Cond.methodLink RX5 9 yJx4a65c_init_da8c8) ∈ wsL := List.mem_filter.mpr ⟨List.mem_of_getElem? (i := 189) (by decide +kernel), by decide +kernel⟩
theorem m_110 : (Cond.instanceMethod yX1_init) ∈ wsL := List.mem_filter.mpr ⟨List.mem_of_getElem? (i := 197) (by decide +kernel), by decide +kernel⟩
theorem m_111 : (Cond.code yX1_init cX1_init 1 none) ∈ wsL := List.mem_filter.mpr ⟨List.mem_of_getElem? (i := 198) (by decide +kernel), by decide +kernel⟩
theorem m_112 : (Cond.methodLink RX1 3 objectInit) ∈ wsL := List.mem_filter.mpr ⟨List.mem_of_getElem? (i := 199) (by decide +kernel), by decide +kernel⟩
theorem m_113 : (Cond.methodLink RX2 53 yJx4a65c_add_9ea2d) ∈ wsL := List.mem_filter.mpr ⟨List.mem_of_getElem? (i := 236) (by decide +kernel), by decide +kernel⟩
theorem m_114 : (Cond.instanceMethod yJx4a65c_add_9ea2d) ∈ wsL := List.mem_filter.mpr ⟨List.mem_of_getElem? (i := 237) (by decide +kernel), by decide +kernel⟩
theorem m_115 : (Cond.selects RJx4a65c yJx4a65c_add_9ea2d yJx4a65c_add_9ea2d) ∈ wsL := List.mem_filter.mpr ⟨List.mem_of_getElem? (i := 238) (by decide +kernel), by decide +kernel⟩
theorem m_116 : (Cond.code yJx4a65c_add_9ea2d cJx4a65c_add_9ea2d 2 (some .boolean)) ∈ wsL := List.mem_filter.mpr ⟨List.mem_of_getElem? (i := 239) (by decide +kernel), by decide +kernel⟩
theorem m_117 : (Cond.fieldLink RJx4a65c 63 "java/util/ArrayList" "modCount" "I") ∈ wsL := List.mem_filter.mpr ⟨List.mem_of_getElem? (i := 172) (by decide +kernel), by decide +kernel⟩
theorem m_118 : (Cond.sameField "java/util/ArrayList" "java/util/AbstractList" "modCount" "I") ∈ wsL := List.mem_filter.mpr ⟨List.mem_of_getElem? (i := 173) (by decide +kernel), by decide +kernel⟩
theorem m_119 : (Cond.fieldLink RJx4a65c 48 "java/util/ArrayList" "size" "I") ∈ wsL := List.mem_filter.mpr ⟨List.mem_of_getElem? (i := 170) (by decide +kernel), by decide +kernel⟩
theorem m_120 : (Cond.methodLink RJx4a65c 131 yJx4a65c_add_72be8) ∈ wsL := List.mem_filter.mpr ⟨List.mem_of_getElem? (i := 240) (by decide +kernel), by decide +kernel⟩
theorem m_121 : (Cond.instanceMethod yJx4a65c_add_72be8) ∈ wsL := List.mem_filter.mpr ⟨List.mem_of_getElem? (i := 242) (by decide +kernel), by decide +kernel⟩
theorem m_122 : (Cond.selects RJx4a65c yJx4a65c_add_72be8 yJx4a65c_add_72be8) ∈ wsL := List.mem_filter.mpr ⟨List.mem_of_getElem? (i := 0) (by decide +kernel), by decide +kernel⟩
theorem m_123 : (Cond.code yJx4a65c_add_72be8 cJx4a65c_add_72be8 4 none) ∈ wsL := List.mem_filter.mpr ⟨List.mem_of_getElem? (i := 243) (by decide +kernel), by decide +kernel⟩
theorem m_124 : (Cond.methodLink RJx4a65c 129 yJx4a65c_grow_d5877) ∈ wsL := List.mem_filter.mpr ⟨List.mem_of_getElem? (i := 244) (by decide +kernel), by decide +kernel⟩
theorem m_125 : (Cond.instanceMethod yJx4a65c_grow_d5877) ∈ wsL := List.mem_filter.mpr ⟨List.mem_of_getElem? (i := 246) (by decide +kernel), by decide +kernel⟩
theorem m_126 : (Cond.selects RJx4a65c yJx4a65c_grow_d5877 yJx4a65c_grow_d5877) ∈ wsL := List.mem_filter.mpr ⟨List.mem_of_getElem? (i := 1) (by decide +kernel), by decide +kernel⟩
theorem m_127 : (Cond.code yJx4a65c_grow_d5877 cJx4a65c_grow_d5877 1 (some (.array (.object "java/lang/Object")))) ∈ wsL := List.mem_filter.mpr ⟨List.mem_of_getElem? (i := 247) (by decide +kernel), by decide +kernel⟩
theorem m_128 : (Cond.methodLink RJx4a65c 69 yJx4a65c_grow_92f84) ∈ wsL := List.mem_filter.mpr ⟨List.mem_of_getElem? (i := 248) (by decide +kernel), by decide +kernel⟩
theorem m_129 : (Cond.instanceMethod yJx4a65c_grow_92f84) ∈ wsL := List.mem_filter.mpr ⟨List.mem_of_getElem? (i := 250) (by decide +kernel), by decide +kernel⟩
theorem m_130 : (Cond.selects RJx4a65c yJx4a65c_grow_92f84 yJx4a65c_grow_92f84) ∈ wsL := List.mem_filter.mpr ⟨List.mem_of_getElem? (i := 2) (by decide +kernel), by decide +kernel⟩
theorem m_131 : (Cond.code yJx4a65c_grow_92f84 cJx4a65c_grow_92f84 4 (some (.array (.object "java/lang/Object")))) ∈ wsL := List.mem_filter.mpr ⟨List.mem_of_getElem? (i := 251) (by decide +kernel), by decide +kernel⟩
theorem m_132 : (Cond.methodLink RJx4a65c 79 Lib.Math.max.name) ∈ wsL := List.mem_filter.mpr ⟨List.mem_of_getElem? (i := 295) (by decide +kernel), by decide +kernel⟩
theorem m_133 : (Cond.static Lib.Math.max.name) ∈ wsL := List.mem_filter.mpr ⟨List.mem_of_getElem? (i := 256) (by decide +kernel), by decide +kernel⟩
theorem m_134 : (Cond.initialized "java/lang/Math") ∈ wsL := List.mem_filter.mpr ⟨List.mem_of_getElem? (i := 58) (by decide +kernel), by decide +kernel⟩
theorem m_136 : (Cond.classLink RJx4a65c 7 "java/lang/Object") ∈ wsL := List.mem_filter.mpr ⟨List.mem_of_getElem? (i := 296) (by decide +kernel), by decide +kernel⟩
theorem m_137 : (Cond.methodLink RJx4a65c 73 yJ8_newLength_cabcc) ∈ wsL := List.mem_filter.mpr ⟨List.mem_of_getElem? (i := 252) (by decide +kernel), by decide +kernel⟩
theorem m_138 : (Cond.static yJ8_newLength_cabcc) ∈ wsL := List.mem_filter.mpr ⟨List.mem_of_getElem? (i := 253) (by decide +kernel), by decide +kernel⟩
theorem m_139 : (Cond.initialized RJ8) ∈ wsL := List.mem_filter.mpr ⟨List.mem_of_getElem? (i := 57) (by decide +kernel), by decide +kernel⟩
theorem m_140 : (Cond.code yJ8_newLength_cabcc cJ8_newLength_cabcc 4 (some .int)) ∈ wsL := List.mem_filter.mpr ⟨List.mem_of_getElem? (i := 254) (by decide +kernel), by decide +kernel⟩
theorem m_141 : (Cond.methodLink RJ8 194 Lib.Math.max.name) ∈ wsL := List.mem_filter.mpr ⟨List.mem_of_getElem? (i := 255) (by decide +kernel), by decide +kernel⟩
theorem m_142 : (Cond.constant RJ8 200 (2147483639)) ∈ wsL := List.mem_filter.mpr ⟨List.mem_of_getElem? (i := 258) (by decide +kernel), by decide +kernel⟩
theorem m_143 : (Cond.methodLink RJ8 201 yJ8_hugeLength_7cf53) ∈ wsL := List.mem_filter.mpr ⟨List.mem_of_getElem? (i := 259) (by decide +kernel), by decide +kernel⟩
theorem m_144 : (Cond.static yJ8_hugeLength_7cf53) ∈ wsL := List.mem_filter.mpr ⟨List.mem_of_getElem? (i := 260) (by decide +kernel), by decide +kernel⟩
theorem m_145 : (Cond.code yJ8_hugeLength_7cf53 cJ8_hugeLength_7cf53 3 (some .int)) ∈ wsL := List.mem_filter.mpr ⟨List.mem_of_getElem? (i := 261) (by decide +kernel), by decide +kernel⟩
theorem m_146 : (Cond.methodLink RJx4a65c 66 yJ7_copyOf_1904c) ∈ wsL := List.mem_filter.mpr ⟨List.mem_of_getElem? (i := 262) (by decide +kernel), by decide +kernel⟩
theorem m_147 : (Cond.static yJ7_copyOf_1904c) ∈ wsL := List.mem_filter.mpr ⟨List.mem_of_getElem? (i := 263) (by decide +kernel), by decide +kernel⟩
theorem m_148 : (Cond.code yJ7_copyOf_1904c cJ7_copyOf_1904c 2 (some (.array (.object "java/lang/Object")))) ∈ wsL := List.mem_filter.mpr ⟨List.mem_of_getElem? (i := 264) (by decide +kernel), by decide +kernel⟩
theorem m_149 : (Cond.methodLink RJ7 86 ⟨"java/lang/Object", "getClass", "()Ljava/lang/Class;"⟩) ∈ wsL := List.mem_filter.mpr ⟨List.mem_of_getElem? (i := 265) (by decide +kernel), by decide +kernel⟩
theorem m_150 : (Cond.selects "[Ljava/lang/Object;" ⟨"java/lang/Object", "getClass", "()Ljava/lang/Class;"⟩ ⟨"java/lang/Object", "getClass", "()Ljava/lang/Class;"⟩) ∈ wsL := List.mem_filter.mpr ⟨List.mem_of_getElem? (i := 1442) (by decide +kernel), by decide +kernel⟩
theorem m_151 : (Cond.instanceMethod ⟨"java/lang/Object", "getClass", "()Ljava/lang/Class;"⟩) ∈ wsL := List.mem_filter.mpr ⟨List.mem_of_getElem? (i := 266) (by decide +kernel), by decide +kernel⟩
theorem m_152 : (Cond.native ⟨"java/lang/Object", "getClass", "()Ljava/lang/Class;"⟩) ∈ wsL := List.mem_filter.mpr ⟨List.mem_of_getElem? (i := 282) (by decide +kernel), by decide +kernel⟩
theorem m_153 : (Cond.methodLink RJ7 300 yJ7_copyOf_6403c) ∈ wsL := List.mem_filter.mpr ⟨List.mem_of_getElem? (i := 283) (by decide +kernel), by decide +kernel⟩
theorem m_154 : (Cond.static yJ7_copyOf_6403c) ∈ wsL := List.mem_filter.mpr ⟨List.mem_of_getElem? (i := 284) (by decide +kernel), by decide +kernel⟩
theorem m_155 : (Cond.code yJ7_copyOf_6403c cJ7_copyOf_6403c 4 (some (.array (.object "java/lang/Object")))) ∈ wsL := List.mem_filter.mpr ⟨List.mem_of_getElem? (i := 285) (by decide +kernel), by decide +kernel⟩
theorem m_156 : (Cond.classLink RJ7 110 "[Ljava/lang/Object;") ∈ wsL := List.mem_filter.mpr ⟨List.mem_of_getElem? (i := 286) (by decide +kernel), by decide +kernel⟩
theorem m_157 : (Cond.classLink RJ7 2 "java/lang/Object") ∈ wsL := List.mem_filter.mpr ⟨List.mem_of_getElem? (i := 288) (by decide +kernel), by decide +kernel⟩
theorem m_158 : (Cond.methodLink RJ7 304 Lib.Math.min.name) ∈ wsL := List.mem_filter.mpr ⟨List.mem_of_getElem? (i := 289) (by decide +kernel), by decide +kernel⟩
theorem m_159 : (Cond.static Lib.Math.min.name) ∈ wsL := List.mem_filter.mpr ⟨List.mem_of_getElem? (i := 290) (by decide +kernel), by decide +kernel⟩
theorem m_164 : (Cond.initialized "java/lang/System") ∈ wsL := List.mem_filter.mpr ⟨List.mem_of_getElem? (i := 59) (by decide +kernel), by decide +kernel⟩
theorem m_165 : (Cond.methodLink RX10 43 yX0_init) ∈ wsL := List.mem_filter.mpr ⟨List.mem_of_getElem? (i := 327) (by decide +kernel), by decide +kernel⟩
theorem m_166 : (Cond.instanceMethod yX0_init) ∈ wsL := List.mem_filter.mpr ⟨List.mem_of_getElem? (i := 328) (by decide +kernel), by decide +kernel⟩
theorem m_167 : (Cond.code yX0_init cX0_init 1 none) ∈ wsL := List.mem_filter.mpr ⟨List.mem_of_getElem? (i := 329) (by decide +kernel), by decide +kernel⟩
theorem m_168 : (Cond.methodLink RX0 1 objectInit) ∈ wsL := List.mem_filter.mpr ⟨List.mem_of_getElem? (i := 330) (by decide +kernel), by decide +kernel⟩
theorem m_169 : (Cond.fieldLink RX0 9 "BookClub$Chances" "percents" "[I") ∈ wsL := List.mem_filter.mpr ⟨List.mem_of_getElem? (i := 332) (by decide +kernel), by decide +kernel⟩
theorem m_170 : (Cond.fieldLink RX0 19 "BookClub$Chances" "ways" "[J") ∈ wsL := List.mem_filter.mpr ⟨List.mem_of_getElem? (i := 333) (by decide +kernel), by decide +kernel⟩
theorem m_171 : (Cond.methodLink RX0 13 yJ7_fill_53178) ∈ wsL := List.mem_filter.mpr ⟨List.mem_of_getElem? (i := 331) (by decide +kernel), by decide +kernel⟩
theorem m_172 : (Cond.methodLink RX10 50 yX4_init) ∈ wsL := List.mem_filter.mpr ⟨List.mem_of_getElem? (i := 342) (by decide +kernel), by decide +kernel⟩
theorem m_173 : (Cond.instanceMethod yX4_init) ∈ wsL := List.mem_filter.mpr ⟨List.mem_of_getElem? (i := 343) (by decide +kernel), by decide +kernel⟩
theorem m_174 : (Cond.code yX4_init cX4_init 1 none) ∈ wsL := List.mem_filter.mpr ⟨List.mem_of_getElem? (i := 344) (by decide +kernel), by decide +kernel⟩
theorem m_175 : (Cond.methodLink RX4 3 objectInit) ∈ wsL := List.mem_filter.mpr ⟨List.mem_of_getElem? (i := 345) (by decide +kernel), by decide +kernel⟩
theorem m_176 : (Cond.fieldLink RX4 11 "BookClub$Jury" "marks" "[I") ∈ wsL := List.mem_filter.mpr ⟨List.mem_of_getElem? (i := 347) (by decide +kernel), by decide +kernel⟩
theorem m_177 : (Cond.fieldLink RX4 21 "BookClub$Jury" "kinships" "[Z") ∈ wsL := List.mem_filter.mpr ⟨List.mem_of_getElem? (i := 348) (by decide +kernel), by decide +kernel⟩
theorem m_178 : (Cond.fieldLink RX4 25 "BookClub$Jury" "tally" "[I") ∈ wsL := List.mem_filter.mpr ⟨List.mem_of_getElem? (i := 349) (by decide +kernel), by decide +kernel⟩
theorem m_179 : (Cond.methodLink RX4 15 yJ7_fill_53178) ∈ wsL := List.mem_filter.mpr ⟨List.mem_of_getElem? (i := 346) (by decide +kernel), by decide +kernel⟩
theorem m_180 : (Cond.methodLink RL 25 yX11_init) ∈ wsL := List.mem_filter.mpr ⟨List.mem_of_getElem? (i := 1058) (by decide +kernel), by decide +kernel⟩
theorem m_181 : (Cond.instanceMethod yX11_init) ∈ wsL := List.mem_filter.mpr ⟨List.mem_of_getElem? (i := 1059) (by decide +kernel), by decide +kernel⟩
theorem m_182 : (Cond.code yX11_init cX11_init 2 none) ∈ wsL := List.mem_filter.mpr ⟨List.mem_of_getElem? (i := 1060) (by decide +kernel), by decide +kernel⟩
theorem m_183 : (Cond.methodLink RX11 1 objectInit) ∈ wsL := List.mem_filter.mpr ⟨List.mem_of_getElem? (i := 1061) (by decide +kernel), by decide +kernel⟩
theorem m_184 : (Cond.fieldLink RX11 9 "BookClubModel" "tape" "[I") ∈ wsL := List.mem_filter.mpr ⟨List.mem_of_getElem? (i := 1062) (by decide +kernel), by decide +kernel⟩
theorem m_185 : (Cond.fieldLink RX11 13 "BookClubModel" "ruleName" "[I") ∈ wsL := List.mem_filter.mpr ⟨List.mem_of_getElem? (i := 1066) (by decide +kernel), by decide +kernel⟩
theorem m_186 : (Cond.fieldLink RX11 16 "BookClubModel" "ruleValue" "[I") ∈ wsL := List.mem_filter.mpr ⟨List.mem_of_getElem? (i := 1067) (by decide +kernel), by decide +kernel⟩
theorem m_187 : (Cond.fieldLink RX11 19 "BookClubModel" "ruleFrom" "[I") ∈ wsL := List.mem_filter.mpr ⟨List.mem_of_getElem? (i := 1068) (by decide +kernel), by decide +kernel⟩
theorem m_188 : (Cond.fieldLink RX11 22 "BookClubModel" "lags" "[I") ∈ wsL := List.mem_filter.mpr ⟨List.mem_of_getElem? (i := 1070) (by decide +kernel), by decide +kernel⟩
theorem m_189 : (Cond.fieldLink RX11 25 "BookClubModel" "hadGift" "[Z") ∈ wsL := List.mem_filter.mpr ⟨List.mem_of_getElem? (i := 1071) (by decide +kernel), by decide +kernel⟩
theorem m_190 : (Cond.fieldLink RX11 29 "BookClubModel" "kind" "[I") ∈ wsL := List.mem_filter.mpr ⟨List.mem_of_getElem? (i := 1072) (by decide +kernel), by decide +kernel⟩
theorem m_191 : (Cond.fieldLink RX11 32 "BookClubModel" "house" "[I") ∈ wsL := List.mem_filter.mpr ⟨List.mem_of_getElem? (i := 1073) (by decide +kernel), by decide +kernel⟩
theorem m_192 : (Cond.fieldLink RX11 35 "BookClubModel" "state" "[I") ∈ wsL := List.mem_filter.mpr ⟨List.mem_of_getElem? (i := 1074) (by decide +kernel), by decide +kernel⟩
theorem m_193 : (Cond.fieldLink RX11 38 "BookClubModel" "bought" "[I") ∈ wsL := List.mem_filter.mpr ⟨List.mem_of_getElem? (i := 1075) (by decide +kernel), by decide +kernel⟩
theorem m_194 : (Cond.fieldLink RX11 41 "BookClubModel" "owing" "[I") ∈ wsL := List.mem_filter.mpr ⟨List.mem_of_getElem? (i := 1076) (by decide +kernel), by decide +kernel⟩
theorem m_195 : (Cond.fieldLink RX11 44 "BookClubModel" "refusal" "[I") ∈ wsL := List.mem_filter.mpr ⟨List.mem_of_getElem? (i := 1077) (by decide +kernel), by decide +kernel⟩
theorem m_196 : (Cond.fieldLink RX11 47 "BookClubModel" "sentLast" "[Z") ∈ wsL := List.mem_filter.mpr ⟨List.mem_of_getElem? (i := 1078) (by decide +kernel), by decide +kernel⟩
theorem m_197 : (Cond.fieldLink RX11 50 "BookClubModel" "shortLast" "[Z") ∈ wsL := List.mem_filter.mpr ⟨List.mem_of_getElem? (i := 1079) (by decide +kernel), by decide +kernel⟩
theorem m_198 : (Cond.fieldLink RX11 53 "BookClubModel" "refusedLast" "[Z") ∈ wsL := List.mem_filter.mpr ⟨List.mem_of_getElem? (i := 1080) (by decide +kernel), by decide +kernel⟩
theorem m_199 : (Cond.fieldLink RX11 56 "BookClubModel" "books" "[I") ∈ wsL := List.mem_filter.mpr ⟨List.mem_of_getElem? (i := 1083) (by decide +kernel), by decide +kernel⟩
theorem m_200 : (Cond.fieldLink RX11 59 "BookClubModel" "entryMember" "[I") ∈ wsL := List.mem_filter.mpr ⟨List.mem_of_getElem? (i := 1084) (by decide +kernel), by decide +kernel⟩
theorem m_201 : (Cond.fieldLink RX11 62 "BookClubModel" "entryMonth" "[I") ∈ wsL := List.mem_filter.mpr ⟨List.mem_of_getElem? (i := 1085) (by decide +kernel), by decide +kernel⟩
theorem m_202 : (Cond.fieldLink RX11 65 "BookClubModel" "entrySort" "[I") ∈ wsL := List.mem_filter.mpr ⟨List.mem_of_getElem? (i := 1086) (by decide +kernel), by decide +kernel⟩
theorem m_203 : (Cond.fieldLink RX11 68 "BookClubModel" "entryAmount" "[J") ∈ wsL := List.mem_filter.mpr ⟨List.mem_of_getElem? (i := 1087) (by decide +kernel), by decide +kernel⟩
theorem m_204 : (Cond.fieldLink RX11 72 "BookClubModel" "struck" "[I") ∈ wsL := List.mem_filter.mpr ⟨List.mem_of_getElem? (i := 1088) (by decide +kernel), by decide +kernel⟩
theorem m_205 : (Cond.fieldLink RX11 75 "BookClubModel" "chances" "[I") ∈ wsL := List.mem_filter.mpr ⟨List.mem_of_getElem? (i := 1090) (by decide +kernel), by decide +kernel⟩
theorem m_206 : (Cond.fieldLink RX11 78 "BookClubModel" "marks" "[I") ∈ wsL := List.mem_filter.mpr ⟨List.mem_of_getElem? (i := 1091) (by decide +kernel), by decide +kernel⟩
theorem m_207 : (Cond.fieldLink RX11 81 "BookClubModel" "isKin" "[Z") ∈ wsL := List.mem_filter.mpr ⟨List.mem_of_getElem? (i := 1092) (by decide +kernel), by decide +kernel⟩
theorem m_208 : (Cond.methodLink RL 26 yX10_feed) ∈ wsL := List.mem_filter.mpr ⟨List.mem_of_getElem? (i := 376) (by decide +kernel), by decide +kernel⟩
theorem m_209 : (Cond.instanceMethod yX10_feed) ∈ wsL := List.mem_filter.mpr ⟨List.mem_of_getElem? (i := 377) (by decide +kernel), by decide +kernel⟩
theorem m_210 : (Cond.selects RX10 yX10_feed yX10_feed) ∈ wsL := List.mem_filter.mpr ⟨List.mem_of_getElem? (i := 378) (by decide +kernel), by decide +kernel⟩
theorem m_211 : (Cond.code yX10_feed cX10_feed 6 (some .int)) ∈ wsL := List.mem_filter.mpr ⟨List.mem_of_getElem? (i := 379) (by decide +kernel), by decide +kernel⟩
theorem m_212 : (Cond.methodLink RX10 55 yX8_hasRoomFor) ∈ wsL := List.mem_filter.mpr ⟨List.mem_of_getElem? (i := 380) (by decide +kernel), by decide +kernel⟩
theorem m_213 : (Cond.instanceMethod yX8_hasRoomFor) ∈ wsL := List.mem_filter.mpr ⟨List.mem_of_getElem? (i := 381) (by decide +kernel), by decide +kernel⟩
theorem m_214 : (Cond.selects RX8 yX8_hasRoomFor yX8_hasRoomFor) ∈ wsL := List.mem_filter.mpr ⟨List.mem_of_getElem? (i := 382) (by decide +kernel), by decide +kernel⟩
theorem m_215 : (Cond.code yX8_hasRoomFor cX8_hasRoomFor 2 (some .boolean)) ∈ wsL := List.mem_filter.mpr ⟨List.mem_of_getElem? (i := 383) (by decide +kernel), by decide +kernel⟩
theorem m_216 : (Cond.methodLink RX10 59 yX8_addNumber) ∈ wsL := List.mem_filter.mpr ⟨List.mem_of_getElem? (i := 384) (by decide +kernel), by decide +kernel⟩
theorem m_217 : (Cond.instanceMethod yX8_addNumber) ∈ wsL := List.mem_filter.mpr ⟨List.mem_of_getElem? (i := 385) (by decide +kernel), by decide +kernel⟩
theorem m_218 : (Cond.selects RX8 yX8_addNumber yX8_addNumber) ∈ wsL := List.mem_filter.mpr ⟨List.mem_of_getElem? (i := 386) (by decide +kernel), by decide +kernel⟩
theorem m_219 : (Cond.code yX8_addNumber cX8_addNumber 3 none) ∈ wsL := List.mem_filter.mpr ⟨List.mem_of_getElem? (i := 387) (by decide +kernel), by decide +kernel⟩
theorem m_220 : (Cond.methodLink RX8 19 yX8_addByte) ∈ wsL := List.mem_filter.mpr ⟨List.mem_of_getElem? (i := 388) (by decide +kernel), by decide +kernel⟩
theorem m_221 : (Cond.instanceMethod yX8_addByte) ∈ wsL := List.mem_filter.mpr ⟨List.mem_of_getElem? (i := 390) (by decide +kernel), by decide +kernel⟩
theorem m_222 : (Cond.selects RX8 yX8_addByte yX8_addByte) ∈ wsL := List.mem_filter.mpr ⟨List.mem_of_getElem? (i := 3) (by decide +kernel), by decide +kernel⟩
theorem m_223 : (Cond.code yX8_addByte cX8_addByte 2 none) ∈ wsL := List.mem_filter.mpr ⟨List.mem_of_getElem? (i := 391) (by decide +kernel), by decide +kernel⟩
theorem m_224 : (Cond.methodLink RL 30 yX11_feed) ∈ wsL := List.mem_filter.mpr ⟨List.mem_of_getElem? (i := 1172) (by decide +kernel), by decide +kernel⟩
theorem m_225 : (Cond.instanceMethod yX11_feed) ∈ wsL := List.mem_filter.mpr ⟨List.mem_of_getElem? (i := 1173) (by decide +kernel), by decide +kernel⟩
theorem m_226 : (Cond.selects RX11 yX11_feed yX11_feed) ∈ wsL := List.mem_filter.mpr ⟨List.mem_of_getElem? (i := 1174) (by decide +kernel), by decide +kernel⟩
theorem m_227 : (Cond.code yX11_feed cX11_feed 6 (some .int)) ∈ wsL := List.mem_filter.mpr ⟨List.mem_of_getElem? (i := 1175) (by decide +kernel), by decide +kernel⟩
theorem m_228 : (Cond.fieldLink RX11 84 "BookClubModel" "thrown" "I") ∈ wsL := List.mem_filter.mpr ⟨List.mem_of_getElem? (i := 1093) (by decide +kernel), by decide +kernel⟩
theorem m_229 : (Cond.fieldLink RX11 95 "BookClubModel" "taped" "I") ∈ wsL := List.mem_filter.mpr ⟨List.mem_of_getElem? (i := 1063) (by decide +kernel), by decide +kernel⟩
theorem m_230 : (Cond.methodLink RX11 98 yX11_lay) ∈ wsL := List.mem_filter.mpr ⟨List.mem_of_getElem? (i := 1176) (by decide +kernel), by decide +kernel⟩
theorem m_231 : (Cond.instanceMethod yX11_lay) ∈ wsL := List.mem_filter.mpr ⟨List.mem_of_getElem? (i := 1178) (by decide +kernel), by decide +kernel⟩
theorem m_232 : (Cond.selects RX11 yX11_lay yX11_lay) ∈ wsL := List.mem_filter.mpr ⟨List.mem_of_getElem? (i := 27) (by decide +kernel), by decide +kernel⟩
theorem m_233 : (Cond.code yX11_lay cX11_lay 3 none) ∈ wsL := List.mem_filter.mpr ⟨List.mem_of_getElem? (i := 1179) (by decide +kernel), by decide +kernel⟩
theorem m_234 : (Cond.methodLink RL 31 yX10_end) ∈ wsL := List.mem_filter.mpr ⟨List.mem_of_getElem? (i := 392) (by decide +kernel), by decide +kernel⟩
theorem m_235 : (Cond.instanceMethod yX10_end) ∈ wsL := List.mem_filter.mpr ⟨List.mem_of_getElem? (i := 393) (by decide +kernel), by decide +kernel⟩
theorem m_236 : (Cond.selects RX10 yX10_end yX10_end) ∈ wsL := List.mem_filter.mpr ⟨List.mem_of_getElem? (i := 394) (by decide +kernel), by decide +kernel⟩
theorem m_237 : (Cond.code yX10_end cX10_end 2 (some .boolean)) ∈ wsL := List.mem_filter.mpr ⟨List.mem_of_getElem? (i := 395) (by decide +kernel), by decide +kernel⟩
theorem m_238 : (Cond.methodLink RX10 67 yX8_cutTo) ∈ wsL := List.mem_filter.mpr ⟨List.mem_of_getElem? (i := 396) (by decide +kernel), by decide +kernel⟩
theorem m_239 : (Cond.instanceMethod yX8_cutTo) ∈ wsL := List.mem_filter.mpr ⟨List.mem_of_getElem? (i := 397) (by decide +kernel), by decide +kernel⟩
theorem m_240 : (Cond.selects RX8 yX8_cutTo yX8_cutTo) ∈ wsL := List.mem_filter.mpr ⟨List.mem_of_getElem? (i := 398) (by decide +kernel), by decide +kernel⟩
theorem m_241 : (Cond.code yX8_cutTo cX8_cutTo 2 (some .boolean)) ∈ wsL := List.mem_filter.mpr ⟨List.mem_of_getElem? (i := 399) (by decide +kernel), by decide +kernel⟩
theorem m_242 : (Cond.static yX10_isWithin) ∈ wsL := List.mem_filter.mpr ⟨List.mem_of_getElem? (i := 401) (by decide +kernel), by decide +kernel⟩
theorem m_243 : (Cond.code yX10_isWithin cX10_isWithin 3 (some .boolean)) ∈ wsL := List.mem_filter.mpr ⟨List.mem_of_getElem? (i := 402) (by decide +kernel), by decide +kernel⟩
theorem m_244 : (Cond.methodLink RL 35 yX11_end) ∈ wsL := List.mem_filter.mpr ⟨List.mem_of_getElem? (i := 1180) (by decide +kernel), by decide +kernel⟩
theorem m_245 : (Cond.instanceMethod yX11_end) ∈ wsL := List.mem_filter.mpr ⟨List.mem_of_getElem? (i := 1181) (by decide +kernel), by decide +kernel⟩
theorem m_246 : (Cond.selects RX11 yX11_end yX11_end) ∈ wsL := List.mem_filter.mpr ⟨List.mem_of_getElem? (i := 1182) (by decide +kernel), by decide +kernel⟩
theorem m_247 : (Cond.code yX11_end cX11_end 2 (some .boolean)) ∈ wsL := List.mem_filter.mpr ⟨List.mem_of_getElem? (i := 1183) (by decide +kernel), by decide +kernel⟩
theorem m_248 : (Cond.methodLink RL 36 yX10_rules) ∈ wsL := List.mem_filter.mpr ⟨List.mem_of_getElem? (i := 403) (by decide +kernel), by decide +kernel⟩
theorem m_249 : (Cond.instanceMethod yX10_rules) ∈ wsL := List.mem_filter.mpr ⟨List.mem_of_getElem? (i := 404) (by decide +kernel), by decide +kernel⟩
theorem m_250 : (Cond.selects RX10 yX10_rules yX10_rules) ∈ wsL := List.mem_filter.mpr ⟨List.mem_of_getElem? (i := 405) (by decide +kernel), by decide +kernel⟩
theorem m_251 : (Cond.code yX10_rules cX10_rules 2 (some .int)) ∈ wsL := List.mem_filter.mpr ⟨List.mem_of_getElem? (i := 406) (by decide +kernel), by decide +kernel⟩
theorem m_252 : (Cond.methodLink RX10 70 yX9_readText) ∈ wsL := List.mem_filter.mpr ⟨List.mem_of_getElem? (i := 407) (by decide +kernel), by decide +kernel⟩
theorem m_253 : (Cond.instanceMethod yX9_readText) ∈ wsL := List.mem_filter.mpr ⟨List.mem_of_getElem? (i := 408) (by decide +kernel), by decide +kernel⟩
theorem m_254 : (Cond.selects RX9 yX9_readText yX9_readText) ∈ wsL := List.mem_filter.mpr ⟨List.mem_of_getElem? (i := 409) (by decide +kernel), by decide +kernel⟩
theorem m_255 : (Cond.code yX9_readText cX9_readText 3 (some .int)) ∈ wsL := List.mem_filter.mpr ⟨List.mem_of_getElem? (i := 410) (by decide +kernel), by decide +kernel⟩
theorem m_256 : (Cond.methodLink RX9 31 yX9_readStatement) ∈ wsL := List.mem_filter.mpr ⟨List.mem_of_getElem? (i := 411) (by decide +kernel), by decide +kernel⟩
theorem m_257 : (Cond.instanceMethod yX9_readStatement) ∈ wsL := List.mem_filter.mpr ⟨List.mem_of_getElem? (i := 413) (by decide +kernel), by decide +kernel⟩
theorem m_258 : (Cond.selects RX9 yX9_readStatement yX9_readStatement) ∈ wsL := List.mem_filter.mpr ⟨List.mem_of_getElem? (i := 4) (by decide +kernel), by decide +kernel⟩
theorem m_259 : (Cond.code yX9_readStatement cX9_readStatement 4 (some .boolean)) ∈ wsL := List.mem_filter.mpr ⟨List.mem_of_getElem? (i := 414) (by decide +kernel), by decide +kernel⟩
theorem m_260 : (Cond.methodLink RX9 47 yX9_readName) ∈ wsL := List.mem_filter.mpr ⟨List.mem_of_getElem? (i := 415) (by decide +kernel), by decide +kernel⟩
theorem m_261 : (Cond.instanceMethod yX9_readName) ∈ wsL := List.mem_filter.mpr ⟨List.mem_of_getElem? (i := 417) (by decide +kernel), by decide +kernel⟩
theorem m_262 : (Cond.selects RX9 yX9_readName yX9_readName) ∈ wsL := List.mem_filter.mpr ⟨List.mem_of_getElem? (i := 5) (by decide +kernel), by decide +kernel⟩
theorem m_263 : (Cond.code yX9_readName cX9_readName 3 (some .int)) ∈ wsL := List.mem_filter.mpr ⟨List.mem_of_getElem? (i := 418) (by decide +kernel), by decide +kernel⟩
theorem m_264 : (Cond.methodLink RX9 64 yX9_nextSign) ∈ wsL := List.mem_filter.mpr ⟨List.mem_of_getElem? (i := 419) (by decide +kernel), by decide +kernel⟩
theorem m_265 : (Cond.instanceMethod yX9_nextSign) ∈ wsL := List.mem_filter.mpr ⟨List.mem_of_getElem? (i := 421) (by decide +kernel), by decide +kernel⟩
theorem m_266 : (Cond.selects RX9 yX9_nextSign yX9_nextSign) ∈ wsL := List.mem_filter.mpr ⟨List.mem_of_getElem? (i := 6) (by decide +kernel), by decide +kernel⟩
theorem m_267 : (Cond.code yX9_nextSign cX9_nextSign 1 (some .int)) ∈ wsL := List.mem_filter.mpr ⟨List.mem_of_getElem? (i := 422) (by decide +kernel), by decide +kernel⟩
theorem m_268 : (Cond.methodLink RX9 71 yX8_byteAt) ∈ wsL := List.mem_filter.mpr ⟨List.mem_of_getElem? (i := 423) (by decide +kernel), by decide +kernel⟩
theorem m_269 : (Cond.instanceMethod yX8_byteAt) ∈ wsL := List.mem_filter.mpr ⟨List.mem_of_getElem? (i := 424) (by decide +kernel), by decide +kernel⟩
theorem m_270 : (Cond.selects RX8 yX8_byteAt yX8_byteAt) ∈ wsL := List.mem_filter.mpr ⟨List.mem_of_getElem? (i := 425) (by decide +kernel), by decide +kernel⟩
theorem m_271 : (Cond.code yX8_byteAt cX8_byteAt 2 (some .int)) ∈ wsL := List.mem_filter.mpr ⟨List.mem_of_getElem? (i := 426) (by decide +kernel), by decide +kernel⟩
theorem m_272 : (Cond.methodLink RX9 78 yX9_nameBetween) ∈ wsL := List.mem_filter.mpr ⟨List.mem_of_getElem? (i := 428) (by decide +kernel), by decide +kernel⟩
theorem m_273 : (Cond.instanceMethod yX9_nameBetween) ∈ wsL := List.mem_filter.mpr ⟨List.mem_of_getElem? (i := 430) (by decide +kernel), by decide +kernel⟩
theorem m_274 : (Cond.selects RX9 yX9_nameBetween yX9_nameBetween) ∈ wsL := List.mem_filter.mpr ⟨List.mem_of_getElem? (i := 7) (by decide +kernel), by decide +kernel⟩
theorem m_275 : (Cond.code yX9_nameBetween cX9_nameBetween 4 (some .int)) ∈ wsL := List.mem_filter.mpr ⟨List.mem_of_getElem? (i := 431) (by decide +kernel), by decide +kernel⟩
theorem m_276 : (Cond.methodLink RX9 85 yX9_wordOf) ∈ wsL := List.mem_filter.mpr ⟨List.mem_of_getElem? (i := 432) (by decide +kernel), by decide +kernel⟩
theorem m_277 : (Cond.static yX9_wordOf) ∈ wsL := List.mem_filter.mpr ⟨List.mem_of_getElem? (i := 433) (by decide +kernel), by decide +kernel⟩
theorem m_278 : (Cond.code yX9_wordOf cX9_wordOf 1 (some (.object "java/lang/String"))) ∈ wsL := List.mem_filter.mpr ⟨List.mem_of_getElem? (i := 434) (by decide +kernel), by decide +kernel⟩
theorem m_279 : (Cond.methodLink RX9 89 yX9_standsBetween) ∈ wsL := List.mem_filter.mpr ⟨List.mem_of_getElem? (i := 443) (by decide +kernel), by decide +kernel⟩
theorem m_280 : (Cond.instanceMethod yX9_standsBetween) ∈ wsL := List.mem_filter.mpr ⟨List.mem_of_getElem? (i := 445) (by decide +kernel), by decide +kernel⟩
theorem m_281 : (Cond.selects RX9 yX9_standsBetween yX9_standsBetween) ∈ wsL := List.mem_filter.mpr ⟨List.mem_of_getElem? (i := 8) (by decide +kernel), by decide +kernel⟩
theorem m_282 : (Cond.code yX9_standsBetween cX9_standsBetween 5 (some .boolean)) ∈ wsL := List.mem_filter.mpr ⟨List.mem_of_getElem? (i := 446) (by decide +kernel), by decide +kernel⟩
theorem m_283 : (Cond.methodLink RX9 93 yJ0_length_8abf5) ∈ wsL := List.mem_filter.mpr ⟨List.mem_of_getElem? (i := 447) (by decide +kernel), by decide +kernel⟩
theorem m_284 : (Cond.instanceMethod yJ0_length_8abf5) ∈ wsL := List.mem_filter.mpr ⟨List.mem_of_getElem? (i := 448) (by decide +kernel), by decide +kernel⟩
theorem m_285 : (Cond.selects RJ0 yJ0_length_8abf5 yJ0_length_8abf5) ∈ wsL := List.mem_filter.mpr ⟨List.mem_of_getElem? (i := 449) (by decide +kernel), by decide +kernel⟩
theorem m_286 : (Cond.initialized RJ0) ∈ wsL := List.mem_filter.mpr ⟨List.mem_of_getElem? (i := 63) (by decide +kernel), by decide +kernel⟩
theorem m_287 : (Cond.code yJ0_length_8abf5 cJ0_length_8abf5 1 (some .int)) ∈ wsL := List.mem_filter.mpr ⟨List.mem_of_getElem? (i := 450) (by decide +kernel), by decide +kernel⟩
theorem m_288 : (Cond.fieldLink RJ0 9 "java/lang/String" "value" "[B") ∈ wsL := List.mem_filter.mpr ⟨List.mem_of_getElem? (i := 1449) (by decide +kernel), by decide +kernel⟩
theorem m_289 : (Cond.methodLink RJ0 335 yJ0_coder_7d493) ∈ wsL := List.mem_filter.mpr ⟨List.mem_of_getElem? (i := 451) (by decide +kernel), by decide +kernel⟩
theorem m_290 : (Cond.instanceMethod yJ0_coder_7d493) ∈ wsL := List.mem_filter.mpr ⟨List.mem_of_getElem? (i := 452) (by decide +kernel), by decide +kernel⟩
theorem m_291 : (Cond.selects RJ0 yJ0_coder_7d493 yJ0_coder_7d493) ∈ wsL := List.mem_filter.mpr ⟨List.mem_of_getElem? (i := 453) (by decide +kernel), by decide +kernel⟩
theorem m_292 : (Cond.code yJ0_coder_7d493 cJ0_coder_7d493 1 (some .byte)) ∈ wsL := List.mem_filter.mpr ⟨List.mem_of_getElem? (i := 454) (by decide +kernel), by decide +kernel⟩
theorem m_293 : (Cond.fieldLink RJ0 38 "java/lang/String" "COMPACT_STRINGS" "Z") ∈ wsL := List.mem_filter.mpr ⟨List.mem_of_getElem? (i := 455) (by decide +kernel), by decide +kernel⟩
theorem m_294 : (Cond.fieldLink RJ0 15 "java/lang/String" "coder" "B") ∈ wsL := List.mem_filter.mpr ⟨List.mem_of_getElem? (i := 1450) (by decide +kernel), by decide +kernel⟩
theorem m_295 : (Cond.methodLink RX9 98 yJ0_charAt_5068e) ∈ wsL := List.mem_filter.mpr ⟨List.mem_of_getElem? (i := 457) (by decide +kernel), by decide +kernel⟩
theorem m_296 : (Cond.instanceMethod yJ0_charAt_5068e) ∈ wsL := List.mem_filter.mpr ⟨List.mem_of_getElem? (i := 458) (by decide +kernel), by decide +kernel⟩
theorem m_297 : (Cond.selects RJ0 yJ0_charAt_5068e yJ0_charAt_5068e) ∈ wsL := List.mem_filter.mpr ⟨List.mem_of_getElem? (i := 459) (by decide +kernel), by decide +kernel⟩
theorem m_298 : (Cond.code yJ0_charAt_5068e cJ0_charAt_5068e 2 (some .char)) ∈ wsL := List.mem_filter.mpr ⟨List.mem_of_getElem? (i := 460) (by decide +kernel), by decide +kernel⟩
theorem m_299 : (Cond.methodLink RJ0 492 yJ0_isLatin1_aae02) ∈ wsL := List.mem_filter.mpr ⟨List.mem_of_getElem? (i := 461) (by decide +kernel), by decide +kernel⟩
theorem m_300 : (Cond.instanceMethod yJ0_isLatin1_aae02) ∈ wsL := List.mem_filter.mpr ⟨List.mem_of_getElem? (i := 462) (by decide +kernel), by decide +kernel⟩
theorem m_301 : (Cond.selects RJ0 yJ0_isLatin1_aae02 yJ0_isLatin1_aae02) ∈ wsL := List.mem_filter.mpr ⟨List.mem_of_getElem? (i := 463) (by decide +kernel), by decide +kernel⟩
theorem m_302 : (Cond.code yJ0_isLatin1_aae02 cJ0_isLatin1_aae02 1 (some .boolean)) ∈ wsL := List.mem_filter.mpr ⟨List.mem_of_getElem? (i := 464) (by decide +kernel), by decide +kernel⟩
theorem m_303 : (Cond.methodLink RJ0 495 yJ1_charAt_3b067) ∈ wsL := List.mem_filter.mpr ⟨List.mem_of_getElem? (i := 465) (by decide +kernel), by decide +kernel⟩
theorem m_304 : (Cond.static yJ1_charAt_3b067) ∈ wsL := List.mem_filter.mpr ⟨List.mem_of_getElem? (i := 466) (by decide +kernel), by decide +kernel⟩
theorem m_305 : (Cond.initialized RJ1) ∈ wsL := List.mem_filter.mpr ⟨List.mem_of_getElem? (i := 64) (by decide +kernel), by decide +kernel⟩
theorem m_306 : (Cond.code yJ1_charAt_3b067 cJ1_charAt_3b067 2 (some .char)) ∈ wsL := List.mem_filter.mpr ⟨List.mem_of_getElem? (i := 467) (by decide +kernel), by decide +kernel⟩
theorem m_307 : (Cond.methodLink RJ1 9 yJ0_checkIndex_df160) ∈ wsL := List.mem_filter.mpr ⟨List.mem_of_getElem? (i := 468) (by decide +kernel), by decide +kernel⟩
theorem m_308 : (Cond.static yJ0_checkIndex_df160) ∈ wsL := List.mem_filter.mpr ⟨List.mem_of_getElem? (i := 469) (by decide +kernel), by decide +kernel⟩
theorem m_309 : (Cond.code yJ0_checkIndex_df160 cJ0_checkIndex_df160 2 none) ∈ wsL := List.mem_filter.mpr ⟨List.mem_of_getElem? (i := 470) (by decide +kernel), by decide +kernel⟩
theorem m_310 : (Cond.fieldLink RJ0 1053 "jdk/internal/util/Preconditions" "SIOOBE_FORMATTER" "Ljava/util/function/BiFunction;") ∈ wsL := List.mem_filter.mpr ⟨List.mem_of_getElem? (i := 471) (by decide +kernel), by decide +kernel⟩
theorem m_311 : (Cond.methodLink RJ0 1059 yJ3_checkIndex_8e157) ∈ wsL := List.mem_filter.mpr ⟨List.mem_of_getElem? (i := 473) (by decide +kernel), by decide +kernel⟩
theorem m_312 : (Cond.static yJ3_checkIndex_8e157) ∈ wsL := List.mem_filter.mpr ⟨List.mem_of_getElem? (i := 474) (by decide +kernel), by decide +kernel⟩
theorem m_313 : (Cond.initialized RJ3) ∈ wsL := List.mem_filter.mpr ⟨List.mem_of_getElem? (i := 65) (by decide +kernel), by decide +kernel⟩
theorem m_314 : (Cond.code yJ3_checkIndex_8e157 cJ3_checkIndex_8e157 3 (some .int)) ∈ wsL := List.mem_filter.mpr ⟨List.mem_of_getElem? (i := 475) (by decide +kernel), by decide +kernel⟩
theorem m_315 : (Cond.methodLink RJ0 498 yJ2_charAt_3b067) ∈ wsL := List.mem_filter.mpr ⟨List.mem_of_getElem? (i := 476) (by decide +kernel), by decide +kernel⟩
theorem m_316 : (Cond.static yJ2_charAt_3b067) ∈ wsL := List.mem_filter.mpr ⟨List.mem_of_getElem? (i := 477) (by decide +kernel), by decide +kernel⟩
theorem m_317 : (Cond.initialized RJ2) ∈ wsL := List.mem_filter.mpr ⟨List.mem_of_getElem? (i := 66) (by decide +kernel), by decide +kernel⟩
theorem m_318 : (Cond.code yJ2_charAt_3b067 cJ2_charAt_3b067 2 (some .char)) ∈ wsL := List.mem_filter.mpr ⟨List.mem_of_getElem? (i := 478) (by decide +kernel), by decide +kernel⟩
theorem m_319 : (Cond.methodLink RJ2 67 yJ2_checkIndex_2214a) ∈ wsL := List.mem_filter.mpr ⟨List.mem_of_getElem? (i := 479) (by decide +kernel), by decide +kernel⟩
theorem m_320 : (Cond.static yJ2_checkIndex_2214a) ∈ wsL := List.mem_filter.mpr ⟨List.mem_of_getElem? (i := 480) (by decide +kernel), by decide +kernel⟩
theorem m_321 : (Cond.code yJ2_checkIndex_2214a cJ2_checkIndex_2214a 2 none) ∈ wsL := List.mem_filter.mpr ⟨List.mem_of_getElem? (i := 481) (by decide +kernel), by decide +kernel⟩
theorem m_322 : (Cond.methodLink RJ2 48 yJ2_length_9d52b) ∈ wsL := List.mem_filter.mpr ⟨List.mem_of_getElem? (i := 482) (by decide +kernel), by decide +kernel⟩
theorem m_323 : (Cond.static yJ2_length_9d52b) ∈ wsL := List.mem_filter.mpr ⟨List.mem_of_getElem? (i := 483) (by decide +kernel), by decide +kernel⟩
theorem m_324 : (Cond.code yJ2_length_9d52b cJ2_length_9d52b 1 (some .int)) ∈ wsL := List.mem_filter.mpr ⟨List.mem_of_getElem? (i := 484) (by decide +kernel), by decide +kernel⟩
theorem m_325 : (Cond.methodLink RJ2 414 yJ0_checkIndex_df160) ∈ wsL := List.mem_filter.mpr ⟨List.mem_of_getElem? (i := 485) (by decide +kernel), by decide +kernel⟩
theorem m_326 : (Cond.methodLink RJ2 71 yJ2_getChar_3b067) ∈ wsL := List.mem_filter.mpr ⟨List.mem_of_getElem? (i := 486) (by decide +kernel), by decide +kernel⟩
theorem m_327 : (Cond.static yJ2_getChar_3b067) ∈ wsL := List.mem_filter.mpr ⟨List.mem_of_getElem? (i := 487) (by decide +kernel), by decide +kernel⟩
theorem m_328 : (Cond.code yJ2_getChar_3b067 cJ2_getChar_3b067 2 (some .char)) ∈ wsL := List.mem_filter.mpr ⟨List.mem_of_getElem? (i := 488) (by decide +kernel), by decide +kernel⟩
theorem m_329 : (Cond.fieldLink RJ2 44 "java/lang/StringUTF16" "$assertionsDisabled" "Z") ∈ wsL := List.mem_filter.mpr ⟨List.mem_of_getElem? (i := 489) (by decide +kernel), by decide +kernel⟩
theorem m_330 : (Cond.fieldLink RJ2 59 "java/lang/StringUTF16" "HI_BYTE_SHIFT" "I") ∈ wsL := List.mem_filter.mpr ⟨List.mem_of_getElem? (i := 491) (by decide +kernel), by decide +kernel⟩
theorem m_331 : (Cond.fieldLink RJ2 63 "java/lang/StringUTF16" "LO_BYTE_SHIFT" "I") ∈ wsL := List.mem_filter.mpr ⟨List.mem_of_getElem? (i := 493) (by decide +kernel), by decide +kernel⟩
theorem m_332 : (Cond.methodLink RX9 67 yX9_fail) ∈ wsL := List.mem_filter.mpr ⟨List.mem_of_getElem? (i := 495) (by decide +kernel), by decide +kernel⟩
theorem m_333 : (Cond.instanceMethod yX9_fail) ∈ wsL := List.mem_filter.mpr ⟨List.mem_of_getElem? (i := 497) (by decide +kernel), by decide +kernel⟩
theorem m_334 : (Cond.selects RX9 yX9_fail yX9_fail) ∈ wsL := List.mem_filter.mpr ⟨List.mem_of_getElem? (i := 9) (by decide +kernel), by decide +kernel⟩
theorem m_335 : (Cond.code yX9_fail cX9_fail 3 (some .boolean)) ∈ wsL := List.mem_filter.mpr ⟨List.mem_of_getElem? (i := 498) (by decide +kernel), by decide +kernel⟩
theorem m_336 : (Cond.methodLink RX9 82 yX7_isFull) ∈ wsL := List.mem_filter.mpr ⟨List.mem_of_getElem? (i := 499) (by decide +kernel), by decide +kernel⟩
theorem m_337 : (Cond.instanceMethod yX7_isFull) ∈ wsL := List.mem_filter.mpr ⟨List.mem_of_getElem? (i := 500) (by decide +kernel), by decide +kernel⟩
theorem m_338 : (Cond.selects RX7 yX7_isFull yX7_isFull) ∈ wsL := List.mem_filter.mpr ⟨List.mem_of_getElem? (i := 501) (by decide +kernel), by decide +kernel⟩
theorem m_339 : (Cond.code yX7_isFull cX7_isFull 1 (some .boolean)) ∈ wsL := List.mem_filter.mpr ⟨List.mem_of_getElem? (i := 502) (by decide +kernel), by decide +kernel⟩
theorem m_340 : (Cond.methodLink RX9 50 yX9_readEquals) ∈ wsL := List.mem_filter.mpr ⟨List.mem_of_getElem? (i := 503) (by decide +kernel), by decide +kernel⟩
theorem m_341 : (Cond.instanceMethod yX9_readEquals) ∈ wsL := List.mem_filter.mpr ⟨List.mem_of_getElem? (i := 505) (by decide +kernel), by decide +kernel⟩
theorem m_342 : (Cond.selects RX9 yX9_readEquals yX9_readEquals) ∈ wsL := List.mem_filter.mpr ⟨List.mem_of_getElem? (i := 10) (by decide +kernel), by decide +kernel⟩
theorem m_343 : (Cond.code yX9_readEquals cX9_readEquals 1 (some .boolean)) ∈ wsL := List.mem_filter.mpr ⟨List.mem_of_getElem? (i := 506) (by decide +kernel), by decide +kernel⟩
theorem m_344 : (Cond.methodLink RX9 53 yX9_readNumber) ∈ wsL := List.mem_filter.mpr ⟨List.mem_of_getElem? (i := 507) (by decide +kernel), by decide +kernel⟩
theorem m_345 : (Cond.instanceMethod yX9_readNumber) ∈ wsL := List.mem_filter.mpr ⟨List.mem_of_getElem? (i := 509) (by decide +kernel), by decide +kernel⟩
theorem m_346 : (Cond.selects RX9 yX9_readNumber yX9_readNumber) ∈ wsL := List.mem_filter.mpr ⟨List.mem_of_getElem? (i := 11) (by decide +kernel), by decide +kernel⟩
theorem m_347 : (Cond.code yX9_readNumber cX9_readNumber 4 (some .int)) ∈ wsL := List.mem_filter.mpr ⟨List.mem_of_getElem? (i := 510) (by decide +kernel), by decide +kernel⟩
theorem m_348 : (Cond.methodLink RX9 57 yX9_readMonth) ∈ wsL := List.mem_filter.mpr ⟨List.mem_of_getElem? (i := 511) (by decide +kernel), by decide +kernel⟩
theorem m_349 : (Cond.instanceMethod yX9_readMonth) ∈ wsL := List.mem_filter.mpr ⟨List.mem_of_getElem? (i := 513) (by decide +kernel), by decide +kernel⟩
theorem m_350 : (Cond.selects RX9 yX9_readMonth yX9_readMonth) ∈ wsL := List.mem_filter.mpr ⟨List.mem_of_getElem? (i := 12) (by decide +kernel), by decide +kernel⟩
theorem m_351 : (Cond.code yX9_readMonth cX9_readMonth 1 (some .int)) ∈ wsL := List.mem_filter.mpr ⟨List.mem_of_getElem? (i := 514) (by decide +kernel), by decide +kernel⟩
theorem m_352 : (Cond.methodLink RX9 60 yX7_propose) ∈ wsL := List.mem_filter.mpr ⟨List.mem_of_getElem? (i := 515) (by decide +kernel), by decide +kernel⟩
theorem m_353 : (Cond.instanceMethod yX7_propose) ∈ wsL := List.mem_filter.mpr ⟨List.mem_of_getElem? (i := 516) (by decide +kernel), by decide +kernel⟩
theorem m_354 : (Cond.selects RX7 yX7_propose yX7_propose) ∈ wsL := List.mem_filter.mpr ⟨List.mem_of_getElem? (i := 517) (by decide +kernel), by decide +kernel⟩
theorem m_355 : (Cond.code yX7_propose cX7_propose 5 none) ∈ wsL := List.mem_filter.mpr ⟨List.mem_of_getElem? (i := 518) (by decide +kernel), by decide +kernel⟩
theorem m_356 : (Cond.methodLink RX7 26 yX7_isFull) ∈ wsL := List.mem_filter.mpr ⟨List.mem_of_getElem? (i := 519) (by decide +kernel), by decide +kernel⟩
theorem m_357 : (Cond.methodLink RX9 35 yX9_readComma) ∈ wsL := List.mem_filter.mpr ⟨List.mem_of_getElem? (i := 520) (by decide +kernel), by decide +kernel⟩
theorem m_358 : (Cond.instanceMethod yX9_readComma) ∈ wsL := List.mem_filter.mpr ⟨List.mem_of_getElem? (i := 522) (by decide +kernel), by decide +kernel⟩
theorem m_359 : (Cond.selects RX9 yX9_readComma yX9_readComma) ∈ wsL := List.mem_filter.mpr ⟨List.mem_of_getElem? (i := 13) (by decide +kernel), by decide +kernel⟩
theorem m_360 : (Cond.code yX9_readComma cX9_readComma 2 (some .boolean)) ∈ wsL := List.mem_filter.mpr ⟨List.mem_of_getElem? (i := 523) (by decide +kernel), by decide +kernel⟩
theorem m_361 : (Cond.methodLink RX9 38 yX7_dropProposed) ∈ wsL := List.mem_filter.mpr ⟨List.mem_of_getElem? (i := 524) (by decide +kernel), by decide +kernel⟩
theorem m_362 : (Cond.instanceMethod yX7_dropProposed) ∈ wsL := List.mem_filter.mpr ⟨List.mem_of_getElem? (i := 525) (by decide +kernel), by decide +kernel⟩
theorem m_363 : (Cond.selects RX7 yX7_dropProposed yX7_dropProposed) ∈ wsL := List.mem_filter.mpr ⟨List.mem_of_getElem? (i := 526) (by decide +kernel), by decide +kernel⟩
theorem m_364 : (Cond.code yX7_dropProposed cX7_dropProposed 1 none) ∈ wsL := List.mem_filter.mpr ⟨List.mem_of_getElem? (i := 527) (by decide +kernel), by decide +kernel⟩
theorem m_365 : (Cond.methodLink RX9 43 yX7_acceptProposed) ∈ wsL := List.mem_filter.mpr ⟨List.mem_of_getElem? (i := 528) (by decide +kernel), by decide +kernel⟩
theorem m_366 : (Cond.instanceMethod yX7_acceptProposed) ∈ wsL := List.mem_filter.mpr ⟨List.mem_of_getElem? (i := 529) (by decide +kernel), by decide +kernel⟩
theorem m_367 : (Cond.selects RX7 yX7_acceptProposed yX7_acceptProposed) ∈ wsL := List.mem_filter.mpr ⟨List.mem_of_getElem? (i := 530) (by decide +kernel), by decide +kernel⟩
theorem m_368 : (Cond.code yX7_acceptProposed cX7_acceptProposed 2 (some .int)) ∈ wsL := List.mem_filter.mpr ⟨List.mem_of_getElem? (i := 531) (by decide +kernel), by decide +kernel⟩
theorem m_369 : (Cond.methodLink RL 40 yX11_rules) ∈ wsL := List.mem_filter.mpr ⟨List.mem_of_getElem? (i := 1184) (by decide +kernel), by decide +kernel⟩
theorem m_370 : (Cond.instanceMethod yX11_rules) ∈ wsL := List.mem_filter.mpr ⟨List.mem_of_getElem? (i := 1185) (by decide +kernel), by decide +kernel⟩
theorem m_371 : (Cond.selects RX11 yX11_rules yX11_rules) ∈ wsL := List.mem_filter.mpr ⟨List.mem_of_getElem? (i := 1186) (by decide +kernel), by decide +kernel⟩
theorem m_372 : (Cond.code yX11_rules cX11_rules 4 (some .int)) ∈ wsL := List.mem_filter.mpr ⟨List.mem_of_getElem? (i := 1187) (by decide +kernel), by decide +kernel⟩
theorem m_373 : (Cond.fieldLink RX11 105 "BookClubModel" "size" "I") ∈ wsL := List.mem_filter.mpr ⟨List.mem_of_getElem? (i := 1095) (by decide +kernel), by decide +kernel⟩
theorem m_374 : (Cond.fieldLink RX11 102 "BookClubModel" "at" "I") ∈ wsL := List.mem_filter.mpr ⟨List.mem_of_getElem? (i := 1094) (by decide +kernel), by decide +kernel⟩
theorem m_375 : (Cond.fieldLink RX11 112 "BookClubModel" "faultKind" "I") ∈ wsL := List.mem_filter.mpr ⟨List.mem_of_getElem? (i := 1064) (by decide +kernel), by decide +kernel⟩
theorem m_376 : (Cond.fieldLink RX11 115 "BookClubModel" "faultPlace" "I") ∈ wsL := List.mem_filter.mpr ⟨List.mem_of_getElem? (i := 1065) (by decide +kernel), by decide +kernel⟩
theorem m_377 : (Cond.fieldLink RX11 151 "BookClubModel" "rules" "I") ∈ wsL := List.mem_filter.mpr ⟨List.mem_of_getElem? (i := 1069) (by decide +kernel), by decide +kernel⟩
theorem m_378 : (Cond.methodLink RX11 154 yX11_readStatement) ∈ wsL := List.mem_filter.mpr ⟨List.mem_of_getElem? (i := 1188) (by decide +kernel), by decide +kernel⟩
theorem m_379 : (Cond.instanceMethod yX11_readStatement) ∈ wsL := List.mem_filter.mpr ⟨List.mem_of_getElem? (i := 1190) (by decide +kernel), by decide +kernel⟩
theorem m_380 : (Cond.selects RX11 yX11_readStatement yX11_readStatement) ∈ wsL := List.mem_filter.mpr ⟨List.mem_of_getElem? (i := 28) (by decide +kernel), by decide +kernel⟩
theorem m_381 : (Cond.code yX11_readStatement cX11_readStatement 4 (some .boolean)) ∈ wsL := List.mem_filter.mpr ⟨List.mem_of_getElem? (i := 1191) (by decide +kernel), by decide +kernel⟩
theorem m_382 : (Cond.fieldLink RX11 138 "BookClubModel" "number" "I") ∈ wsL := List.mem_filter.mpr ⟨List.mem_of_getElem? (i := 1096) (by decide +kernel), by decide +kernel⟩
theorem m_383 : (Cond.methodLink RX11 141 yX11_blanks) ∈ wsL := List.mem_filter.mpr ⟨List.mem_of_getElem? (i := 1192) (by decide +kernel), by decide +kernel⟩
theorem m_384 : (Cond.instanceMethod yX11_blanks) ∈ wsL := List.mem_filter.mpr ⟨List.mem_of_getElem? (i := 1194) (by decide +kernel), by decide +kernel⟩
theorem m_385 : (Cond.selects RX11 yX11_blanks yX11_blanks) ∈ wsL := List.mem_filter.mpr ⟨List.mem_of_getElem? (i := 29) (by decide +kernel), by decide +kernel⟩
theorem m_386 : (Cond.code yX11_blanks cX11_blanks 1 none) ∈ wsL := List.mem_filter.mpr ⟨List.mem_of_getElem? (i := 1195) (by decide +kernel), by decide +kernel⟩
theorem m_387 : (Cond.methodLink RX11 108 yX11_here) ∈ wsL := List.mem_filter.mpr ⟨List.mem_of_getElem? (i := 1196) (by decide +kernel), by decide +kernel⟩
theorem m_388 : (Cond.instanceMethod yX11_here) ∈ wsL := List.mem_filter.mpr ⟨List.mem_of_getElem? (i := 1198) (by decide +kernel), by decide +kernel⟩
theorem m_389 : (Cond.selects RX11 yX11_here yX11_here) ∈ wsL := List.mem_filter.mpr ⟨List.mem_of_getElem? (i := 30) (by decide +kernel), by decide +kernel⟩
theorem m_390 : (Cond.code yX11_here cX11_here 1 (some .int)) ∈ wsL := List.mem_filter.mpr ⟨List.mem_of_getElem? (i := 1199) (by decide +kernel), by decide +kernel⟩
theorem m_391 : (Cond.methodLink RX11 91 yX11_in) ∈ wsL := List.mem_filter.mpr ⟨List.mem_of_getElem? (i := 1200) (by decide +kernel), by decide +kernel⟩
theorem m_392 : (Cond.static yX11_in) ∈ wsL := List.mem_filter.mpr ⟨List.mem_of_getElem? (i := 1201) (by decide +kernel), by decide +kernel⟩
theorem m_393 : (Cond.code yX11_in cX11_in 3 (some .boolean)) ∈ wsL := List.mem_filter.mpr ⟨List.mem_of_getElem? (i := 1202) (by decide +kernel), by decide +kernel⟩
theorem m_394 : (Cond.methodLink RX11 144 yX11_nameAt) ∈ wsL := List.mem_filter.mpr ⟨List.mem_of_getElem? (i := 1203) (by decide +kernel), by decide +kernel⟩
theorem m_395 : (Cond.instanceMethod yX11_nameAt) ∈ wsL := List.mem_filter.mpr ⟨List.mem_of_getElem? (i := 1205) (by decide +kernel), by decide +kernel⟩
theorem m_396 : (Cond.selects RX11 yX11_nameAt yX11_nameAt) ∈ wsL := List.mem_filter.mpr ⟨List.mem_of_getElem? (i := 31) (by decide +kernel), by decide +kernel⟩
theorem m_397 : (Cond.code yX11_nameAt cX11_nameAt 8 (some .int)) ∈ wsL := List.mem_filter.mpr ⟨List.mem_of_getElem? (i := 1206) (by decide +kernel), by decide +kernel⟩
theorem m_398 : (Cond.methodLink RX11 120 yJ0_length_8abf5) ∈ wsL := List.mem_filter.mpr ⟨List.mem_of_getElem? (i := 1208) (by decide +kernel), by decide +kernel⟩
theorem m_399 : (Cond.methodLink RX11 125 yJ0_indexOf_7cf53) ∈ wsL := List.mem_filter.mpr ⟨List.mem_of_getElem? (i := 1209) (by decide +kernel), by decide +kernel⟩
theorem m_400 : (Cond.instanceMethod yJ0_indexOf_7cf53) ∈ wsL := List.mem_filter.mpr ⟨List.mem_of_getElem? (i := 1210) (by decide +kernel), by decide +kernel⟩
theorem m_401 : (Cond.selects RJ0 yJ0_indexOf_7cf53 yJ0_indexOf_7cf53) ∈ wsL := List.mem_filter.mpr ⟨List.mem_of_getElem? (i := 1211) (by decide +kernel), by decide +kernel⟩
theorem m_402 : (Cond.code yJ0_indexOf_7cf53 cJ0_indexOf_7cf53 3 (some .int)) ∈ wsL := List.mem_filter.mpr ⟨List.mem_of_getElem? (i := 1212) (by decide +kernel), by decide +kernel⟩
theorem m_403 : (Cond.methodLink RJ0 505 yJ0_length_8abf5) ∈ wsL := List.mem_filter.mpr ⟨List.mem_of_getElem? (i := 1213) (by decide +kernel), by decide +kernel⟩
theorem m_404 : (Cond.methodLink RJ0 637 yJ1_indexOf_4cfef) ∈ wsL := List.mem_filter.mpr ⟨List.mem_of_getElem? (i := 1214) (by decide +kernel), by decide +kernel⟩
theorem m_405 : (Cond.static yJ1_indexOf_4cfef) ∈ wsL := List.mem_filter.mpr ⟨List.mem_of_getElem? (i := 1215) (by decide +kernel), by decide +kernel⟩
theorem m_406 : (Cond.code yJ1_indexOf_4cfef cJ1_indexOf_4cfef 4 (some .int)) ∈ wsL := List.mem_filter.mpr ⟨List.mem_of_getElem? (i := 1216) (by decide +kernel), by decide +kernel⟩
theorem m_407 : (Cond.methodLink RJ1 92 Lib.Math.max.name) ∈ wsL := List.mem_filter.mpr ⟨List.mem_of_getElem? (i := 1220) (by decide +kernel), by decide +kernel⟩
theorem m_408 : (Cond.methodLink RJ1 38 Lib.Math.min.name) ∈ wsL := List.mem_filter.mpr ⟨List.mem_of_getElem? (i := 1221) (by decide +kernel), by decide +kernel⟩
theorem m_409 : (Cond.methodLink RJ1 88 yJ1_canEncode_9a6ad) ∈ wsL := List.mem_filter.mpr ⟨List.mem_of_getElem? (i := 1217) (by decide +kernel), by decide +kernel⟩
theorem m_410 : (Cond.static yJ1_canEncode_9a6ad) ∈ wsL := List.mem_filter.mpr ⟨List.mem_of_getElem? (i := 1218) (by decide +kernel), by decide +kernel⟩
theorem m_411 : (Cond.code yJ1_canEncode_9a6ad cJ1_canEncode_9a6ad 1 (some .boolean)) ∈ wsL := List.mem_filter.mpr ⟨List.mem_of_getElem? (i := 1219) (by decide +kernel), by decide +kernel⟩
theorem m_412 : (Cond.methodLink RJ1 95 yJ1_indexOfChar_4cfef) ∈ wsL := List.mem_filter.mpr ⟨List.mem_of_getElem? (i := 1222) (by decide +kernel), by decide +kernel⟩
theorem m_413 : (Cond.static yJ1_indexOfChar_4cfef) ∈ wsL := List.mem_filter.mpr ⟨List.mem_of_getElem? (i := 1223) (by decide +kernel), by decide +kernel⟩
theorem m_414 : (Cond.code yJ1_indexOfChar_4cfef cJ1_indexOfChar_4cfef 6 (some .int)) ∈ wsL := List.mem_filter.mpr ⟨List.mem_of_getElem? (i := 1224) (by decide +kernel), by decide +kernel⟩
theorem m_415 : (Cond.methodLink RJ0 640 yJ2_indexOf_4cfef) ∈ wsL := List.mem_filter.mpr ⟨List.mem_of_getElem? (i := 1225) (by decide +kernel), by decide +kernel⟩
theorem m_416 : (Cond.static yJ2_indexOf_4cfef) ∈ wsL := List.mem_filter.mpr ⟨List.mem_of_getElem? (i := 1226) (by decide +kernel), by decide +kernel⟩
theorem m_417 : (Cond.code yJ2_indexOf_4cfef cJ2_indexOf_4cfef 4 (some .int)) ∈ wsL := List.mem_filter.mpr ⟨List.mem_of_getElem? (i := 1227) (by decide +kernel), by decide +kernel⟩
theorem m_418 : (Cond.methodLink RJ2 224 Lib.Math.max.name) ∈ wsL := List.mem_filter.mpr ⟨List.mem_of_getElem? (i := 1228) (by decide +kernel), by decide +kernel⟩
theorem m_419 : (Cond.methodLink RJ2 183 Lib.Math.min.name) ∈ wsL := List.mem_filter.mpr ⟨List.mem_of_getElem? (i := 1229) (by decide +kernel), by decide +kernel⟩
theorem m_420 : (Cond.constant RJ2 227 (65536)) ∈ wsL := List.mem_filter.mpr ⟨List.mem_of_getElem? (i := 1230) (by decide +kernel), by decide +kernel⟩
theorem m_421 : (Cond.methodLink RJ2 228 yJ2_indexOfChar_4cfef) ∈ wsL := List.mem_filter.mpr ⟨List.mem_of_getElem? (i := 1231) (by decide +kernel), by decide +kernel⟩
theorem m_422 : (Cond.static yJ2_indexOfChar_4cfef) ∈ wsL := List.mem_filter.mpr ⟨List.mem_of_getElem? (i := 1232) (by decide +kernel), by decide +kernel⟩
theorem m_423 : (Cond.code yJ2_indexOfChar_4cfef cJ2_indexOfChar_4cfef 4 (some .int)) ∈ wsL := List.mem_filter.mpr ⟨List.mem_of_getElem? (i := 1233) (by decide +kernel), by decide +kernel⟩
theorem m_424 : (Cond.methodLink RJ2 96 yJ2_checkBoundsBeginEnd_d044e) ∈ wsL := List.mem_filter.mpr ⟨List.mem_of_getElem? (i := 1234) (by decide +kernel), by decide +kernel⟩
theorem m_425 : (Cond.static yJ2_checkBoundsBeginEnd_d044e) ∈ wsL := List.mem_filter.mpr ⟨List.mem_of_getElem? (i := 1235) (by decide +kernel), by decide +kernel⟩
theorem m_426 : (Cond.code yJ2_checkBoundsBeginEnd_d044e cJ2_checkBoundsBeginEnd_d044e 3 none) ∈ wsL := List.mem_filter.mpr ⟨List.mem_of_getElem? (i := 1236) (by decide +kernel), by decide +kernel⟩
theorem m_427 : (Cond.methodLink RJ2 241 yJ0_checkBoundsBeginEnd_23922) ∈ wsL := List.mem_filter.mpr ⟨List.mem_of_getElem? (i := 1237) (by decide +kernel), by decide +kernel⟩
theorem m_428 : (Cond.static yJ0_checkBoundsBeginEnd_23922) ∈ wsL := List.mem_filter.mpr ⟨List.mem_of_getElem? (i := 1238) (by decide +kernel), by decide +kernel⟩
theorem m_429 : (Cond.code yJ0_checkBoundsBeginEnd_23922 cJ0_checkBoundsBeginEnd_23922 3 none) ∈ wsL := List.mem_filter.mpr ⟨List.mem_of_getElem? (i := 1239) (by decide +kernel), by decide +kernel⟩
theorem m_430 : (Cond.methodLink RJ0 1062 yJ3_checkFromToIndex_8c36e) ∈ wsL := List.mem_filter.mpr ⟨List.mem_of_getElem? (i := 1240) (by decide +kernel), by decide +kernel⟩
theorem m_431 : (Cond.static yJ3_checkFromToIndex_8c36e) ∈ wsL := List.mem_filter.mpr ⟨List.mem_of_getElem? (i := 1241) (by decide +kernel), by decide +kernel⟩
theorem m_432 : (Cond.code yJ3_checkFromToIndex_8c36e cJ3_checkFromToIndex_8c36e 4 (some .int)) ∈ wsL := List.mem_filter.mpr ⟨List.mem_of_getElem? (i := 1242) (by decide +kernel), by decide +kernel⟩
theorem m_433 : (Cond.methodLink RJ2 244 yJ2_indexOfCharUnsafe_4cfef) ∈ wsL := List.mem_filter.mpr ⟨List.mem_of_getElem? (i := 1243) (by decide +kernel), by decide +kernel⟩
theorem m_434 : (Cond.static yJ2_indexOfCharUnsafe_4cfef) ∈ wsL := List.mem_filter.mpr ⟨List.mem_of_getElem? (i := 1244) (by decide +kernel), by decide +kernel⟩
theorem m_435 : (Cond.code yJ2_indexOfCharUnsafe_4cfef cJ2_indexOfCharUnsafe_4cfef 5 (some .int)) ∈ wsL := List.mem_filter.mpr ⟨List.mem_of_getElem? (i := 1245) (by decide +kernel), by decide +kernel⟩
theorem m_436 : (Cond.methodLink RJ2 232 yJ2_indexOfSupplementary_4cfef) ∈ wsL := List.mem_filter.mpr ⟨List.mem_of_getElem? (i := 1246) (by decide +kernel), by decide +kernel⟩
theorem m_437 : (Cond.static yJ2_indexOfSupplementary_4cfef) ∈ wsL := List.mem_filter.mpr ⟨List.mem_of_getElem? (i := 1247) (by decide +kernel), by decide +kernel⟩
theorem m_438 : (Cond.code yJ2_indexOfSupplementary_4cfef cJ2_indexOfSupplementary_4cfef 7 (some .int)) ∈ wsL := List.mem_filter.mpr ⟨List.mem_of_getElem? (i := 1248) (by decide +kernel), by decide +kernel⟩
theorem m_439 : (Cond.methodLink RJ2 164 yJ11_isValidCodePoint_9a6ad) ∈ wsL := List.mem_filter.mpr ⟨List.mem_of_getElem? (i := 1249) (by decide +kernel), by decide +kernel⟩
theorem m_440 : (Cond.static yJ11_isValidCodePoint_9a6ad) ∈ wsL := List.mem_filter.mpr ⟨List.mem_of_getElem? (i := 1250) (by decide +kernel), by decide +kernel⟩
theorem m_441 : (Cond.initialized RJ11) ∈ wsL := List.mem_filter.mpr ⟨List.mem_of_getElem? (i := 67) (by decide +kernel), by decide +kernel⟩
theorem m_442 : (Cond.code yJ11_isValidCodePoint_9a6ad cJ11_isValidCodePoint_9a6ad 2 (some .boolean)) ∈ wsL := List.mem_filter.mpr ⟨List.mem_of_getElem? (i := 1251) (by decide +kernel), by decide +kernel⟩
theorem m_443 : (Cond.methodLink RJ2 157 yJ11_highSurrogate_5068e) ∈ wsL := List.mem_filter.mpr ⟨List.mem_of_getElem? (i := 1252) (by decide +kernel), by decide +kernel⟩
theorem m_444 : (Cond.static yJ11_highSurrogate_5068e) ∈ wsL := List.mem_filter.mpr ⟨List.mem_of_getElem? (i := 1253) (by decide +kernel), by decide +kernel⟩
theorem m_445 : (Cond.code yJ11_highSurrogate_5068e cJ11_highSurrogate_5068e 1 (some .char)) ∈ wsL := List.mem_filter.mpr ⟨List.mem_of_getElem? (i := 1254) (by decide +kernel), by decide +kernel⟩
theorem m_446 : (Cond.constant RJ11 110 (55232)) ∈ wsL := List.mem_filter.mpr ⟨List.mem_of_getElem? (i := 1255) (by decide +kernel), by decide +kernel⟩
theorem m_447 : (Cond.methodLink RJ2 161 yJ11_lowSurrogate_5068e) ∈ wsL := List.mem_filter.mpr ⟨List.mem_of_getElem? (i := 1256) (by decide +kernel), by decide +kernel⟩
theorem m_448 : (Cond.static yJ11_lowSurrogate_5068e) ∈ wsL := List.mem_filter.mpr ⟨List.mem_of_getElem? (i := 1257) (by decide +kernel), by decide +kernel⟩
theorem m_449 : (Cond.code yJ11_lowSurrogate_5068e cJ11_lowSurrogate_5068e 1 (some .char)) ∈ wsL := List.mem_filter.mpr ⟨List.mem_of_getElem? (i := 1258) (by decide +kernel), by decide +kernel⟩
theorem m_450 : (Cond.constant RJ11 76 (56320)) ∈ wsL := List.mem_filter.mpr ⟨List.mem_of_getElem? (i := 1259) (by decide +kernel), by decide +kernel⟩
theorem m_451 : (Cond.methodLink RX11 129 yJ0_charAt_5068e) ∈ wsL := List.mem_filter.mpr ⟨List.mem_of_getElem? (i := 1260) (by decide +kernel), by decide +kernel⟩
theorem m_452 : (Cond.methodLink RX11 133 yX11_fails) ∈ wsL := List.mem_filter.mpr ⟨List.mem_of_getElem? (i := 1261) (by decide +kernel), by decide +kernel⟩
theorem m_453 : (Cond.instanceMethod yX11_fails) ∈ wsL := List.mem_filter.mpr ⟨List.mem_of_getElem? (i := 1263) (by decide +kernel), by decide +kernel⟩
theorem m_454 : (Cond.selects RX11 yX11_fails yX11_fails) ∈ wsL := List.mem_filter.mpr ⟨List.mem_of_getElem? (i := 32) (by decide +kernel), by decide +kernel⟩
theorem m_455 : (Cond.code yX11_fails cX11_fails 3 (some .boolean)) ∈ wsL := List.mem_filter.mpr ⟨List.mem_of_getElem? (i := 1264) (by decide +kernel), by decide +kernel⟩
theorem m_456 : (Cond.methodLink RX11 147 yX11_readNumber) ∈ wsL := List.mem_filter.mpr ⟨List.mem_of_getElem? (i := 1265) (by decide +kernel), by decide +kernel⟩
theorem m_457 : (Cond.instanceMethod yX11_readNumber) ∈ wsL := List.mem_filter.mpr ⟨List.mem_of_getElem? (i := 1267) (by decide +kernel), by decide +kernel⟩
theorem m_458 : (Cond.selects RX11 yX11_readNumber yX11_readNumber) ∈ wsL := List.mem_filter.mpr ⟨List.mem_of_getElem? (i := 33) (by decide +kernel), by decide +kernel⟩
theorem m_459 : (Cond.code yX11_readNumber cX11_readNumber 4 (some .boolean)) ∈ wsL := List.mem_filter.mpr ⟨List.mem_of_getElem? (i := 1268) (by decide +kernel), by decide +kernel⟩
theorem m_460 : (Cond.constant RX11 137 (100000)) ∈ wsL := List.mem_filter.mpr ⟨List.mem_of_getElem? (i := 1269) (by decide +kernel), by decide +kernel⟩
theorem m_461 : (Cond.methodLink RL 41 yX10_fault) ∈ wsL := List.mem_filter.mpr ⟨List.mem_of_getElem? (i := 533) (by decide +kernel), by decide +kernel⟩
theorem m_462 : (Cond.instanceMethod yX10_fault) ∈ wsL := List.mem_filter.mpr ⟨List.mem_of_getElem? (i := 534) (by decide +kernel), by decide +kernel⟩
theorem m_463 : (Cond.selects RX10 yX10_fault yX10_fault) ∈ wsL := List.mem_filter.mpr ⟨List.mem_of_getElem? (i := 535) (by decide +kernel), by decide +kernel⟩
theorem m_464 : (Cond.code yX10_fault cX10_fault 2 (some .int)) ∈ wsL := List.mem_filter.mpr ⟨List.mem_of_getElem? (i := 536) (by decide +kernel), by decide +kernel⟩
theorem m_465 : (Cond.methodLink RL 45 yX11_fault) ∈ wsL := List.mem_filter.mpr ⟨List.mem_of_getElem? (i := 1270) (by decide +kernel), by decide +kernel⟩
theorem m_466 : (Cond.instanceMethod yX11_fault) ∈ wsL := List.mem_filter.mpr ⟨List.mem_of_getElem? (i := 1271) (by decide +kernel), by decide +kernel⟩
theorem m_467 : (Cond.selects RX11 yX11_fault yX11_fault) ∈ wsL := List.mem_filter.mpr ⟨List.mem_of_getElem? (i := 1272) (by decide +kernel), by decide +kernel⟩
theorem m_468 : (Cond.code yX11_fault cX11_fault 2 (some .int)) ∈ wsL := List.mem_filter.mpr ⟨List.mem_of_getElem? (i := 1273) (by decide +kernel), by decide +kernel⟩
theorem m_469 : (Cond.methodLink RL 46 yX10_rule) ∈ wsL := List.mem_filter.mpr ⟨List.mem_of_getElem? (i := 537) (by decide +kernel), by decide +kernel⟩
theorem m_470 : (Cond.instanceMethod yX10_rule) ∈ wsL := List.mem_filter.mpr ⟨List.mem_of_getElem? (i := 538) (by decide +kernel), by decide +kernel⟩
theorem m_471 : (Cond.selects RX10 yX10_rule yX10_rule) ∈ wsL := List.mem_filter.mpr ⟨List.mem_of_getElem? (i := 539) (by decide +kernel), by decide +kernel⟩
theorem m_472 : (Cond.code yX10_rule cX10_rule 3 (some .int)) ∈ wsL := List.mem_filter.mpr ⟨List.mem_of_getElem? (i := 540) (by decide +kernel), by decide +kernel⟩
theorem m_473 : (Cond.methodLink RX10 80 yX10_isWithin) ∈ wsL := List.mem_filter.mpr ⟨List.mem_of_getElem? (i := 541) (by decide +kernel), by decide +kernel⟩
theorem m_474 : (Cond.methodLink RX10 84 yX7_inForce) ∈ wsL := List.mem_filter.mpr ⟨List.mem_of_getElem? (i := 542) (by decide +kernel), by decide +kernel⟩
theorem m_475 : (Cond.instanceMethod yX7_inForce) ∈ wsL := List.mem_filter.mpr ⟨List.mem_of_getElem? (i := 543) (by decide +kernel), by decide +kernel⟩
theorem m_476 : (Cond.selects RX7 yX7_inForce yX7_inForce) ∈ wsL := List.mem_filter.mpr ⟨List.mem_of_getElem? (i := 544) (by decide +kernel), by decide +kernel⟩
theorem m_477 : (Cond.code yX7_inForce cX7_inForce 6 (some .int)) ∈ wsL := List.mem_filter.mpr ⟨List.mem_of_getElem? (i := 545) (by decide +kernel), by decide +kernel⟩
theorem m_478 : (Cond.fieldLink RX7 30 "BookClub$RuleBook" "WITHOUT_ANY" "[I") ∈ wsL := List.mem_filter.mpr ⟨List.mem_of_getElem? (i := 546) (by decide +kernel), by decide +kernel⟩
theorem m_479 : (Cond.methodLink RL 50 yX11_rule) ∈ wsL := List.mem_filter.mpr ⟨List.mem_of_getElem? (i := 1274) (by decide +kernel), by decide +kernel⟩
theorem m_480 : (Cond.instanceMethod yX11_rule) ∈ wsL := List.mem_filter.mpr ⟨List.mem_of_getElem? (i := 1275) (by decide +kernel), by decide +kernel⟩
theorem m_481 : (Cond.selects RX11 yX11_rule yX11_rule) ∈ wsL := List.mem_filter.mpr ⟨List.mem_of_getElem? (i := 1276) (by decide +kernel), by decide +kernel⟩
theorem m_482 : (Cond.code yX11_rule cX11_rule 3 (some .int)) ∈ wsL := List.mem_filter.mpr ⟨List.mem_of_getElem? (i := 1277) (by decide +kernel), by decide +kernel⟩
theorem m_483 : (Cond.methodLink RX11 157 yX11_ruleOf) ∈ wsL := List.mem_filter.mpr ⟨List.mem_of_getElem? (i := 1278) (by decide +kernel), by decide +kernel⟩
theorem m_484 : (Cond.instanceMethod yX11_ruleOf) ∈ wsL := List.mem_filter.mpr ⟨List.mem_of_getElem? (i := 1280) (by decide +kernel), by decide +kernel⟩
theorem m_485 : (Cond.selects RX11 yX11_ruleOf yX11_ruleOf) ∈ wsL := List.mem_filter.mpr ⟨List.mem_of_getElem? (i := 34) (by decide +kernel), by decide +kernel⟩
theorem m_486 : (Cond.code yX11_ruleOf cX11_ruleOf 5 (some .int)) ∈ wsL := List.mem_filter.mpr ⟨List.mem_of_getElem? (i := 1281) (by decide +kernel), by decide +kernel⟩
theorem m_487 : (Cond.methodLink RL 51 yX10_lag) ∈ wsL := List.mem_filter.mpr ⟨List.mem_of_getElem? (i := 549) (by decide +kernel), by decide +kernel⟩
theorem m_488 : (Cond.instanceMethod yX10_lag) ∈ wsL := List.mem_filter.mpr ⟨List.mem_of_getElem? (i := 550) (by decide +kernel), by decide +kernel⟩
theorem m_489 : (Cond.selects RX10 yX10_lag yX10_lag) ∈ wsL := List.mem_filter.mpr ⟨List.mem_of_getElem? (i := 551) (by decide +kernel), by decide +kernel⟩
theorem m_490 : (Cond.code yX10_lag cX10_lag 3 (some .boolean)) ∈ wsL := List.mem_filter.mpr ⟨List.mem_of_getElem? (i := 552) (by decide +kernel), by decide +kernel⟩
theorem m_491 : (Cond.methodLink RX10 88 yX2_setLag) ∈ wsL := List.mem_filter.mpr ⟨List.mem_of_getElem? (i := 553) (by decide +kernel), by decide +kernel⟩
theorem m_492 : (Cond.instanceMethod yX2_setLag) ∈ wsL := List.mem_filter.mpr ⟨List.mem_of_getElem? (i := 554) (by decide +kernel), by decide +kernel⟩
theorem m_493 : (Cond.selects RX2 yX2_setLag yX2_setLag) ∈ wsL := List.mem_filter.mpr ⟨List.mem_of_getElem? (i := 555) (by decide +kernel), by decide +kernel⟩
theorem m_494 : (Cond.code yX2_setLag cX2_setLag 3 (some .boolean)) ∈ wsL := List.mem_filter.mpr ⟨List.mem_of_getElem? (i := 556) (by decide +kernel), by decide +kernel⟩
theorem m_495 : (Cond.methodLink RX2 78 yX2_isHouse) ∈ wsL := List.mem_filter.mpr ⟨List.mem_of_getElem? (i := 557) (by decide +kernel), by decide +kernel⟩
theorem m_496 : (Cond.static yX2_isHouse) ∈ wsL := List.mem_filter.mpr ⟨List.mem_of_getElem? (i := 558) (by decide +kernel), by decide +kernel⟩
theorem m_497 : (Cond.code yX2_isHouse cX2_isHouse 1 (some .boolean)) ∈ wsL := List.mem_filter.mpr ⟨List.mem_of_getElem? (i := 559) (by decide +kernel), by decide +kernel⟩
theorem m_498 : (Cond.methodLink RL 55 yX11_lag) ∈ wsL := List.mem_filter.mpr ⟨List.mem_of_getElem? (i := 1298) (by decide +kernel), by decide +kernel⟩
theorem m_499 : (Cond.instanceMethod yX11_lag) ∈ wsL := List.mem_filter.mpr ⟨List.mem_of_getElem? (i := 1299) (by decide +kernel), by decide +kernel⟩
theorem m_500 : (Cond.selects RX11 yX11_lag yX11_lag) ∈ wsL := List.mem_filter.mpr ⟨List.mem_of_getElem? (i := 1300) (by decide +kernel), by decide +kernel⟩
theorem m_501 : (Cond.code yX11_lag cX11_lag 3 (some .boolean)) ∈ wsL := List.mem_filter.mpr ⟨List.mem_of_getElem? (i := 1301) (by decide +kernel), by decide +kernel⟩
theorem m_502 : (Cond.methodLink RL 56 yX10_join) ∈ wsL := List.mem_filter.mpr ⟨List.mem_of_getElem? (i := 561) (by decide +kernel), by decide +kernel⟩
theorem m_503 : (Cond.instanceMethod yX10_join) ∈ wsL := List.mem_filter.mpr ⟨List.mem_of_getElem? (i := 562) (by decide +kernel), by decide +kernel⟩
theorem m_504 : (Cond.selects RX10 yX10_join yX10_join) ∈ wsL := List.mem_filter.mpr ⟨List.mem_of_getElem? (i := 563) (by decide +kernel), by decide +kernel⟩
theorem m_505 : (Cond.code yX10_join cX10_join 3 (some .int)) ∈ wsL := List.mem_filter.mpr ⟨List.mem_of_getElem? (i := 564) (by decide +kernel), by decide +kernel⟩
theorem m_506 : (Cond.methodLink RX10 92 yX2_admit) ∈ wsL := List.mem_filter.mpr ⟨List.mem_of_getElem? (i := 565) (by decide +kernel), by decide +kernel⟩
theorem m_507 : (Cond.instanceMethod yX2_admit) ∈ wsL := List.mem_filter.mpr ⟨List.mem_of_getElem? (i := 566) (by decide +kernel), by decide +kernel⟩
theorem m_508 : (Cond.selects RX2 yX2_admit yX2_admit) ∈ wsL := List.mem_filter.mpr ⟨List.mem_of_getElem? (i := 567) (by decide +kernel), by decide +kernel⟩
theorem m_509 : (Cond.code yX2_admit cX2_admit 5 (some .int)) ∈ wsL := List.mem_filter.mpr ⟨List.mem_of_getElem? (i := 568) (by decide +kernel), by decide +kernel⟩
theorem m_510 : (Cond.classLink RX2 73 RX6) ∈ wsL := List.mem_filter.mpr ⟨List.mem_of_getElem? (i := 587) (by decide +kernel), by decide +kernel⟩
theorem m_511 : (Cond.instantiable RX6 11) ∈ wsL := List.mem_filter.mpr ⟨List.mem_of_getElem? (i := 588) (by decide +kernel), by decide +kernel⟩
theorem m_512 : (Cond.initialized RX6) ∈ wsL := List.mem_filter.mpr ⟨List.mem_of_getElem? (i := 68) (by decide +kernel), by decide +kernel⟩
theorem m_513 : (Cond.methodLink RX2 82 yX0_isKind) ∈ wsL := List.mem_filter.mpr ⟨List.mem_of_getElem? (i := 569) (by decide +kernel), by decide +kernel⟩
theorem m_514 : (Cond.static yX0_isKind) ∈ wsL := List.mem_filter.mpr ⟨List.mem_of_getElem? (i := 570) (by decide +kernel), by decide +kernel⟩
theorem m_515 : (Cond.code yX0_isKind cX0_isKind 1 (some .boolean)) ∈ wsL := List.mem_filter.mpr ⟨List.mem_of_getElem? (i := 571) (by decide +kernel), by decide +kernel⟩
theorem m_516 : (Cond.methodLink RX2 61 yJx4a65c_size_8abf5) ∈ wsL := List.mem_filter.mpr ⟨List.mem_of_getElem? (i := 573) (by decide +kernel), by decide +kernel⟩
theorem m_517 : (Cond.instanceMethod yJx4a65c_size_8abf5) ∈ wsL := List.mem_filter.mpr ⟨List.mem_of_getElem? (i := 574) (by decide +kernel), by decide +kernel⟩
theorem m_518 : (Cond.selects RJx4a65c yJx4a65c_size_8abf5 yJx4a65c_size_8abf5) ∈ wsL := List.mem_filter.mpr ⟨List.mem_of_getElem? (i := 575) (by decide +kernel), by decide +kernel⟩
theorem m_519 : (Cond.code yJx4a65c_size_8abf5 cJx4a65c_size_8abf5 1 (some .int)) ∈ wsL := List.mem_filter.mpr ⟨List.mem_of_getElem? (i := 576) (by decide +kernel), by decide +kernel⟩
theorem m_520 : (Cond.methodLink RX2 87 yX2_inForceNow) ∈ wsL := List.mem_filter.mpr ⟨List.mem_of_getElem? (i := 577) (by decide +kernel), by decide +kernel⟩
theorem m_521 : (Cond.instanceMethod yX2_inForceNow) ∈ wsL := List.mem_filter.mpr ⟨List.mem_of_getElem? (i := 579) (by decide +kernel), by decide +kernel⟩
theorem m_522 : (Cond.selects RX2 yX2_inForceNow yX2_inForceNow) ∈ wsL := List.mem_filter.mpr ⟨List.mem_of_getElem? (i := 14) (by decide +kernel), by decide +kernel⟩
theorem m_523 : (Cond.code yX2_inForceNow cX2_inForceNow 2 (some .int)) ∈ wsL := List.mem_filter.mpr ⟨List.mem_of_getElem? (i := 580) (by decide +kernel), by decide +kernel⟩
theorem m_524 : (Cond.methodLink RX2 199 yX7_inForce) ∈ wsL := List.mem_filter.mpr ⟨List.mem_of_getElem? (i := 581) (by decide +kernel), by decide +kernel⟩
theorem m_525 : (Cond.methodLink RX2 91 yX5_roomLeft) ∈ wsL := List.mem_filter.mpr ⟨List.mem_of_getElem? (i := 582) (by decide +kernel), by decide +kernel⟩
theorem m_526 : (Cond.instanceMethod yX5_roomLeft) ∈ wsL := List.mem_filter.mpr ⟨List.mem_of_getElem? (i := 583) (by decide +kernel), by decide +kernel⟩
theorem m_527 : (Cond.selects RX5 yX5_roomLeft yX5_roomLeft) ∈ wsL := List.mem_filter.mpr ⟨List.mem_of_getElem? (i := 584) (by decide +kernel), by decide +kernel⟩
theorem m_528 : (Cond.code yX5_roomLeft cX5_roomLeft 1 (some .int)) ∈ wsL := List.mem_filter.mpr ⟨List.mem_of_getElem? (i := 585) (by decide +kernel), by decide +kernel⟩
theorem m_529 : (Cond.methodLink RX5 16 yJx4a65c_size_8abf5) ∈ wsL := List.mem_filter.mpr ⟨List.mem_of_getElem? (i := 586) (by decide +kernel), by decide +kernel⟩
theorem m_530 : (Cond.methodLink RX2 94 yX6_init) ∈ wsL := List.mem_filter.mpr ⟨List.mem_of_getElem? (i := 589) (by decide +kernel), by decide +kernel⟩
theorem m_531 : (Cond.instanceMethod yX6_init) ∈ wsL := List.mem_filter.mpr ⟨List.mem_of_getElem? (i := 590) (by decide +kernel), by decide +kernel⟩
theorem m_532 : (Cond.code yX6_init cX6_init 4 none) ∈ wsL := List.mem_filter.mpr ⟨List.mem_of_getElem? (i := 591) (by decide +kernel), by decide +kernel⟩
theorem m_533 : (Cond.methodLink RX6 3 objectInit) ∈ wsL := List.mem_filter.mpr ⟨List.mem_of_getElem? (i := 592) (by decide +kernel), by decide +kernel⟩
theorem m_534 : (Cond.fieldLink RX6 9 "BookClub$Member" "number" "I") ∈ wsL := List.mem_filter.mpr ⟨List.mem_of_getElem? (i := 593) (by decide +kernel), by decide +kernel⟩
theorem m_535 : (Cond.fieldLink RX6 15 "BookClub$Member" "kind" "I") ∈ wsL := List.mem_filter.mpr ⟨List.mem_of_getElem? (i := 597) (by decide +kernel), by decide +kernel⟩
theorem m_536 : (Cond.fieldLink RX6 18 "BookClub$Member" "house" "I") ∈ wsL := List.mem_filter.mpr ⟨List.mem_of_getElem? (i := 599) (by decide +kernel), by decide +kernel⟩
theorem m_537 : (Cond.fieldLink RX6 21 "BookClub$Member" "state" "I") ∈ wsL := List.mem_filter.mpr ⟨List.mem_of_getElem? (i := 602) (by decide +kernel), by decide +kernel⟩
theorem m_538 : (Cond.methodLink RX2 97 yX2_write) ∈ wsL := List.mem_filter.mpr ⟨List.mem_of_getElem? (i := 649) (by decide +kernel), by decide +kernel⟩
theorem m_539 : (Cond.instanceMethod yX2_write) ∈ wsL := List.mem_filter.mpr ⟨List.mem_of_getElem? (i := 651) (by decide +kernel), by decide +kernel⟩
theorem m_540 : (Cond.selects RX2 yX2_write yX2_write) ∈ wsL := List.mem_filter.mpr ⟨List.mem_of_getElem? (i := 15) (by decide +kernel), by decide +kernel⟩
theorem m_541 : (Cond.code yX2_write cX2_write 5 none) ∈ wsL := List.mem_filter.mpr ⟨List.mem_of_getElem? (i := 652) (by decide +kernel), by decide +kernel⟩
theorem m_542 : (Cond.methodLink RX2 204 yX5_write) ∈ wsL := List.mem_filter.mpr ⟨List.mem_of_getElem? (i := 653) (by decide +kernel), by decide +kernel⟩
theorem m_543 : (Cond.instanceMethod yX5_write) ∈ wsL := List.mem_filter.mpr ⟨List.mem_of_getElem? (i := 654) (by decide +kernel), by decide +kernel⟩
theorem m_544 : (Cond.selects RX5 yX5_write yX5_write) ∈ wsL := List.mem_filter.mpr ⟨List.mem_of_getElem? (i := 655) (by decide +kernel), by decide +kernel⟩
theorem m_545 : (Cond.code yX5_write cX5_write 6 none) ∈ wsL := List.mem_filter.mpr ⟨List.mem_of_getElem? (i := 656) (by decide +kernel), by decide +kernel⟩
theorem m_546 : (Cond.classLink RX5 30 RX3) ∈ wsL := List.mem_filter.mpr ⟨List.mem_of_getElem? (i := 657) (by decide +kernel), by decide +kernel⟩
theorem m_547 : (Cond.instantiable RX3 5) ∈ wsL := List.mem_filter.mpr ⟨List.mem_of_getElem? (i := 658) (by decide +kernel), by decide +kernel⟩
theorem m_548 : (Cond.initialized RX3) ∈ wsL := List.mem_filter.mpr ⟨List.mem_of_getElem? (i := 69) (by decide +kernel), by decide +kernel⟩
theorem m_549 : (Cond.methodLink RX5 32 yX3_init) ∈ wsL := List.mem_filter.mpr ⟨List.mem_of_getElem? (i := 659) (by decide +kernel), by decide +kernel⟩
theorem m_550 : (Cond.instanceMethod yX3_init) ∈ wsL := List.mem_filter.mpr ⟨List.mem_of_getElem? (i := 660) (by decide +kernel), by decide +kernel⟩
theorem m_551 : (Cond.code yX3_init cX3_init 6 none) ∈ wsL := List.mem_filter.mpr ⟨List.mem_of_getElem? (i := 661) (by decide +kernel), by decide +kernel⟩
theorem m_552 : (Cond.methodLink RX3 3 objectInit) ∈ wsL := List.mem_filter.mpr ⟨List.mem_of_getElem? (i := 662) (by decide +kernel), by decide +kernel⟩
theorem m_553 : (Cond.fieldLink RX3 9 "BookClub$Entry" "owner" "LBookClub$Member;") ∈ wsL := List.mem_filter.mpr ⟨List.mem_of_getElem? (i := 663) (by decide +kernel), by decide +kernel⟩
theorem m_554 : (Cond.fieldLink RX3 15 "BookClub$Entry" "month" "I") ∈ wsL := List.mem_filter.mpr ⟨List.mem_of_getElem? (i := 666) (by decide +kernel), by decide +kernel⟩
theorem m_555 : (Cond.fieldLink RX3 19 "BookClub$Entry" "sort" "I") ∈ wsL := List.mem_filter.mpr ⟨List.mem_of_getElem? (i := 669) (by decide +kernel), by decide +kernel⟩
theorem m_556 : (Cond.fieldLink RX3 22 "BookClub$Entry" "amount" "J") ∈ wsL := List.mem_filter.mpr ⟨List.mem_of_getElem? (i := 671) (by decide +kernel), by decide +kernel⟩
theorem m_557 : (Cond.fieldLink RX3 26 "BookClub$Entry" "struckIn" "I") ∈ wsL := List.mem_filter.mpr ⟨List.mem_of_getElem? (i := 674) (by decide +kernel), by decide +kernel⟩
theorem m_558 : (Cond.methodLink RX5 35 yJx4a65c_add_9ea2d) ∈ wsL := List.mem_filter.mpr ⟨List.mem_of_getElem? (i := 687) (by decide +kernel), by decide +kernel⟩
theorem m_559 : (Cond.methodLink RL 59 yX11_join) ∈ wsL := List.mem_filter.mpr ⟨List.mem_of_getElem? (i := 1302) (by decide +kernel), by decide +kernel⟩
theorem m_560 : (Cond.instanceMethod yX11_join) ∈ wsL := List.mem_filter.mpr ⟨List.mem_of_getElem? (i := 1303) (by decide +kernel), by decide +kernel⟩
theorem m_561 : (Cond.selects RX11 yX11_join yX11_join) ∈ wsL := List.mem_filter.mpr ⟨List.mem_of_getElem? (i := 1304) (by decide +kernel), by decide +kernel⟩
theorem m_562 : (Cond.code yX11_join cX11_join 6 (some .int)) ∈ wsL := List.mem_filter.mpr ⟨List.mem_of_getElem? (i := 1305) (by decide +kernel), by decide +kernel⟩
theorem m_563 : (Cond.fieldLink RX11 88 "BookClubModel" "members" "I") ∈ wsL := List.mem_filter.mpr ⟨List.mem_of_getElem? (i := 1081) (by decide +kernel), by decide +kernel⟩
theorem m_564 : (Cond.fieldLink RX11 163 "BookClubModel" "month" "I") ∈ wsL := List.mem_filter.mpr ⟨List.mem_of_getElem? (i := 1082) (by decide +kernel), by decide +kernel⟩
theorem m_565 : (Cond.fieldLink RX11 160 "BookClubModel" "entries" "I") ∈ wsL := List.mem_filter.mpr ⟨List.mem_of_getElem? (i := 1089) (by decide +kernel), by decide +kernel⟩
theorem m_566 : (Cond.methodLink RX11 169 yX11_enter) ∈ wsL := List.mem_filter.mpr ⟨List.mem_of_getElem? (i := 1306) (by decide +kernel), by decide +kernel⟩
theorem m_567 : (Cond.instanceMethod yX11_enter) ∈ wsL := List.mem_filter.mpr ⟨List.mem_of_getElem? (i := 1308) (by decide +kernel), by decide +kernel⟩
theorem m_568 : (Cond.selects RX11 yX11_enter yX11_enter) ∈ wsL := List.mem_filter.mpr ⟨List.mem_of_getElem? (i := 36) (by decide +kernel), by decide +kernel⟩
theorem m_569 : (Cond.code yX11_enter cX11_enter 5 none) ∈ wsL := List.mem_filter.mpr ⟨List.mem_of_getElem? (i := 1309) (by decide +kernel), by decide +kernel⟩
theorem m_570 : (Cond.methodLink RL 60 yX10_move) ∈ wsL := List.mem_filter.mpr ⟨List.mem_of_getElem? (i := 688) (by decide +kernel), by decide +kernel⟩
theorem m_571 : (Cond.instanceMethod yX10_move) ∈ wsL := List.mem_filter.mpr ⟨List.mem_of_getElem? (i := 689) (by decide +kernel), by decide +kernel⟩
theorem m_572 : (Cond.selects RX10 yX10_move yX10_move) ∈ wsL := List.mem_filter.mpr ⟨List.mem_of_getElem? (i := 690) (by decide +kernel), by decide +kernel⟩
theorem m_573 : (Cond.code yX10_move cX10_move 3 (some .boolean)) ∈ wsL := List.mem_filter.mpr ⟨List.mem_of_getElem? (i := 691) (by decide +kernel), by decide +kernel⟩
theorem m_574 : (Cond.methodLink RX10 95 yX2_findMember) ∈ wsL := List.mem_filter.mpr ⟨List.mem_of_getElem? (i := 692) (by decide +kernel), by decide +kernel⟩
theorem m_575 : (Cond.instanceMethod yX2_findMember) ∈ wsL := List.mem_filter.mpr ⟨List.mem_of_getElem? (i := 693) (by decide +kernel), by decide +kernel⟩
theorem m_576 : (Cond.selects RX2 yX2_findMember yX2_findMember) ∈ wsL := List.mem_filter.mpr ⟨List.mem_of_getElem? (i := 694) (by decide +kernel), by decide +kernel⟩
theorem m_577 : (Cond.code yX2_findMember cX2_findMember 2 (some (.object "BookClub$Member"))) ∈ wsL := List.mem_filter.mpr ⟨List.mem_of_getElem? (i := 695) (by decide +kernel), by decide +kernel⟩
theorem m_578 : (Cond.classLink RX2 73 "BookClub$Member") ∈ wsL := List.mem_filter.mpr ⟨List.mem_of_getElem? (i := 587) (by decide +kernel), by decide +kernel⟩
theorem m_579 : (Cond.methodLink RX2 69 yJx4a65c_get_915e3) ∈ wsL := List.mem_filter.mpr ⟨List.mem_of_getElem? (i := 696) (by decide +kernel), by decide +kernel⟩
theorem m_580 : (Cond.instanceMethod yJx4a65c_get_915e3) ∈ wsL := List.mem_filter.mpr ⟨List.mem_of_getElem? (i := 697) (by decide +kernel), by decide +kernel⟩
theorem m_581 : (Cond.selects RJx4a65c yJx4a65c_get_915e3 yJx4a65c_get_915e3) ∈ wsL := List.mem_filter.mpr ⟨List.mem_of_getElem? (i := 698) (by decide +kernel), by decide +kernel⟩
theorem m_582 : (Cond.code yJx4a65c_get_915e3 cJx4a65c_get_915e3 2 (some (.object "java/lang/Object"))) ∈ wsL := List.mem_filter.mpr ⟨List.mem_of_getElem? (i := 699) (by decide +kernel), by decide +kernel⟩
theorem m_583 : (Cond.methodLink RJx4a65c 118 yJ15_checkIndex_7cf53) ∈ wsL := List.mem_filter.mpr ⟨List.mem_of_getElem? (i := 700) (by decide +kernel), by decide +kernel⟩
theorem m_584 : (Cond.static yJ15_checkIndex_7cf53) ∈ wsL := List.mem_filter.mpr ⟨List.mem_of_getElem? (i := 701) (by decide +kernel), by decide +kernel⟩
theorem m_585 : (Cond.initialized RJ15) ∈ wsL := List.mem_filter.mpr ⟨List.mem_of_getElem? (i := 70) (by decide +kernel), by decide +kernel⟩
theorem m_586 : (Cond.code yJ15_checkIndex_7cf53 cJ15_checkIndex_7cf53 2 (some .int)) ∈ wsL := List.mem_filter.mpr ⟨List.mem_of_getElem? (i := 702) (by decide +kernel), by decide +kernel⟩
theorem m_587 : (Cond.methodLink RJ15 105 yJ3_checkIndex_8e157) ∈ wsL := List.mem_filter.mpr ⟨List.mem_of_getElem? (i := 703) (by decide +kernel), by decide +kernel⟩
theorem m_588 : (Cond.methodLink RJx4a65c 123 yJx4a65c_elementData_915e3) ∈ wsL := List.mem_filter.mpr ⟨List.mem_of_getElem? (i := 704) (by decide +kernel), by decide +kernel⟩
theorem m_589 : (Cond.instanceMethod yJx4a65c_elementData_915e3) ∈ wsL := List.mem_filter.mpr ⟨List.mem_of_getElem? (i := 705) (by decide +kernel), by decide +kernel⟩
theorem m_590 : (Cond.selects RJx4a65c yJx4a65c_elementData_915e3 yJx4a65c_elementData_915e3) ∈ wsL := List.mem_filter.mpr ⟨List.mem_of_getElem? (i := 706) (by decide +kernel), by decide +kernel⟩
theorem m_591 : (Cond.code yJx4a65c_elementData_915e3 cJx4a65c_elementData_915e3 2 (some (.object "java/lang/Object"))) ∈ wsL := List.mem_filter.mpr ⟨List.mem_of_getElem? (i := 707) (by decide +kernel), by decide +kernel⟩
theorem m_592 : (Cond.methodLink RX10 99 yX2_rehouse) ∈ wsL := List.mem_filter.mpr ⟨List.mem_of_getElem? (i := 708) (by decide +kernel), by decide +kernel⟩
theorem m_593 : (Cond.instanceMethod yX2_rehouse) ∈ wsL := List.mem_filter.mpr ⟨List.mem_of_getElem? (i := 709) (by decide +kernel), by decide +kernel⟩
theorem m_594 : (Cond.selects RX2 yX2_rehouse yX2_rehouse) ∈ wsL := List.mem_filter.mpr ⟨List.mem_of_getElem? (i := 710) (by decide +kernel), by decide +kernel⟩
theorem m_595 : (Cond.code yX2_rehouse cX2_rehouse 3 (some .boolean)) ∈ wsL := List.mem_filter.mpr ⟨List.mem_of_getElem? (i := 711) (by decide +kernel), by decide +kernel⟩
theorem m_596 : (Cond.methodLink RL 63 yX11_move) ∈ wsL := List.mem_filter.mpr ⟨List.mem_of_getElem? (i := 1310) (by decide +kernel), by decide +kernel⟩
theorem m_597 : (Cond.instanceMethod yX11_move) ∈ wsL := List.mem_filter.mpr ⟨List.mem_of_getElem? (i := 1311) (by decide +kernel), by decide +kernel⟩
theorem m_598 : (Cond.selects RX11 yX11_move yX11_move) ∈ wsL := List.mem_filter.mpr ⟨List.mem_of_getElem? (i := 1312) (by decide +kernel), by decide +kernel⟩
theorem m_599 : (Cond.code yX11_move cX11_move 3 (some .boolean)) ∈ wsL := List.mem_filter.mpr ⟨List.mem_of_getElem? (i := 1313) (by decide +kernel), by decide +kernel⟩
theorem m_600 : (Cond.methodLink RX11 166 yX11_isMember) ∈ wsL := List.mem_filter.mpr ⟨List.mem_of_getElem? (i := 1294) (by decide +kernel), by decide +kernel⟩
theorem m_601 : (Cond.instanceMethod yX11_isMember) ∈ wsL := List.mem_filter.mpr ⟨List.mem_of_getElem? (i := 1296) (by decide +kernel), by decide +kernel⟩
theorem m_602 : (Cond.selects RX11 yX11_isMember yX11_isMember) ∈ wsL := List.mem_filter.mpr ⟨List.mem_of_getElem? (i := 35) (by decide +kernel), by decide +kernel⟩
theorem m_603 : (Cond.code yX11_isMember cX11_isMember 2 (some .boolean)) ∈ wsL := List.mem_filter.mpr ⟨List.mem_of_getElem? (i := 1297) (by decide +kernel), by decide +kernel⟩
theorem m_604 : (Cond.methodLink RL 64 yX10_pay) ∈ wsL := List.mem_filter.mpr ⟨List.mem_of_getElem? (i := 712) (by decide +kernel), by decide +kernel⟩
theorem m_605 : (Cond.instanceMethod yX10_pay) ∈ wsL := List.mem_filter.mpr ⟨List.mem_of_getElem? (i := 713) (by decide +kernel), by decide +kernel⟩
theorem m_606 : (Cond.selects RX10 yX10_pay yX10_pay) ∈ wsL := List.mem_filter.mpr ⟨List.mem_of_getElem? (i := 714) (by decide +kernel), by decide +kernel⟩
theorem m_607 : (Cond.code yX10_pay cX10_pay 3 (some .long)) ∈ wsL := List.mem_filter.mpr ⟨List.mem_of_getElem? (i := 715) (by decide +kernel), by decide +kernel⟩
theorem m_608 : (Cond.methodLink RX10 103 yX2_receive) ∈ wsL := List.mem_filter.mpr ⟨List.mem_of_getElem? (i := 716) (by decide +kernel), by decide +kernel⟩
theorem m_609 : (Cond.instanceMethod yX2_receive) ∈ wsL := List.mem_filter.mpr ⟨List.mem_of_getElem? (i := 717) (by decide +kernel), by decide +kernel⟩
theorem m_610 : (Cond.selects RX2 yX2_receive yX2_receive) ∈ wsL := List.mem_filter.mpr ⟨List.mem_of_getElem? (i := 718) (by decide +kernel), by decide +kernel⟩
theorem m_611 : (Cond.code yX2_receive cX2_receive 3 (some .long)) ∈ wsL := List.mem_filter.mpr ⟨List.mem_of_getElem? (i := 719) (by decide +kernel), by decide +kernel⟩
theorem m_612 : (Cond.constant RX2 107 (100000)) ∈ wsL := List.mem_filter.mpr ⟨List.mem_of_getElem? (i := 720) (by decide +kernel), by decide +kernel⟩
theorem m_613 : (Cond.constantLong RX2 108 (-1000000000)) ∈ wsL := List.mem_filter.mpr ⟨List.mem_of_getElem? (i := 721) (by decide +kernel), by decide +kernel⟩
theorem m_614 : (Cond.methodLink RX2 110 yX6_owesMoreThan) ∈ wsL := List.mem_filter.mpr ⟨List.mem_of_getElem? (i := 722) (by decide +kernel), by decide +kernel⟩
theorem m_615 : (Cond.instanceMethod yX6_owesMoreThan) ∈ wsL := List.mem_filter.mpr ⟨List.mem_of_getElem? (i := 723) (by decide +kernel), by decide +kernel⟩
theorem m_616 : (Cond.selects RX6 yX6_owesMoreThan yX6_owesMoreThan) ∈ wsL := List.mem_filter.mpr ⟨List.mem_of_getElem? (i := 724) (by decide +kernel), by decide +kernel⟩
theorem m_617 : (Cond.code yX6_owesMoreThan cX6_owesMoreThan 2 (some .boolean)) ∈ wsL := List.mem_filter.mpr ⟨List.mem_of_getElem? (i := 725) (by decide +kernel), by decide +kernel⟩
theorem m_618 : (Cond.fieldLink RX6 37 "BookClub$Member" "balance" "J") ∈ wsL := List.mem_filter.mpr ⟨List.mem_of_getElem? (i := 611) (by decide +kernel), by decide +kernel⟩
theorem m_619 : (Cond.methodLink RX2 113 yX6_owesNoLonger) ∈ wsL := List.mem_filter.mpr ⟨List.mem_of_getElem? (i := 726) (by decide +kernel), by decide +kernel⟩
theorem m_620 : (Cond.instanceMethod yX6_owesNoLonger) ∈ wsL := List.mem_filter.mpr ⟨List.mem_of_getElem? (i := 727) (by decide +kernel), by decide +kernel⟩
theorem m_621 : (Cond.selects RX6 yX6_owesNoLonger yX6_owesNoLonger) ∈ wsL := List.mem_filter.mpr ⟨List.mem_of_getElem? (i := 728) (by decide +kernel), by decide +kernel⟩
theorem m_622 : (Cond.code yX6_owesNoLonger cX6_owesNoLonger 1 none) ∈ wsL := List.mem_filter.mpr ⟨List.mem_of_getElem? (i := 729) (by decide +kernel), by decide +kernel⟩
theorem m_623 : (Cond.fieldLink RX6 41 "BookClub$Member" "monthsOwing" "I") ∈ wsL := List.mem_filter.mpr ⟨List.mem_of_getElem? (i := 607) (by decide +kernel), by decide +kernel⟩
theorem m_624 : (Cond.methodLink RL 67 yX11_pay) ∈ wsL := List.mem_filter.mpr ⟨List.mem_of_getElem? (i := 1314) (by decide +kernel), by decide +kernel⟩
theorem m_625 : (Cond.instanceMethod yX11_pay) ∈ wsL := List.mem_filter.mpr ⟨List.mem_of_getElem? (i := 1315) (by decide +kernel), by decide +kernel⟩
theorem m_626 : (Cond.selects RX11 yX11_pay yX11_pay) ∈ wsL := List.mem_filter.mpr ⟨List.mem_of_getElem? (i := 1316) (by decide +kernel), by decide +kernel⟩
theorem m_627 : (Cond.code yX11_pay cX11_pay 3 (some .long)) ∈ wsL := List.mem_filter.mpr ⟨List.mem_of_getElem? (i := 1317) (by decide +kernel), by decide +kernel⟩
theorem m_628 : (Cond.constantLong RX11 177 (-1000000000)) ∈ wsL := List.mem_filter.mpr ⟨List.mem_of_getElem? (i := 1318) (by decide +kernel), by decide +kernel⟩
theorem m_629 : (Cond.methodLink RX11 179 yX11_owes) ∈ wsL := List.mem_filter.mpr ⟨List.mem_of_getElem? (i := 1319) (by decide +kernel), by decide +kernel⟩
theorem m_630 : (Cond.instanceMethod yX11_owes) ∈ wsL := List.mem_filter.mpr ⟨List.mem_of_getElem? (i := 1321) (by decide +kernel), by decide +kernel⟩
theorem m_631 : (Cond.selects RX11 yX11_owes yX11_owes) ∈ wsL := List.mem_filter.mpr ⟨List.mem_of_getElem? (i := 37) (by decide +kernel), by decide +kernel⟩
theorem m_632 : (Cond.code yX11_owes cX11_owes 2 (some .boolean)) ∈ wsL := List.mem_filter.mpr ⟨List.mem_of_getElem? (i := 1322) (by decide +kernel), by decide +kernel⟩
theorem m_633 : (Cond.methodLink RX11 173 yX11_balanceOf) ∈ wsL := List.mem_filter.mpr ⟨List.mem_of_getElem? (i := 1323) (by decide +kernel), by decide +kernel⟩
theorem m_634 : (Cond.instanceMethod yX11_balanceOf) ∈ wsL := List.mem_filter.mpr ⟨List.mem_of_getElem? (i := 1325) (by decide +kernel), by decide +kernel⟩
theorem m_635 : (Cond.selects RX11 yX11_balanceOf yX11_balanceOf) ∈ wsL := List.mem_filter.mpr ⟨List.mem_of_getElem? (i := 38) (by decide +kernel), by decide +kernel⟩
theorem m_636 : (Cond.code yX11_balanceOf cX11_balanceOf 5 (some .long)) ∈ wsL := List.mem_filter.mpr ⟨List.mem_of_getElem? (i := 1326) (by decide +kernel), by decide +kernel⟩
theorem m_637 : (Cond.methodLink RL 68 yX10_leave) ∈ wsL := List.mem_filter.mpr ⟨List.mem_of_getElem? (i := 730) (by decide +kernel), by decide +kernel⟩
theorem m_638 : (Cond.instanceMethod yX10_leave) ∈ wsL := List.mem_filter.mpr ⟨List.mem_of_getElem? (i := 731) (by decide +kernel), by decide +kernel⟩
theorem m_639 : (Cond.selects RX10 yX10_leave yX10_leave) ∈ wsL := List.mem_filter.mpr ⟨List.mem_of_getElem? (i := 732) (by decide +kernel), by decide +kernel⟩
theorem m_640 : (Cond.code yX10_leave cX10_leave 2 (some .long)) ∈ wsL := List.mem_filter.mpr ⟨List.mem_of_getElem? (i := 733) (by decide +kernel), by decide +kernel⟩
theorem m_641 : (Cond.methodLink RX10 107 yX2_dismiss) ∈ wsL := List.mem_filter.mpr ⟨List.mem_of_getElem? (i := 734) (by decide +kernel), by decide +kernel⟩
theorem m_642 : (Cond.instanceMethod yX2_dismiss) ∈ wsL := List.mem_filter.mpr ⟨List.mem_of_getElem? (i := 735) (by decide +kernel), by decide +kernel⟩
theorem m_643 : (Cond.selects RX2 yX2_dismiss yX2_dismiss) ∈ wsL := List.mem_filter.mpr ⟨List.mem_of_getElem? (i := 736) (by decide +kernel), by decide +kernel⟩
theorem m_644 : (Cond.code yX2_dismiss cX2_dismiss 4 (some .long)) ∈ wsL := List.mem_filter.mpr ⟨List.mem_of_getElem? (i := 737) (by decide +kernel), by decide +kernel⟩
theorem m_645 : (Cond.constantLong RX2 120 (-1)) ∈ wsL := List.mem_filter.mpr ⟨List.mem_of_getElem? (i := 738) (by decide +kernel), by decide +kernel⟩
theorem m_646 : (Cond.methodLink RL 72 yX11_leave) ∈ wsL := List.mem_filter.mpr ⟨List.mem_of_getElem? (i := 1327) (by decide +kernel), by decide +kernel⟩
theorem m_647 : (Cond.instanceMethod yX11_leave) ∈ wsL := List.mem_filter.mpr ⟨List.mem_of_getElem? (i := 1328) (by decide +kernel), by decide +kernel⟩
theorem m_648 : (Cond.selects RX11 yX11_leave yX11_leave) ∈ wsL := List.mem_filter.mpr ⟨List.mem_of_getElem? (i := 1329) (by decide +kernel), by decide +kernel⟩
theorem m_649 : (Cond.code yX11_leave cX11_leave 4 (some .long)) ∈ wsL := List.mem_filter.mpr ⟨List.mem_of_getElem? (i := 1330) (by decide +kernel), by decide +kernel⟩
theorem m_650 : (Cond.constantLong RX11 182 (-1)) ∈ wsL := List.mem_filter.mpr ⟨List.mem_of_getElem? (i := 1331) (by decide +kernel), by decide +kernel⟩
theorem m_651 : (Cond.methodLink RL 73 yL_member) ∈ wsL := List.mem_filter.mpr ⟨List.mem_of_getElem? (i := 957) (by decide +kernel), by decide +kernel⟩
theorem m_652 : (Cond.static yL_member) ∈ wsL := List.mem_filter.mpr ⟨List.mem_of_getElem? (i := 958) (by decide +kernel), by decide +kernel⟩
theorem m_653 : (Cond.initialized RL) ∈ wsL := List.mem_filter.mpr ⟨List.mem_of_getElem? (i := 45) (by decide +kernel), by decide +kernel⟩
theorem m_654 : (Cond.codeWith yL_member cL_member 5 (some .int) [(0, 9, 12, 13)]) ∈ wsL := List.mem_filter.mpr ⟨List.mem_of_getElem? (i := 959) (by decide +kernel), by decide +kernel⟩
theorem m_655 : (Cond.classLink RL 13 "java/util/NoSuchElementException") ∈ wsL := List.mem_filter.mpr ⟨List.mem_of_getElem? (i := 960) (by decide +kernel), by decide +kernel⟩
theorem m_656 : (Cond.methodLink RL 7 yX10_member) ∈ wsL := List.mem_filter.mpr ⟨List.mem_of_getElem? (i := 961) (by decide +kernel), by decide +kernel⟩
theorem m_657 : (Cond.instanceMethod yX10_member) ∈ wsL := List.mem_filter.mpr ⟨List.mem_of_getElem? (i := 962) (by decide +kernel), by decide +kernel⟩
theorem m_658 : (Cond.selects RX10 yX10_member yX10_member) ∈ wsL := List.mem_filter.mpr ⟨List.mem_of_getElem? (i := 963) (by decide +kernel), by decide +kernel⟩
theorem m_659 : (Cond.code yX10_member cX10_member 4 (some .long)) ∈ wsL := List.mem_filter.mpr ⟨List.mem_of_getElem? (i := 964) (by decide +kernel), by decide +kernel⟩
theorem m_660 : (Cond.classLink RX10 111 "java/util/NoSuchElementException") ∈ wsL := List.mem_filter.mpr ⟨List.mem_of_getElem? (i := 965) (by decide +kernel), by decide +kernel⟩
theorem m_661 : (Cond.initialized "java/util/NoSuchElementException") ∈ wsL := List.mem_filter.mpr ⟨List.mem_of_getElem? (i := 74) (by decide +kernel), by decide +kernel⟩
theorem m_662 : (Cond.methodLink RL 78 yX11_member) ∈ wsL := List.mem_filter.mpr ⟨List.mem_of_getElem? (i := 1332) (by decide +kernel), by decide +kernel⟩
theorem m_663 : (Cond.instanceMethod yX11_member) ∈ wsL := List.mem_filter.mpr ⟨List.mem_of_getElem? (i := 1333) (by decide +kernel), by decide +kernel⟩
theorem m_664 : (Cond.selects RX11 yX11_member yX11_member) ∈ wsL := List.mem_filter.mpr ⟨List.mem_of_getElem? (i := 1334) (by decide +kernel), by decide +kernel⟩
theorem m_665 : (Cond.code yX11_member cX11_member 3 (some .long)) ∈ wsL := List.mem_filter.mpr ⟨List.mem_of_getElem? (i := 1335) (by decide +kernel), by decide +kernel⟩
theorem m_666 : (Cond.methodLink RL 79 yX11_thrown) ∈ wsL := List.mem_filter.mpr ⟨List.mem_of_getElem? (i := 1168) (by decide +kernel), by decide +kernel⟩
theorem m_667 : (Cond.instanceMethod yX11_thrown) ∈ wsL := List.mem_filter.mpr ⟨List.mem_of_getElem? (i := 1169) (by decide +kernel), by decide +kernel⟩
theorem m_668 : (Cond.selects RX11 yX11_thrown yX11_thrown) ∈ wsL := List.mem_filter.mpr ⟨List.mem_of_getElem? (i := 1170) (by decide +kernel), by decide +kernel⟩
theorem m_669 : (Cond.code yX11_thrown cX11_thrown 1 (some .int)) ∈ wsL := List.mem_filter.mpr ⟨List.mem_of_getElem? (i := 1171) (by decide +kernel), by decide +kernel⟩
theorem m_670 : (Cond.methodLink RL 82 yX10_choice) ∈ wsL := List.mem_filter.mpr ⟨List.mem_of_getElem? (i := 739) (by decide +kernel), by decide +kernel⟩
theorem m_671 : (Cond.instanceMethod yX10_choice) ∈ wsL := List.mem_filter.mpr ⟨List.mem_of_getElem? (i := 740) (by decide +kernel), by decide +kernel⟩
theorem m_672 : (Cond.selects RX10 yX10_choice yX10_choice) ∈ wsL := List.mem_filter.mpr ⟨List.mem_of_getElem? (i := 741) (by decide +kernel), by decide +kernel⟩
theorem m_673 : (Cond.code yX10_choice cX10_choice 3 (some .int)) ∈ wsL := List.mem_filter.mpr ⟨List.mem_of_getElem? (i := 742) (by decide +kernel), by decide +kernel⟩
theorem m_674 : (Cond.methodLink RX10 151 yX2_tellChoice) ∈ wsL := List.mem_filter.mpr ⟨List.mem_of_getElem? (i := 743) (by decide +kernel), by decide +kernel⟩
theorem m_675 : (Cond.instanceMethod yX2_tellChoice) ∈ wsL := List.mem_filter.mpr ⟨List.mem_of_getElem? (i := 744) (by decide +kernel), by decide +kernel⟩
theorem m_676 : (Cond.selects RX2 yX2_tellChoice yX2_tellChoice) ∈ wsL := List.mem_filter.mpr ⟨List.mem_of_getElem? (i := 745) (by decide +kernel), by decide +kernel⟩
theorem m_677 : (Cond.code yX2_tellChoice cX2_tellChoice 3 (some .int)) ∈ wsL := List.mem_filter.mpr ⟨List.mem_of_getElem? (i := 746) (by decide +kernel), by decide +kernel⟩
theorem m_678 : (Cond.methodLink RX2 122 yX1_tell) ∈ wsL := List.mem_filter.mpr ⟨List.mem_of_getElem? (i := 747) (by decide +kernel), by decide +kernel⟩
theorem m_679 : (Cond.instanceMethod yX1_tell) ∈ wsL := List.mem_filter.mpr ⟨List.mem_of_getElem? (i := 748) (by decide +kernel), by decide +kernel⟩
theorem m_680 : (Cond.selects RX1 yX1_tell yX1_tell) ∈ wsL := List.mem_filter.mpr ⟨List.mem_of_getElem? (i := 749) (by decide +kernel), by decide +kernel⟩
theorem m_681 : (Cond.code yX1_tell cX1_tell 3 (some .int)) ∈ wsL := List.mem_filter.mpr ⟨List.mem_of_getElem? (i := 750) (by decide +kernel), by decide +kernel⟩
theorem m_682 : (Cond.fieldLink RX1 15 "BookClub$Choice" "printed" "I") ∈ wsL := List.mem_filter.mpr ⟨List.mem_of_getElem? (i := 203) (by decide +kernel), by decide +kernel⟩
theorem m_683 : (Cond.fieldLink RX1 19 "BookClub$Choice" "price" "I") ∈ wsL := List.mem_filter.mpr ⟨List.mem_of_getElem? (i := 200) (by decide +kernel), by decide +kernel⟩
theorem m_684 : (Cond.fieldLink RX1 22 "BookClub$Choice" "stock" "I") ∈ wsL := List.mem_filter.mpr ⟨List.mem_of_getElem? (i := 205) (by decide +kernel), by decide +kernel⟩
theorem m_685 : (Cond.methodLink RL 85 yX11_choice) ∈ wsL := List.mem_filter.mpr ⟨List.mem_of_getElem? (i := 1336) (by decide +kernel), by decide +kernel⟩
theorem m_686 : (Cond.instanceMethod yX11_choice) ∈ wsL := List.mem_filter.mpr ⟨List.mem_of_getElem? (i := 1337) (by decide +kernel), by decide +kernel⟩
theorem m_687 : (Cond.selects RX11 yX11_choice yX11_choice) ∈ wsL := List.mem_filter.mpr ⟨List.mem_of_getElem? (i := 1338) (by decide +kernel), by decide +kernel⟩
theorem m_688 : (Cond.code yX11_choice cX11_choice 4 (some .int)) ∈ wsL := List.mem_filter.mpr ⟨List.mem_of_getElem? (i := 1339) (by decide +kernel), by decide +kernel⟩
theorem m_689 : (Cond.methodLink RL 86 yX10_refuse) ∈ wsL := List.mem_filter.mpr ⟨List.mem_of_getElem? (i := 752) (by decide +kernel), by decide +kernel⟩
theorem m_690 : (Cond.instanceMethod yX10_refuse) ∈ wsL := List.mem_filter.mpr ⟨List.mem_of_getElem? (i := 753) (by decide +kernel), by decide +kernel⟩
theorem m_691 : (Cond.selects RX10 yX10_refuse yX10_refuse) ∈ wsL := List.mem_filter.mpr ⟨List.mem_of_getElem? (i := 754) (by decide +kernel), by decide +kernel⟩
theorem m_692 : (Cond.code yX10_refuse cX10_refuse 3 (some .int)) ∈ wsL := List.mem_filter.mpr ⟨List.mem_of_getElem? (i := 755) (by decide +kernel), by decide +kernel⟩
theorem m_693 : (Cond.methodLink RX10 154 yX2_takeRefusal) ∈ wsL := List.mem_filter.mpr ⟨List.mem_of_getElem? (i := 756) (by decide +kernel), by decide +kernel⟩
theorem m_694 : (Cond.instanceMethod yX2_takeRefusal) ∈ wsL := List.mem_filter.mpr ⟨List.mem_of_getElem? (i := 757) (by decide +kernel), by decide +kernel⟩
theorem m_695 : (Cond.selects RX2 yX2_takeRefusal yX2_takeRefusal) ∈ wsL := List.mem_filter.mpr ⟨List.mem_of_getElem? (i := 758) (by decide +kernel), by decide +kernel⟩
theorem m_696 : (Cond.code yX2_takeRefusal cX2_takeRefusal 3 (some .int)) ∈ wsL := List.mem_filter.mpr ⟨List.mem_of_getElem? (i := 759) (by decide +kernel), by decide +kernel⟩
theorem m_697 : (Cond.methodLink RX2 129 yX2_lagOf) ∈ wsL := List.mem_filter.mpr ⟨List.mem_of_getElem? (i := 760) (by decide +kernel), by decide +kernel⟩
theorem m_698 : (Cond.instanceMethod yX2_lagOf) ∈ wsL := List.mem_filter.mpr ⟨List.mem_of_getElem? (i := 762) (by decide +kernel), by decide +kernel⟩
theorem m_699 : (Cond.selects RX2 yX2_lagOf yX2_lagOf) ∈ wsL := List.mem_filter.mpr ⟨List.mem_of_getElem? (i := 16) (by decide +kernel), by decide +kernel⟩
theorem m_700 : (Cond.code yX2_lagOf cX2_lagOf 2 (some .int)) ∈ wsL := List.mem_filter.mpr ⟨List.mem_of_getElem? (i := 763) (by decide +kernel), by decide +kernel⟩
theorem m_701 : (Cond.methodLink RL 89 yX11_refuse) ∈ wsL := List.mem_filter.mpr ⟨List.mem_of_getElem? (i := 1340) (by decide +kernel), by decide +kernel⟩
theorem m_702 : (Cond.instanceMethod yX11_refuse) ∈ wsL := List.mem_filter.mpr ⟨List.mem_of_getElem? (i := 1341) (by decide +kernel), by decide +kernel⟩
theorem m_703 : (Cond.selects RX11 yX11_refuse yX11_refuse) ∈ wsL := List.mem_filter.mpr ⟨List.mem_of_getElem? (i := 1342) (by decide +kernel), by decide +kernel⟩
theorem m_704 : (Cond.code yX11_refuse cX11_refuse 3 (some .int)) ∈ wsL := List.mem_filter.mpr ⟨List.mem_of_getElem? (i := 1343) (by decide +kernel), by decide +kernel⟩
theorem m_705 : (Cond.methodLink RL 90 yX10_close) ∈ wsL := List.mem_filter.mpr ⟨List.mem_of_getElem? (i := 764) (by decide +kernel), by decide +kernel⟩
theorem m_706 : (Cond.instanceMethod yX10_close) ∈ wsL := List.mem_filter.mpr ⟨List.mem_of_getElem? (i := 765) (by decide +kernel), by decide +kernel⟩
theorem m_707 : (Cond.selects RX10 yX10_close yX10_close) ∈ wsL := List.mem_filter.mpr ⟨List.mem_of_getElem? (i := 766) (by decide +kernel), by decide +kernel⟩
theorem m_708 : (Cond.code yX10_close cX10_close 1 (some .int)) ∈ wsL := List.mem_filter.mpr ⟨List.mem_of_getElem? (i := 767) (by decide +kernel), by decide +kernel⟩
theorem m_709 : (Cond.methodLink RX10 158 yX2_endMonth) ∈ wsL := List.mem_filter.mpr ⟨List.mem_of_getElem? (i := 768) (by decide +kernel), by decide +kernel⟩
theorem m_710 : (Cond.instanceMethod yX2_endMonth) ∈ wsL := List.mem_filter.mpr ⟨List.mem_of_getElem? (i := 769) (by decide +kernel), by decide +kernel⟩
theorem m_711 : (Cond.selects RX2 yX2_endMonth yX2_endMonth) ∈ wsL := List.mem_filter.mpr ⟨List.mem_of_getElem? (i := 770) (by decide +kernel), by decide +kernel⟩
theorem m_712 : (Cond.code yX2_endMonth cX2_endMonth 2 (some .int)) ∈ wsL := List.mem_filter.mpr ⟨List.mem_of_getElem? (i := 771) (by decide +kernel), by decide +kernel⟩
theorem m_713 : (Cond.methodLink RX2 132 yX2_takeBackRefused) ∈ wsL := List.mem_filter.mpr ⟨List.mem_of_getElem? (i := 772) (by decide +kernel), by decide +kernel⟩
theorem m_714 : (Cond.instanceMethod yX2_takeBackRefused) ∈ wsL := List.mem_filter.mpr ⟨List.mem_of_getElem? (i := 774) (by decide +kernel), by decide +kernel⟩
theorem m_715 : (Cond.selects RX2 yX2_takeBackRefused yX2_takeBackRefused) ∈ wsL := List.mem_filter.mpr ⟨List.mem_of_getElem? (i := 17) (by decide +kernel), by decide +kernel⟩
theorem m_716 : (Cond.code yX2_takeBackRefused cX2_takeBackRefused 5 none) ∈ wsL := List.mem_filter.mpr ⟨List.mem_of_getElem? (i := 775) (by decide +kernel), by decide +kernel⟩
theorem m_717 : (Cond.methodLink RX2 147 yX2_findChoice) ∈ wsL := List.mem_filter.mpr ⟨List.mem_of_getElem? (i := 776) (by decide +kernel), by decide +kernel⟩
theorem m_718 : (Cond.instanceMethod yX2_findChoice) ∈ wsL := List.mem_filter.mpr ⟨List.mem_of_getElem? (i := 777) (by decide +kernel), by decide +kernel⟩
theorem m_719 : (Cond.selects RX2 yX2_findChoice yX2_findChoice) ∈ wsL := List.mem_filter.mpr ⟨List.mem_of_getElem? (i := 778) (by decide +kernel), by decide +kernel⟩
theorem m_720 : (Cond.code yX2_findChoice cX2_findChoice 2 (some (.object "BookClub$Choice"))) ∈ wsL := List.mem_filter.mpr ⟨List.mem_of_getElem? (i := 779) (by decide +kernel), by decide +kernel⟩
theorem m_721 : (Cond.classLink RX2 46 "BookClub$Choice") ∈ wsL := List.mem_filter.mpr ⟨List.mem_of_getElem? (i := 194) (by decide +kernel), by decide +kernel⟩
theorem m_722 : (Cond.methodLink RX2 151 yX1_percentOfPrice) ∈ wsL := List.mem_filter.mpr ⟨List.mem_of_getElem? (i := 780) (by decide +kernel), by decide +kernel⟩
theorem m_723 : (Cond.instanceMethod yX1_percentOfPrice) ∈ wsL := List.mem_filter.mpr ⟨List.mem_of_getElem? (i := 781) (by decide +kernel), by decide +kernel⟩
theorem m_724 : (Cond.selects RX1 yX1_percentOfPrice yX1_percentOfPrice) ∈ wsL := List.mem_filter.mpr ⟨List.mem_of_getElem? (i := 782) (by decide +kernel), by decide +kernel⟩
theorem m_725 : (Cond.code yX1_percentOfPrice cX1_percentOfPrice 2 (some .int)) ∈ wsL := List.mem_filter.mpr ⟨List.mem_of_getElem? (i := 783) (by decide +kernel), by decide +kernel⟩
theorem m_726 : (Cond.methodLink RX2 158 yX1_putBack) ∈ wsL := List.mem_filter.mpr ⟨List.mem_of_getElem? (i := 784) (by decide +kernel), by decide +kernel⟩
theorem m_727 : (Cond.instanceMethod yX1_putBack) ∈ wsL := List.mem_filter.mpr ⟨List.mem_of_getElem? (i := 785) (by decide +kernel), by decide +kernel⟩
theorem m_728 : (Cond.selects RX1 yX1_putBack yX1_putBack) ∈ wsL := List.mem_filter.mpr ⟨List.mem_of_getElem? (i := 786) (by decide +kernel), by decide +kernel⟩
theorem m_729 : (Cond.code yX1_putBack cX1_putBack 1 none) ∈ wsL := List.mem_filter.mpr ⟨List.mem_of_getElem? (i := 787) (by decide +kernel), by decide +kernel⟩
theorem m_730 : (Cond.fieldLink RX1 34 "BookClub$Choice" "takenBack" "I") ∈ wsL := List.mem_filter.mpr ⟨List.mem_of_getElem? (i := 211) (by decide +kernel), by decide +kernel⟩
theorem m_731 : (Cond.methodLink RX2 135 yX2_sendChoice) ∈ wsL := List.mem_filter.mpr ⟨List.mem_of_getElem? (i := 788) (by decide +kernel), by decide +kernel⟩
theorem m_732 : (Cond.instanceMethod yX2_sendChoice) ∈ wsL := List.mem_filter.mpr ⟨List.mem_of_getElem? (i := 790) (by decide +kernel), by decide +kernel⟩
theorem m_733 : (Cond.selects RX2 yX2_sendChoice yX2_sendChoice) ∈ wsL := List.mem_filter.mpr ⟨List.mem_of_getElem? (i := 18) (by decide +kernel), by decide +kernel⟩
theorem m_734 : (Cond.code yX2_sendChoice cX2_sendChoice 6 none) ∈ wsL := List.mem_filter.mpr ⟨List.mem_of_getElem? (i := 791) (by decide +kernel), by decide +kernel⟩
theorem m_735 : (Cond.methodLink RX2 164 yX6_forgetLatestChoice) ∈ wsL := List.mem_filter.mpr ⟨List.mem_of_getElem? (i := 792) (by decide +kernel), by decide +kernel⟩
theorem m_736 : (Cond.instanceMethod yX6_forgetLatestChoice) ∈ wsL := List.mem_filter.mpr ⟨List.mem_of_getElem? (i := 793) (by decide +kernel), by decide +kernel⟩
theorem m_737 : (Cond.selects RX6 yX6_forgetLatestChoice yX6_forgetLatestChoice) ∈ wsL := List.mem_filter.mpr ⟨List.mem_of_getElem? (i := 794) (by decide +kernel), by decide +kernel⟩
theorem m_738 : (Cond.code yX6_forgetLatestChoice cX6_forgetLatestChoice 1 none) ∈ wsL := List.mem_filter.mpr ⟨List.mem_of_getElem? (i := 795) (by decide +kernel), by decide +kernel⟩
theorem m_739 : (Cond.fieldLink RX6 27 "BookClub$Member" "wasSent" "Z") ∈ wsL := List.mem_filter.mpr ⟨List.mem_of_getElem? (i := 618) (by decide +kernel), by decide +kernel⟩
theorem m_740 : (Cond.fieldLink RX6 31 "BookClub$Member" "wasShort" "Z") ∈ wsL := List.mem_filter.mpr ⟨List.mem_of_getElem? (i := 621) (by decide +kernel), by decide +kernel⟩
theorem m_741 : (Cond.fieldLink RX6 34 "BookClub$Member" "sendsBack" "Z") ∈ wsL := List.mem_filter.mpr ⟨List.mem_of_getElem? (i := 624) (by decide +kernel), by decide +kernel⟩
theorem m_742 : (Cond.methodLink RX2 167 yX6_refusedInTime) ∈ wsL := List.mem_filter.mpr ⟨List.mem_of_getElem? (i := 796) (by decide +kernel), by decide +kernel⟩
theorem m_743 : (Cond.instanceMethod yX6_refusedInTime) ∈ wsL := List.mem_filter.mpr ⟨List.mem_of_getElem? (i := 797) (by decide +kernel), by decide +kernel⟩
theorem m_744 : (Cond.selects RX6 yX6_refusedInTime yX6_refusedInTime) ∈ wsL := List.mem_filter.mpr ⟨List.mem_of_getElem? (i := 798) (by decide +kernel), by decide +kernel⟩
theorem m_745 : (Cond.code yX6_refusedInTime cX6_refusedInTime 2 (some .boolean)) ∈ wsL := List.mem_filter.mpr ⟨List.mem_of_getElem? (i := 799) (by decide +kernel), by decide +kernel⟩
theorem m_746 : (Cond.fieldLink RX6 24 "BookClub$Member" "refusalDay" "I") ∈ wsL := List.mem_filter.mpr ⟨List.mem_of_getElem? (i := 615) (by decide +kernel), by decide +kernel⟩
theorem m_747 : (Cond.methodLink RX2 170 yX2_sendTo) ∈ wsL := List.mem_filter.mpr ⟨List.mem_of_getElem? (i := 800) (by decide +kernel), by decide +kernel⟩
theorem m_748 : (Cond.instanceMethod yX2_sendTo) ∈ wsL := List.mem_filter.mpr ⟨List.mem_of_getElem? (i := 802) (by decide +kernel), by decide +kernel⟩
theorem m_749 : (Cond.selects RX2 yX2_sendTo yX2_sendTo) ∈ wsL := List.mem_filter.mpr ⟨List.mem_of_getElem? (i := 19) (by decide +kernel), by decide +kernel⟩
theorem m_750 : (Cond.code yX2_sendTo cX2_sendTo 4 none) ∈ wsL := List.mem_filter.mpr ⟨List.mem_of_getElem? (i := 803) (by decide +kernel), by decide +kernel⟩
theorem m_751 : (Cond.methodLink RX2 183 yX1_takeOut) ∈ wsL := List.mem_filter.mpr ⟨List.mem_of_getElem? (i := 804) (by decide +kernel), by decide +kernel⟩
theorem m_752 : (Cond.instanceMethod yX1_takeOut) ∈ wsL := List.mem_filter.mpr ⟨List.mem_of_getElem? (i := 805) (by decide +kernel), by decide +kernel⟩
theorem m_753 : (Cond.selects RX1 yX1_takeOut yX1_takeOut) ∈ wsL := List.mem_filter.mpr ⟨List.mem_of_getElem? (i := 806) (by decide +kernel), by decide +kernel⟩
theorem m_754 : (Cond.code yX1_takeOut cX1_takeOut 1 none) ∈ wsL := List.mem_filter.mpr ⟨List.mem_of_getElem? (i := 807) (by decide +kernel), by decide +kernel⟩
theorem m_755 : (Cond.fieldLink RX1 31 "BookClub$Choice" "sent" "I") ∈ wsL := List.mem_filter.mpr ⟨List.mem_of_getElem? (i := 208) (by decide +kernel), by decide +kernel⟩
theorem m_756 : (Cond.methodLink RX2 141 yX2_judgeDebts) ∈ wsL := List.mem_filter.mpr ⟨List.mem_of_getElem? (i := 808) (by decide +kernel), by decide +kernel⟩
theorem m_757 : (Cond.instanceMethod yX2_judgeDebts) ∈ wsL := List.mem_filter.mpr ⟨List.mem_of_getElem? (i := 810) (by decide +kernel), by decide +kernel⟩
theorem m_758 : (Cond.selects RX2 yX2_judgeDebts yX2_judgeDebts) ∈ wsL := List.mem_filter.mpr ⟨List.mem_of_getElem? (i := 20) (by decide +kernel), by decide +kernel⟩
theorem m_759 : (Cond.code yX2_judgeDebts cX2_judgeDebts 6 none) ∈ wsL := List.mem_filter.mpr ⟨List.mem_of_getElem? (i := 811) (by decide +kernel), by decide +kernel⟩
theorem m_760 : (Cond.methodLink RX2 192 yX2_judgeDebt) ∈ wsL := List.mem_filter.mpr ⟨List.mem_of_getElem? (i := 812) (by decide +kernel), by decide +kernel⟩
theorem m_761 : (Cond.static yX2_judgeDebt) ∈ wsL := List.mem_filter.mpr ⟨List.mem_of_getElem? (i := 813) (by decide +kernel), by decide +kernel⟩
theorem m_762 : (Cond.code yX2_judgeDebt cX2_judgeDebt 4 none) ∈ wsL := List.mem_filter.mpr ⟨List.mem_of_getElem? (i := 814) (by decide +kernel), by decide +kernel⟩
theorem m_763 : (Cond.methodLink RX2 144 yX2_beginNextMonth) ∈ wsL := List.mem_filter.mpr ⟨List.mem_of_getElem? (i := 815) (by decide +kernel), by decide +kernel⟩
theorem m_764 : (Cond.instanceMethod yX2_beginNextMonth) ∈ wsL := List.mem_filter.mpr ⟨List.mem_of_getElem? (i := 817) (by decide +kernel), by decide +kernel⟩
theorem m_765 : (Cond.selects RX2 yX2_beginNextMonth yX2_beginNextMonth) ∈ wsL := List.mem_filter.mpr ⟨List.mem_of_getElem? (i := 21) (by decide +kernel), by decide +kernel⟩
theorem m_766 : (Cond.code yX2_beginNextMonth cX2_beginNextMonth 2 none) ∈ wsL := List.mem_filter.mpr ⟨List.mem_of_getElem? (i := 818) (by decide +kernel), by decide +kernel⟩
theorem m_767 : (Cond.methodLink RL 93 yX11_close) ∈ wsL := List.mem_filter.mpr ⟨List.mem_of_getElem? (i := 1344) (by decide +kernel), by decide +kernel⟩
theorem m_768 : (Cond.instanceMethod yX11_close) ∈ wsL := List.mem_filter.mpr ⟨List.mem_of_getElem? (i := 1345) (by decide +kernel), by decide +kernel⟩
theorem m_769 : (Cond.selects RX11 yX11_close yX11_close) ∈ wsL := List.mem_filter.mpr ⟨List.mem_of_getElem? (i := 1346) (by decide +kernel), by decide +kernel⟩
theorem m_770 : (Cond.code yX11_close cX11_close 3 (some .int)) ∈ wsL := List.mem_filter.mpr ⟨List.mem_of_getElem? (i := 1347) (by decide +kernel), by decide +kernel⟩
theorem m_771 : (Cond.methodLink RX11 184 yX11_takeBack) ∈ wsL := List.mem_filter.mpr ⟨List.mem_of_getElem? (i := 1348) (by decide +kernel), by decide +kernel⟩
theorem m_772 : (Cond.instanceMethod yX11_takeBack) ∈ wsL := List.mem_filter.mpr ⟨List.mem_of_getElem? (i := 1350) (by decide +kernel), by decide +kernel⟩
theorem m_773 : (Cond.selects RX11 yX11_takeBack yX11_takeBack) ∈ wsL := List.mem_filter.mpr ⟨List.mem_of_getElem? (i := 39) (by decide +kernel), by decide +kernel⟩
theorem m_774 : (Cond.code yX11_takeBack cX11_takeBack 5 none) ∈ wsL := List.mem_filter.mpr ⟨List.mem_of_getElem? (i := 1351) (by decide +kernel), by decide +kernel⟩
theorem m_775 : (Cond.methodLink RX11 187 yX11_sendAll) ∈ wsL := List.mem_filter.mpr ⟨List.mem_of_getElem? (i := 1352) (by decide +kernel), by decide +kernel⟩
theorem m_776 : (Cond.instanceMethod yX11_sendAll) ∈ wsL := List.mem_filter.mpr ⟨List.mem_of_getElem? (i := 1354) (by decide +kernel), by decide +kernel⟩
theorem m_777 : (Cond.selects RX11 yX11_sendAll yX11_sendAll) ∈ wsL := List.mem_filter.mpr ⟨List.mem_of_getElem? (i := 40) (by decide +kernel), by decide +kernel⟩
theorem m_778 : (Cond.code yX11_sendAll cX11_sendAll 7 (some .int)) ∈ wsL := List.mem_filter.mpr ⟨List.mem_of_getElem? (i := 1355) (by decide +kernel), by decide +kernel⟩
theorem m_779 : (Cond.methodLink RX11 190 yX11_dun) ∈ wsL := List.mem_filter.mpr ⟨List.mem_of_getElem? (i := 1356) (by decide +kernel), by decide +kernel⟩
theorem m_780 : (Cond.instanceMethod yX11_dun) ∈ wsL := List.mem_filter.mpr ⟨List.mem_of_getElem? (i := 1358) (by decide +kernel), by decide +kernel⟩
theorem m_781 : (Cond.selects RX11 yX11_dun yX11_dun) ∈ wsL := List.mem_filter.mpr ⟨List.mem_of_getElem? (i := 41) (by decide +kernel), by decide +kernel⟩
theorem m_782 : (Cond.code yX11_dun cX11_dun 4 none) ∈ wsL := List.mem_filter.mpr ⟨List.mem_of_getElem? (i := 1359) (by decide +kernel), by decide +kernel⟩
theorem m_783 : (Cond.methodLink RL 94 yX10_clear) ∈ wsL := List.mem_filter.mpr ⟨List.mem_of_getElem? (i := 819) (by decide +kernel), by decide +kernel⟩
theorem m_784 : (Cond.instanceMethod yX10_clear) ∈ wsL := List.mem_filter.mpr ⟨List.mem_of_getElem? (i := 820) (by decide +kernel), by decide +kernel⟩
theorem m_785 : (Cond.selects RX10 yX10_clear yX10_clear) ∈ wsL := List.mem_filter.mpr ⟨List.mem_of_getElem? (i := 821) (by decide +kernel), by decide +kernel⟩
theorem m_786 : (Cond.code yX10_clear cX10_clear 5 (some .int)) ∈ wsL := List.mem_filter.mpr ⟨List.mem_of_getElem? (i := 822) (by decide +kernel), by decide +kernel⟩
theorem m_787 : (Cond.methodLink RX10 161 yX2_findChoice) ∈ wsL := List.mem_filter.mpr ⟨List.mem_of_getElem? (i := 823) (by decide +kernel), by decide +kernel⟩
theorem m_788 : (Cond.methodLink RX10 165 yX1_dispose) ∈ wsL := List.mem_filter.mpr ⟨List.mem_of_getElem? (i := 824) (by decide +kernel), by decide +kernel⟩
theorem m_789 : (Cond.instanceMethod yX1_dispose) ∈ wsL := List.mem_filter.mpr ⟨List.mem_of_getElem? (i := 825) (by decide +kernel), by decide +kernel⟩
theorem m_790 : (Cond.selects RX1 yX1_dispose yX1_dispose) ∈ wsL := List.mem_filter.mpr ⟨List.mem_of_getElem? (i := 826) (by decide +kernel), by decide +kernel⟩
theorem m_791 : (Cond.code yX1_dispose cX1_dispose 3 (some .int)) ∈ wsL := List.mem_filter.mpr ⟨List.mem_of_getElem? (i := 827) (by decide +kernel), by decide +kernel⟩
theorem m_792 : (Cond.fieldLink RX1 25 "BookClub$Choice" "soldOff" "I") ∈ wsL := List.mem_filter.mpr ⟨List.mem_of_getElem? (i := 213) (by decide +kernel), by decide +kernel⟩
theorem m_793 : (Cond.fieldLink RX1 28 "BookClub$Choice" "pulped" "I") ∈ wsL := List.mem_filter.mpr ⟨List.mem_of_getElem? (i := 215) (by decide +kernel), by decide +kernel⟩
theorem m_794 : (Cond.methodLink RL 98 yX11_clear) ∈ wsL := List.mem_filter.mpr ⟨List.mem_of_getElem? (i := 1360) (by decide +kernel), by decide +kernel⟩
theorem m_795 : (Cond.instanceMethod yX11_clear) ∈ wsL := List.mem_filter.mpr ⟨List.mem_of_getElem? (i := 1361) (by decide +kernel), by decide +kernel⟩
theorem m_796 : (Cond.selects RX11 yX11_clear yX11_clear) ∈ wsL := List.mem_filter.mpr ⟨List.mem_of_getElem? (i := 1362) (by decide +kernel), by decide +kernel⟩
theorem m_797 : (Cond.code yX11_clear cX11_clear 4 (some .int)) ∈ wsL := List.mem_filter.mpr ⟨List.mem_of_getElem? (i := 1363) (by decide +kernel), by decide +kernel⟩
theorem m_798 : (Cond.methodLink RL 99 yX10_book) ∈ wsL := List.mem_filter.mpr ⟨List.mem_of_getElem? (i := 828) (by decide +kernel), by decide +kernel⟩
theorem m_799 : (Cond.instanceMethod yX10_book) ∈ wsL := List.mem_filter.mpr ⟨List.mem_of_getElem? (i := 829) (by decide +kernel), by decide +kernel⟩
theorem m_800 : (Cond.selects RX10 yX10_book yX10_book) ∈ wsL := List.mem_filter.mpr ⟨List.mem_of_getElem? (i := 830) (by decide +kernel), by decide +kernel⟩
theorem m_801 : (Cond.code yX10_book cX10_book 4 (some .int)) ∈ wsL := List.mem_filter.mpr ⟨List.mem_of_getElem? (i := 831) (by decide +kernel), by decide +kernel⟩
theorem m_802 : (Cond.methodLink RL 102 yX11_book) ∈ wsL := List.mem_filter.mpr ⟨List.mem_of_getElem? (i := 1364) (by decide +kernel), by decide +kernel⟩
theorem m_803 : (Cond.instanceMethod yX11_book) ∈ wsL := List.mem_filter.mpr ⟨List.mem_of_getElem? (i := 1365) (by decide +kernel), by decide +kernel⟩
theorem m_804 : (Cond.selects RX11 yX11_book yX11_book) ∈ wsL := List.mem_filter.mpr ⟨List.mem_of_getElem? (i := 1366) (by decide +kernel), by decide +kernel⟩
theorem m_805 : (Cond.code yX11_book cX11_book 3 (some .int)) ∈ wsL := List.mem_filter.mpr ⟨List.mem_of_getElem? (i := 1367) (by decide +kernel), by decide +kernel⟩
theorem m_806 : (Cond.methodLink RL 103 yX10_count) ∈ wsL := List.mem_filter.mpr ⟨List.mem_of_getElem? (i := 832) (by decide +kernel), by decide +kernel⟩
theorem m_807 : (Cond.instanceMethod yX10_count) ∈ wsL := List.mem_filter.mpr ⟨List.mem_of_getElem? (i := 833) (by decide +kernel), by decide +kernel⟩
theorem m_808 : (Cond.selects RX10 yX10_count yX10_count) ∈ wsL := List.mem_filter.mpr ⟨List.mem_of_getElem? (i := 834) (by decide +kernel), by decide +kernel⟩
theorem m_809 : (Cond.code yX10_count cX10_count 2 (some .int)) ∈ wsL := List.mem_filter.mpr ⟨List.mem_of_getElem? (i := 835) (by decide +kernel), by decide +kernel⟩
theorem m_810 : (Cond.methodLink RX10 201 yJx4a65c_size_8abf5) ∈ wsL := List.mem_filter.mpr ⟨List.mem_of_getElem? (i := 836) (by decide +kernel), by decide +kernel⟩
theorem m_811 : (Cond.methodLink RX10 206 yX2_membersIn) ∈ wsL := List.mem_filter.mpr ⟨List.mem_of_getElem? (i := 837) (by decide +kernel), by decide +kernel⟩
theorem m_812 : (Cond.instanceMethod yX2_membersIn) ∈ wsL := List.mem_filter.mpr ⟨List.mem_of_getElem? (i := 838) (by decide +kernel), by decide +kernel⟩
theorem m_813 : (Cond.selects RX2 yX2_membersIn yX2_membersIn) ∈ wsL := List.mem_filter.mpr ⟨List.mem_of_getElem? (i := 839) (by decide +kernel), by decide +kernel⟩
theorem m_814 : (Cond.code yX2_membersIn cX2_membersIn 4 (some .int)) ∈ wsL := List.mem_filter.mpr ⟨List.mem_of_getElem? (i := 840) (by decide +kernel), by decide +kernel⟩
theorem m_815 : (Cond.methodLink RX10 214 yX5_size) ∈ wsL := List.mem_filter.mpr ⟨List.mem_of_getElem? (i := 841) (by decide +kernel), by decide +kernel⟩
theorem m_816 : (Cond.instanceMethod yX5_size) ∈ wsL := List.mem_filter.mpr ⟨List.mem_of_getElem? (i := 842) (by decide +kernel), by decide +kernel⟩
theorem m_817 : (Cond.selects RX5 yX5_size yX5_size) ∈ wsL := List.mem_filter.mpr ⟨List.mem_of_getElem? (i := 843) (by decide +kernel), by decide +kernel⟩
theorem m_818 : (Cond.code yX5_size cX5_size 1 (some .int)) ∈ wsL := List.mem_filter.mpr ⟨List.mem_of_getElem? (i := 844) (by decide +kernel), by decide +kernel⟩
theorem m_819 : (Cond.methodLink RL 106 yX11_count) ∈ wsL := List.mem_filter.mpr ⟨List.mem_of_getElem? (i := 1368) (by decide +kernel), by decide +kernel⟩
theorem m_820 : (Cond.instanceMethod yX11_count) ∈ wsL := List.mem_filter.mpr ⟨List.mem_of_getElem? (i := 1369) (by decide +kernel), by decide +kernel⟩
theorem m_821 : (Cond.selects RX11 yX11_count yX11_count) ∈ wsL := List.mem_filter.mpr ⟨List.mem_of_getElem? (i := 1370) (by decide +kernel), by decide +kernel⟩
theorem m_822 : (Cond.code yX11_count cX11_count 4 (some .int)) ∈ wsL := List.mem_filter.mpr ⟨List.mem_of_getElem? (i := 1371) (by decide +kernel), by decide +kernel⟩
theorem m_823 : (Cond.methodLink RL 107 yL_entry) ∈ wsL := List.mem_filter.mpr ⟨List.mem_of_getElem? (i := 1031) (by decide +kernel), by decide +kernel⟩
theorem m_824 : (Cond.static yL_entry) ∈ wsL := List.mem_filter.mpr ⟨List.mem_of_getElem? (i := 1032) (by decide +kernel), by decide +kernel⟩
theorem m_825 : (Cond.codeWith yL_entry cL_entry 5 (some .int) [(0, 9, 12, 13)]) ∈ wsL := List.mem_filter.mpr ⟨List.mem_of_getElem? (i := 1033) (by decide +kernel), by decide +kernel⟩
theorem m_826 : (Cond.methodLink RL 15 yX10_entry) ∈ wsL := List.mem_filter.mpr ⟨List.mem_of_getElem? (i := 1034) (by decide +kernel), by decide +kernel⟩
theorem m_827 : (Cond.instanceMethod yX10_entry) ∈ wsL := List.mem_filter.mpr ⟨List.mem_of_getElem? (i := 1035) (by decide +kernel), by decide +kernel⟩
theorem m_828 : (Cond.selects RX10 yX10_entry yX10_entry) ∈ wsL := List.mem_filter.mpr ⟨List.mem_of_getElem? (i := 1036) (by decide +kernel), by decide +kernel⟩
theorem m_829 : (Cond.code yX10_entry cX10_entry 4 (some .long)) ∈ wsL := List.mem_filter.mpr ⟨List.mem_of_getElem? (i := 1037) (by decide +kernel), by decide +kernel⟩
theorem m_830 : (Cond.methodLink RX10 220 yX5_find) ∈ wsL := List.mem_filter.mpr ⟨List.mem_of_getElem? (i := 849) (by decide +kernel), by decide +kernel⟩
theorem m_831 : (Cond.instanceMethod yX5_find) ∈ wsL := List.mem_filter.mpr ⟨List.mem_of_getElem? (i := 850) (by decide +kernel), by decide +kernel⟩
theorem m_832 : (Cond.selects RX5 yX5_find yX5_find) ∈ wsL := List.mem_filter.mpr ⟨List.mem_of_getElem? (i := 851) (by decide +kernel), by decide +kernel⟩
theorem m_833 : (Cond.code yX5_find cX5_find 2 (some (.object "BookClub$Entry"))) ∈ wsL := List.mem_filter.mpr ⟨List.mem_of_getElem? (i := 852) (by decide +kernel), by decide +kernel⟩
theorem m_834 : (Cond.classLink RX5 30 "BookClub$Entry") ∈ wsL := List.mem_filter.mpr ⟨List.mem_of_getElem? (i := 657) (by decide +kernel), by decide +kernel⟩
theorem m_835 : (Cond.methodLink RX5 26 yJx4a65c_get_915e3) ∈ wsL := List.mem_filter.mpr ⟨List.mem_of_getElem? (i := 854) (by decide +kernel), by decide +kernel⟩
theorem m_836 : (Cond.methodLink RL 109 yX11_entry) ∈ wsL := List.mem_filter.mpr ⟨List.mem_of_getElem? (i := 1282) (by decide +kernel), by decide +kernel⟩
theorem m_837 : (Cond.instanceMethod yX11_entry) ∈ wsL := List.mem_filter.mpr ⟨List.mem_of_getElem? (i := 1283) (by decide +kernel), by decide +kernel⟩
theorem m_838 : (Cond.selects RX11 yX11_entry yX11_entry) ∈ wsL := List.mem_filter.mpr ⟨List.mem_of_getElem? (i := 1284) (by decide +kernel), by decide +kernel⟩
theorem m_839 : (Cond.code yX11_entry cX11_entry 3 (some .long)) ∈ wsL := List.mem_filter.mpr ⟨List.mem_of_getElem? (i := 1285) (by decide +kernel), by decide +kernel⟩
theorem m_840 : (Cond.methodLink RL 110 yX10_strike) ∈ wsL := List.mem_filter.mpr ⟨List.mem_of_getElem? (i := 845) (by decide +kernel), by decide +kernel⟩
theorem m_841 : (Cond.instanceMethod yX10_strike) ∈ wsL := List.mem_filter.mpr ⟨List.mem_of_getElem? (i := 846) (by decide +kernel), by decide +kernel⟩
theorem m_842 : (Cond.selects RX10 yX10_strike yX10_strike) ∈ wsL := List.mem_filter.mpr ⟨List.mem_of_getElem? (i := 847) (by decide +kernel), by decide +kernel⟩
theorem m_843 : (Cond.code yX10_strike cX10_strike 3 (some .boolean)) ∈ wsL := List.mem_filter.mpr ⟨List.mem_of_getElem? (i := 848) (by decide +kernel), by decide +kernel⟩
theorem m_844 : (Cond.methodLink RX10 247 yX3_strikeOut) ∈ wsL := List.mem_filter.mpr ⟨List.mem_of_getElem? (i := 855) (by decide +kernel), by decide +kernel⟩
theorem m_845 : (Cond.instanceMethod yX3_strikeOut) ∈ wsL := List.mem_filter.mpr ⟨List.mem_of_getElem? (i := 856) (by decide +kernel), by decide +kernel⟩
theorem m_846 : (Cond.selects RX3 yX3_strikeOut yX3_strikeOut) ∈ wsL := List.mem_filter.mpr ⟨List.mem_of_getElem? (i := 857) (by decide +kernel), by decide +kernel⟩
theorem m_847 : (Cond.code yX3_strikeOut cX3_strikeOut 2 (some .boolean)) ∈ wsL := List.mem_filter.mpr ⟨List.mem_of_getElem? (i := 858) (by decide +kernel), by decide +kernel⟩
theorem m_848 : (Cond.methodLink RL 113 yX11_strike) ∈ wsL := List.mem_filter.mpr ⟨List.mem_of_getElem? (i := 1286) (by decide +kernel), by decide +kernel⟩
theorem m_849 : (Cond.instanceMethod yX11_strike) ∈ wsL := List.mem_filter.mpr ⟨List.mem_of_getElem? (i := 1287) (by decide +kernel), by decide +kernel⟩
theorem m_850 : (Cond.selects RX11 yX11_strike yX11_strike) ∈ wsL := List.mem_filter.mpr ⟨List.mem_of_getElem? (i := 1288) (by decide +kernel), by decide +kernel⟩
theorem m_851 : (Cond.code yX11_strike cX11_strike 2 (some .boolean)) ∈ wsL := List.mem_filter.mpr ⟨List.mem_of_getElem? (i := 1289) (by decide +kernel), by decide +kernel⟩
theorem m_852 : (Cond.methodLink RL 114 yL_balance) ∈ wsL := List.mem_filter.mpr ⟨List.mem_of_getElem? (i := 1040) (by decide +kernel), by decide +kernel⟩
theorem m_853 : (Cond.static yL_balance) ∈ wsL := List.mem_filter.mpr ⟨List.mem_of_getElem? (i := 1041) (by decide +kernel), by decide +kernel⟩
theorem m_854 : (Cond.codeWith yL_balance cL_balance 6 (some .int) [(0, 11, 14, 13)]) ∈ wsL := List.mem_filter.mpr ⟨List.mem_of_getElem? (i := 1042) (by decide +kernel), by decide +kernel⟩
theorem m_855 : (Cond.methodLink RL 18 yX10_balance) ∈ wsL := List.mem_filter.mpr ⟨List.mem_of_getElem? (i := 1043) (by decide +kernel), by decide +kernel⟩
theorem m_856 : (Cond.instanceMethod yX10_balance) ∈ wsL := List.mem_filter.mpr ⟨List.mem_of_getElem? (i := 1044) (by decide +kernel), by decide +kernel⟩
theorem m_857 : (Cond.selects RX10 yX10_balance yX10_balance) ∈ wsL := List.mem_filter.mpr ⟨List.mem_of_getElem? (i := 1045) (by decide +kernel), by decide +kernel⟩
theorem m_858 : (Cond.code yX10_balance cX10_balance 5 (some .long)) ∈ wsL := List.mem_filter.mpr ⟨List.mem_of_getElem? (i := 1046) (by decide +kernel), by decide +kernel⟩
theorem m_859 : (Cond.methodLink RX10 252 yX5_sumKnown) ∈ wsL := List.mem_filter.mpr ⟨List.mem_of_getElem? (i := 1048) (by decide +kernel), by decide +kernel⟩
theorem m_860 : (Cond.instanceMethod yX5_sumKnown) ∈ wsL := List.mem_filter.mpr ⟨List.mem_of_getElem? (i := 1049) (by decide +kernel), by decide +kernel⟩
theorem m_861 : (Cond.selects RX5 yX5_sumKnown yX5_sumKnown) ∈ wsL := List.mem_filter.mpr ⟨List.mem_of_getElem? (i := 1050) (by decide +kernel), by decide +kernel⟩
theorem m_862 : (Cond.code yX5_sumKnown cX5_sumKnown 8 (some .long)) ∈ wsL := List.mem_filter.mpr ⟨List.mem_of_getElem? (i := 1051) (by decide +kernel), by decide +kernel⟩
theorem m_863 : (Cond.methodLink RX5 56 yX3_isStruckBy) ∈ wsL := List.mem_filter.mpr ⟨List.mem_of_getElem? (i := 1052) (by decide +kernel), by decide +kernel⟩
theorem m_864 : (Cond.instanceMethod yX3_isStruckBy) ∈ wsL := List.mem_filter.mpr ⟨List.mem_of_getElem? (i := 1053) (by decide +kernel), by decide +kernel⟩
theorem m_865 : (Cond.selects RX3 yX3_isStruckBy yX3_isStruckBy) ∈ wsL := List.mem_filter.mpr ⟨List.mem_of_getElem? (i := 1054) (by decide +kernel), by decide +kernel⟩
theorem m_866 : (Cond.code yX3_isStruckBy cX3_isStruckBy 2 (some .boolean)) ∈ wsL := List.mem_filter.mpr ⟨List.mem_of_getElem? (i := 1055) (by decide +kernel), by decide +kernel⟩
theorem m_867 : (Cond.methodLink RL 117 yX11_balance) ∈ wsL := List.mem_filter.mpr ⟨List.mem_of_getElem? (i := 1290) (by decide +kernel), by decide +kernel⟩
theorem m_868 : (Cond.instanceMethod yX11_balance) ∈ wsL := List.mem_filter.mpr ⟨List.mem_of_getElem? (i := 1291) (by decide +kernel), by decide +kernel⟩
theorem m_869 : (Cond.selects RX11 yX11_balance yX11_balance) ∈ wsL := List.mem_filter.mpr ⟨List.mem_of_getElem? (i := 1292) (by decide +kernel), by decide +kernel⟩
theorem m_870 : (Cond.code yX11_balance cX11_balance 7 (some .long)) ∈ wsL := List.mem_filter.mpr ⟨List.mem_of_getElem? (i := 1293) (by decide +kernel), by decide +kernel⟩
theorem m_871 : (Cond.methodLink RL 118 yX10_chance) ∈ wsL := List.mem_filter.mpr ⟨List.mem_of_getElem? (i := 859) (by decide +kernel), by decide +kernel⟩
theorem m_872 : (Cond.instanceMethod yX10_chance) ∈ wsL := List.mem_filter.mpr ⟨List.mem_of_getElem? (i := 860) (by decide +kernel), by decide +kernel⟩
theorem m_873 : (Cond.selects RX10 yX10_chance yX10_chance) ∈ wsL := List.mem_filter.mpr ⟨List.mem_of_getElem? (i := 861) (by decide +kernel), by decide +kernel⟩
theorem m_874 : (Cond.code yX10_chance cX10_chance 3 (some .boolean)) ∈ wsL := List.mem_filter.mpr ⟨List.mem_of_getElem? (i := 862) (by decide +kernel), by decide +kernel⟩
theorem m_875 : (Cond.methodLink RX10 256 yX0_setPercent) ∈ wsL := List.mem_filter.mpr ⟨List.mem_of_getElem? (i := 863) (by decide +kernel), by decide +kernel⟩
theorem m_876 : (Cond.instanceMethod yX0_setPercent) ∈ wsL := List.mem_filter.mpr ⟨List.mem_of_getElem? (i := 864) (by decide +kernel), by decide +kernel⟩
theorem m_877 : (Cond.selects RX0 yX0_setPercent yX0_setPercent) ∈ wsL := List.mem_filter.mpr ⟨List.mem_of_getElem? (i := 865) (by decide +kernel), by decide +kernel⟩
theorem m_878 : (Cond.code yX0_setPercent cX0_setPercent 3 (some .boolean)) ∈ wsL := List.mem_filter.mpr ⟨List.mem_of_getElem? (i := 866) (by decide +kernel), by decide +kernel⟩
theorem m_879 : (Cond.methodLink RX0 29 yX0_isKind) ∈ wsL := List.mem_filter.mpr ⟨List.mem_of_getElem? (i := 867) (by decide +kernel), by decide +kernel⟩
theorem m_880 : (Cond.methodLink RL 121 yX11_chance) ∈ wsL := List.mem_filter.mpr ⟨List.mem_of_getElem? (i := 1372) (by decide +kernel), by decide +kernel⟩
theorem m_881 : (Cond.instanceMethod yX11_chance) ∈ wsL := List.mem_filter.mpr ⟨List.mem_of_getElem? (i := 1373) (by decide +kernel), by decide +kernel⟩
theorem m_882 : (Cond.selects RX11 yX11_chance yX11_chance) ∈ wsL := List.mem_filter.mpr ⟨List.mem_of_getElem? (i := 1374) (by decide +kernel), by decide +kernel⟩
theorem m_883 : (Cond.code yX11_chance cX11_chance 3 (some .boolean)) ∈ wsL := List.mem_filter.mpr ⟨List.mem_of_getElem? (i := 1375) (by decide +kernel), by decide +kernel⟩
theorem m_884 : (Cond.methodLink RL 122 yX10_ways) ∈ wsL := List.mem_filter.mpr ⟨List.mem_of_getElem? (i := 868) (by decide +kernel), by decide +kernel⟩
theorem m_885 : (Cond.instanceMethod yX10_ways) ∈ wsL := List.mem_filter.mpr ⟨List.mem_of_getElem? (i := 869) (by decide +kernel), by decide +kernel⟩
theorem m_886 : (Cond.selects RX10 yX10_ways yX10_ways) ∈ wsL := List.mem_filter.mpr ⟨List.mem_of_getElem? (i := 870) (by decide +kernel), by decide +kernel⟩
theorem m_887 : (Cond.code yX10_ways cX10_ways 4 (some .long)) ∈ wsL := List.mem_filter.mpr ⟨List.mem_of_getElem? (i := 871) (by decide +kernel), by decide +kernel⟩
theorem m_888 : (Cond.constantLong RX10 262 (-1)) ∈ wsL := List.mem_filter.mpr ⟨List.mem_of_getElem? (i := 875) (by decide +kernel), by decide +kernel⟩
theorem m_889 : (Cond.methodLink RX10 259 yX0_isGroup) ∈ wsL := List.mem_filter.mpr ⟨List.mem_of_getElem? (i := 872) (by decide +kernel), by decide +kernel⟩
theorem m_890 : (Cond.static yX0_isGroup) ∈ wsL := List.mem_filter.mpr ⟨List.mem_of_getElem? (i := 873) (by decide +kernel), by decide +kernel⟩
theorem m_891 : (Cond.code yX0_isGroup cX0_isGroup 2 (some .boolean)) ∈ wsL := List.mem_filter.mpr ⟨List.mem_of_getElem? (i := 874) (by decide +kernel), by decide +kernel⟩
theorem m_892 : (Cond.methodLink RX10 264 yX0_countWays) ∈ wsL := List.mem_filter.mpr ⟨List.mem_of_getElem? (i := 876) (by decide +kernel), by decide +kernel⟩
theorem m_893 : (Cond.instanceMethod yX0_countWays) ∈ wsL := List.mem_filter.mpr ⟨List.mem_of_getElem? (i := 877) (by decide +kernel), by decide +kernel⟩
theorem m_894 : (Cond.selects RX0 yX0_countWays yX0_countWays) ∈ wsL := List.mem_filter.mpr ⟨List.mem_of_getElem? (i := 878) (by decide +kernel), by decide +kernel⟩
theorem m_895 : (Cond.code yX0_countWays cX0_countWays 4 none) ∈ wsL := List.mem_filter.mpr ⟨List.mem_of_getElem? (i := 879) (by decide +kernel), by decide +kernel⟩
theorem m_896 : (Cond.methodLink RX0 33 yJ7_fill_d0a16) ∈ wsL := List.mem_filter.mpr ⟨List.mem_of_getElem? (i := 880) (by decide +kernel), by decide +kernel⟩
theorem m_897 : (Cond.static yJ7_fill_d0a16) ∈ wsL := List.mem_filter.mpr ⟨List.mem_of_getElem? (i := 881) (by decide +kernel), by decide +kernel⟩
theorem m_898 : (Cond.code yJ7_fill_d0a16 cJ7_fill_d0a16 5 none) ∈ wsL := List.mem_filter.mpr ⟨List.mem_of_getElem? (i := 882) (by decide +kernel), by decide +kernel⟩
theorem m_899 : (Cond.methodLink RX0 36 yX0_addOne) ∈ wsL := List.mem_filter.mpr ⟨List.mem_of_getElem? (i := 883) (by decide +kernel), by decide +kernel⟩
theorem m_900 : (Cond.instanceMethod yX0_addOne) ∈ wsL := List.mem_filter.mpr ⟨List.mem_of_getElem? (i := 885) (by decide +kernel), by decide +kernel⟩
theorem m_901 : (Cond.selects RX0 yX0_addOne yX0_addOne) ∈ wsL := List.mem_filter.mpr ⟨List.mem_of_getElem? (i := 22) (by decide +kernel), by decide +kernel⟩
theorem m_902 : (Cond.code yX0_addOne cX0_addOne 4 none) ∈ wsL := List.mem_filter.mpr ⟨List.mem_of_getElem? (i := 886) (by decide +kernel), by decide +kernel⟩
theorem m_903 : (Cond.methodLink RX10 268 yX0_waysOf) ∈ wsL := List.mem_filter.mpr ⟨List.mem_of_getElem? (i := 887) (by decide +kernel), by decide +kernel⟩
theorem m_904 : (Cond.instanceMethod yX0_waysOf) ∈ wsL := List.mem_filter.mpr ⟨List.mem_of_getElem? (i := 888) (by decide +kernel), by decide +kernel⟩
theorem m_905 : (Cond.selects RX0 yX0_waysOf yX0_waysOf) ∈ wsL := List.mem_filter.mpr ⟨List.mem_of_getElem? (i := 889) (by decide +kernel), by decide +kernel⟩
theorem m_906 : (Cond.code yX0_waysOf cX0_waysOf 2 (some .long)) ∈ wsL := List.mem_filter.mpr ⟨List.mem_of_getElem? (i := 890) (by decide +kernel), by decide +kernel⟩
theorem m_907 : (Cond.methodLink RL 125 yX11_ways) ∈ wsL := List.mem_filter.mpr ⟨List.mem_of_getElem? (i := 1376) (by decide +kernel), by decide +kernel⟩
theorem m_908 : (Cond.instanceMethod yX11_ways) ∈ wsL := List.mem_filter.mpr ⟨List.mem_of_getElem? (i := 1377) (by decide +kernel), by decide +kernel⟩
theorem m_909 : (Cond.selects RX11 yX11_ways yX11_ways) ∈ wsL := List.mem_filter.mpr ⟨List.mem_of_getElem? (i := 1378) (by decide +kernel), by decide +kernel⟩
theorem m_910 : (Cond.code yX11_ways cX11_ways 4 (some .long)) ∈ wsL := List.mem_filter.mpr ⟨List.mem_of_getElem? (i := 1379) (by decide +kernel), by decide +kernel⟩
theorem m_911 : (Cond.methodLink RX11 199 yX11_areKinds) ∈ wsL := List.mem_filter.mpr ⟨List.mem_of_getElem? (i := 1380) (by decide +kernel), by decide +kernel⟩
theorem m_912 : (Cond.static yX11_areKinds) ∈ wsL := List.mem_filter.mpr ⟨List.mem_of_getElem? (i := 1381) (by decide +kernel), by decide +kernel⟩
theorem m_913 : (Cond.code yX11_areKinds cX11_areKinds 2 (some .boolean)) ∈ wsL := List.mem_filter.mpr ⟨List.mem_of_getElem? (i := 1382) (by decide +kernel), by decide +kernel⟩
theorem m_914 : (Cond.methodLink RX11 202 yX11_waysOf) ∈ wsL := List.mem_filter.mpr ⟨List.mem_of_getElem? (i := 1383) (by decide +kernel), by decide +kernel⟩
theorem m_915 : (Cond.instanceMethod yX11_waysOf) ∈ wsL := List.mem_filter.mpr ⟨List.mem_of_getElem? (i := 1385) (by decide +kernel), by decide +kernel⟩
theorem m_916 : (Cond.selects RX11 yX11_waysOf yX11_waysOf) ∈ wsL := List.mem_filter.mpr ⟨List.mem_of_getElem? (i := 42) (by decide +kernel), by decide +kernel⟩
theorem m_917 : (Cond.code yX11_waysOf cX11_waysOf 11 (some .long)) ∈ wsL := List.mem_filter.mpr ⟨List.mem_of_getElem? (i := 1386) (by decide +kernel), by decide +kernel⟩
theorem m_918 : (Cond.methodLink RX11 193 yJ6_bitCount_0f7a4) ∈ wsL := List.mem_filter.mpr ⟨List.mem_of_getElem? (i := 1387) (by decide +kernel), by decide +kernel⟩
theorem m_919 : (Cond.static yJ6_bitCount_0f7a4) ∈ wsL := List.mem_filter.mpr ⟨List.mem_of_getElem? (i := 1388) (by decide +kernel), by decide +kernel⟩
theorem m_920 : (Cond.initialized RJ6) ∈ wsL := List.mem_filter.mpr ⟨List.mem_of_getElem? (i := 75) (by decide +kernel), by decide +kernel⟩
theorem m_921 : (Cond.code yJ6_bitCount_0f7a4 cJ6_bitCount_0f7a4 1 (some .int)) ∈ wsL := List.mem_filter.mpr ⟨List.mem_of_getElem? (i := 1389) (by decide +kernel), by decide +kernel⟩
theorem m_922 : (Cond.constant RJ6 265 (1431655765)) ∈ wsL := List.mem_filter.mpr ⟨List.mem_of_getElem? (i := 1390) (by decide +kernel), by decide +kernel⟩
theorem m_923 : (Cond.constant RJ6 266 (858993459)) ∈ wsL := List.mem_filter.mpr ⟨List.mem_of_getElem? (i := 1391) (by decide +kernel), by decide +kernel⟩
theorem m_924 : (Cond.constant RJ6 267 (252645135)) ∈ wsL := List.mem_filter.mpr ⟨List.mem_of_getElem? (i := 1392) (by decide +kernel), by decide +kernel⟩
theorem m_925 : (Cond.methodLink RL 126 yX10_print) ∈ wsL := List.mem_filter.mpr ⟨List.mem_of_getElem? (i := 891) (by decide +kernel), by decide +kernel⟩
theorem m_926 : (Cond.instanceMethod yX10_print) ∈ wsL := List.mem_filter.mpr ⟨List.mem_of_getElem? (i := 892) (by decide +kernel), by decide +kernel⟩
theorem m_927 : (Cond.selects RX10 yX10_print yX10_print) ∈ wsL := List.mem_filter.mpr ⟨List.mem_of_getElem? (i := 893) (by decide +kernel), by decide +kernel⟩
theorem m_928 : (Cond.code yX10_print cX10_print 5 (some .int)) ∈ wsL := List.mem_filter.mpr ⟨List.mem_of_getElem? (i := 894) (by decide +kernel), by decide +kernel⟩
theorem m_929 : (Cond.methodLink RX10 272 yX0_isRate) ∈ wsL := List.mem_filter.mpr ⟨List.mem_of_getElem? (i := 895) (by decide +kernel), by decide +kernel⟩
theorem m_930 : (Cond.static yX0_isRate) ∈ wsL := List.mem_filter.mpr ⟨List.mem_of_getElem? (i := 896) (by decide +kernel), by decide +kernel⟩
theorem m_931 : (Cond.code yX0_isRate cX0_isRate 1 (some .boolean)) ∈ wsL := List.mem_filter.mpr ⟨List.mem_of_getElem? (i := 897) (by decide +kernel), by decide +kernel⟩
theorem m_932 : (Cond.methodLink RX10 275 yX0_cheapestPrint) ∈ wsL := List.mem_filter.mpr ⟨List.mem_of_getElem? (i := 898) (by decide +kernel), by decide +kernel⟩
theorem m_933 : (Cond.instanceMethod yX0_cheapestPrint) ∈ wsL := List.mem_filter.mpr ⟨List.mem_of_getElem? (i := 899) (by decide +kernel), by decide +kernel⟩
theorem m_934 : (Cond.selects RX0 yX0_cheapestPrint yX0_cheapestPrint) ∈ wsL := List.mem_filter.mpr ⟨List.mem_of_getElem? (i := 900) (by decide +kernel), by decide +kernel⟩
theorem m_935 : (Cond.code yX0_cheapestPrint cX0_cheapestPrint 10 (some .int)) ∈ wsL := List.mem_filter.mpr ⟨List.mem_of_getElem? (i := 901) (by decide +kernel), by decide +kernel⟩
theorem m_936 : (Cond.methodLink RX0 40 yX0_costOf) ∈ wsL := List.mem_filter.mpr ⟨List.mem_of_getElem? (i := 902) (by decide +kernel), by decide +kernel⟩
theorem m_937 : (Cond.instanceMethod yX0_costOf) ∈ wsL := List.mem_filter.mpr ⟨List.mem_of_getElem? (i := 904) (by decide +kernel), by decide +kernel⟩
theorem m_938 : (Cond.selects RX0 yX0_costOf yX0_costOf) ∈ wsL := List.mem_filter.mpr ⟨List.mem_of_getElem? (i := 23) (by decide +kernel), by decide +kernel⟩
theorem m_939 : (Cond.code yX0_costOf cX0_costOf 9 (some .long)) ∈ wsL := List.mem_filter.mpr ⟨List.mem_of_getElem? (i := 905) (by decide +kernel), by decide +kernel⟩
theorem m_940 : (Cond.methodLink RL 130 yX11_print) ∈ wsL := List.mem_filter.mpr ⟨List.mem_of_getElem? (i := 1393) (by decide +kernel), by decide +kernel⟩
theorem m_941 : (Cond.instanceMethod yX11_print) ∈ wsL := List.mem_filter.mpr ⟨List.mem_of_getElem? (i := 1394) (by decide +kernel), by decide +kernel⟩
theorem m_942 : (Cond.selects RX11 yX11_print yX11_print) ∈ wsL := List.mem_filter.mpr ⟨List.mem_of_getElem? (i := 1395) (by decide +kernel), by decide +kernel⟩
theorem m_943 : (Cond.code yX11_print cX11_print 12 (some .int)) ∈ wsL := List.mem_filter.mpr ⟨List.mem_of_getElem? (i := 1396) (by decide +kernel), by decide +kernel⟩
theorem m_944 : (Cond.methodLink RL 131 yX10_mark) ∈ wsL := List.mem_filter.mpr ⟨List.mem_of_getElem? (i := 906) (by decide +kernel), by decide +kernel⟩
theorem m_945 : (Cond.instanceMethod yX10_mark) ∈ wsL := List.mem_filter.mpr ⟨List.mem_of_getElem? (i := 907) (by decide +kernel), by decide +kernel⟩
theorem m_946 : (Cond.selects RX10 yX10_mark yX10_mark) ∈ wsL := List.mem_filter.mpr ⟨List.mem_of_getElem? (i := 908) (by decide +kernel), by decide +kernel⟩
theorem m_947 : (Cond.code yX10_mark cX10_mark 4 (some .boolean)) ∈ wsL := List.mem_filter.mpr ⟨List.mem_of_getElem? (i := 909) (by decide +kernel), by decide +kernel⟩
theorem m_948 : (Cond.methodLink RX10 279 yX4_setMark) ∈ wsL := List.mem_filter.mpr ⟨List.mem_of_getElem? (i := 910) (by decide +kernel), by decide +kernel⟩
theorem m_949 : (Cond.instanceMethod yX4_setMark) ∈ wsL := List.mem_filter.mpr ⟨List.mem_of_getElem? (i := 911) (by decide +kernel), by decide +kernel⟩
theorem m_950 : (Cond.selects RX4 yX4_setMark yX4_setMark) ∈ wsL := List.mem_filter.mpr ⟨List.mem_of_getElem? (i := 912) (by decide +kernel), by decide +kernel⟩
theorem m_951 : (Cond.code yX4_setMark cX4_setMark 4 (some .boolean)) ∈ wsL := List.mem_filter.mpr ⟨List.mem_of_getElem? (i := 913) (by decide +kernel), by decide +kernel⟩
theorem m_952 : (Cond.methodLink RX4 28 yX4_isPair) ∈ wsL := List.mem_filter.mpr ⟨List.mem_of_getElem? (i := 914) (by decide +kernel), by decide +kernel⟩
theorem m_953 : (Cond.static yX4_isPair) ∈ wsL := List.mem_filter.mpr ⟨List.mem_of_getElem? (i := 915) (by decide +kernel), by decide +kernel⟩
theorem m_954 : (Cond.code yX4_isPair cX4_isPair 2 (some .boolean)) ∈ wsL := List.mem_filter.mpr ⟨List.mem_of_getElem? (i := 916) (by decide +kernel), by decide +kernel⟩
theorem m_955 : (Cond.methodLink RX4 40 yX4_isBook) ∈ wsL := List.mem_filter.mpr ⟨List.mem_of_getElem? (i := 918) (by decide +kernel), by decide +kernel⟩
theorem m_956 : (Cond.static yX4_isBook) ∈ wsL := List.mem_filter.mpr ⟨List.mem_of_getElem? (i := 919) (by decide +kernel), by decide +kernel⟩
theorem m_957 : (Cond.code yX4_isBook cX4_isBook 1 (some .boolean)) ∈ wsL := List.mem_filter.mpr ⟨List.mem_of_getElem? (i := 920) (by decide +kernel), by decide +kernel⟩
theorem m_958 : (Cond.methodLink RX4 36 yX4_placeOf) ∈ wsL := List.mem_filter.mpr ⟨List.mem_of_getElem? (i := 921) (by decide +kernel), by decide +kernel⟩
theorem m_959 : (Cond.static yX4_placeOf) ∈ wsL := List.mem_filter.mpr ⟨List.mem_of_getElem? (i := 922) (by decide +kernel), by decide +kernel⟩
theorem m_960 : (Cond.code yX4_placeOf cX4_placeOf 2 (some .int)) ∈ wsL := List.mem_filter.mpr ⟨List.mem_of_getElem? (i := 923) (by decide +kernel), by decide +kernel⟩
theorem m_961 : (Cond.methodLink RL 135 yX11_mark) ∈ wsL := List.mem_filter.mpr ⟨List.mem_of_getElem? (i := 1397) (by decide +kernel), by decide +kernel⟩
theorem m_962 : (Cond.instanceMethod yX11_mark) ∈ wsL := List.mem_filter.mpr ⟨List.mem_of_getElem? (i := 1398) (by decide +kernel), by decide +kernel⟩
theorem m_963 : (Cond.selects RX11 yX11_mark yX11_mark) ∈ wsL := List.mem_filter.mpr ⟨List.mem_of_getElem? (i := 1399) (by decide +kernel), by decide +kernel⟩
theorem m_964 : (Cond.code yX11_mark cX11_mark 4 (some .boolean)) ∈ wsL := List.mem_filter.mpr ⟨List.mem_of_getElem? (i := 1400) (by decide +kernel), by decide +kernel⟩
theorem m_965 : (Cond.methodLink RX11 206 yX11_isPair) ∈ wsL := List.mem_filter.mpr ⟨List.mem_of_getElem? (i := 1401) (by decide +kernel), by decide +kernel⟩
theorem m_966 : (Cond.static yX11_isPair) ∈ wsL := List.mem_filter.mpr ⟨List.mem_of_getElem? (i := 1402) (by decide +kernel), by decide +kernel⟩
theorem m_967 : (Cond.code yX11_isPair cX11_isPair 2 (some .boolean)) ∈ wsL := List.mem_filter.mpr ⟨List.mem_of_getElem? (i := 1403) (by decide +kernel), by decide +kernel⟩
theorem m_968 : (Cond.methodLink RL 136 yX10_kin) ∈ wsL := List.mem_filter.mpr ⟨List.mem_of_getElem? (i := 924) (by decide +kernel), by decide +kernel⟩
theorem m_969 : (Cond.instanceMethod yX10_kin) ∈ wsL := List.mem_filter.mpr ⟨List.mem_of_getElem? (i := 925) (by decide +kernel), by decide +kernel⟩
theorem m_970 : (Cond.selects RX10 yX10_kin yX10_kin) ∈ wsL := List.mem_filter.mpr ⟨List.mem_of_getElem? (i := 926) (by decide +kernel), by decide +kernel⟩
theorem m_971 : (Cond.code yX10_kin cX10_kin 4 (some .boolean)) ∈ wsL := List.mem_filter.mpr ⟨List.mem_of_getElem? (i := 927) (by decide +kernel), by decide +kernel⟩
theorem m_972 : (Cond.methodLink RX10 282 yX4_setKin) ∈ wsL := List.mem_filter.mpr ⟨List.mem_of_getElem? (i := 928) (by decide +kernel), by decide +kernel⟩
theorem m_973 : (Cond.instanceMethod yX4_setKin) ∈ wsL := List.mem_filter.mpr ⟨List.mem_of_getElem? (i := 929) (by decide +kernel), by decide +kernel⟩
theorem m_974 : (Cond.selects RX4 yX4_setKin yX4_setKin) ∈ wsL := List.mem_filter.mpr ⟨List.mem_of_getElem? (i := 930) (by decide +kernel), by decide +kernel⟩
theorem m_975 : (Cond.code yX4_setKin cX4_setKin 4 (some .boolean)) ∈ wsL := List.mem_filter.mpr ⟨List.mem_of_getElem? (i := 931) (by decide +kernel), by decide +kernel⟩
theorem m_976 : (Cond.methodLink RL 140 yX11_kin) ∈ wsL := List.mem_filter.mpr ⟨List.mem_of_getElem? (i := 1404) (by decide +kernel), by decide +kernel⟩
theorem m_977 : (Cond.instanceMethod yX11_kin) ∈ wsL := List.mem_filter.mpr ⟨List.mem_of_getElem? (i := 1405) (by decide +kernel), by decide +kernel⟩
theorem m_978 : (Cond.selects RX11 yX11_kin yX11_kin) ∈ wsL := List.mem_filter.mpr ⟨List.mem_of_getElem? (i := 1406) (by decide +kernel), by decide +kernel⟩
theorem m_979 : (Cond.code yX11_kin cX11_kin 4 (some .boolean)) ∈ wsL := List.mem_filter.mpr ⟨List.mem_of_getElem? (i := 1407) (by decide +kernel), by decide +kernel⟩
theorem m_980 : (Cond.methodLink RL 141 yX10_middle) ∈ wsL := List.mem_filter.mpr ⟨List.mem_of_getElem? (i := 932) (by decide +kernel), by decide +kernel⟩
theorem m_981 : (Cond.instanceMethod yX10_middle) ∈ wsL := List.mem_filter.mpr ⟨List.mem_of_getElem? (i := 933) (by decide +kernel), by decide +kernel⟩
theorem m_982 : (Cond.selects RX10 yX10_middle yX10_middle) ∈ wsL := List.mem_filter.mpr ⟨List.mem_of_getElem? (i := 934) (by decide +kernel), by decide +kernel⟩
theorem m_983 : (Cond.code yX10_middle cX10_middle 2 (some .int)) ∈ wsL := List.mem_filter.mpr ⟨List.mem_of_getElem? (i := 935) (by decide +kernel), by decide +kernel⟩
theorem m_984 : (Cond.methodLink RX10 286 yX4_middleOf) ∈ wsL := List.mem_filter.mpr ⟨List.mem_of_getElem? (i := 936) (by decide +kernel), by decide +kernel⟩
theorem m_985 : (Cond.instanceMethod yX4_middleOf) ∈ wsL := List.mem_filter.mpr ⟨List.mem_of_getElem? (i := 937) (by decide +kernel), by decide +kernel⟩
theorem m_986 : (Cond.selects RX4 yX4_middleOf yX4_middleOf) ∈ wsL := List.mem_filter.mpr ⟨List.mem_of_getElem? (i := 938) (by decide +kernel), by decide +kernel⟩
theorem m_987 : (Cond.code yX4_middleOf cX4_middleOf 5 (some .int)) ∈ wsL := List.mem_filter.mpr ⟨List.mem_of_getElem? (i := 939) (by decide +kernel), by decide +kernel⟩
theorem m_988 : (Cond.methodLink RX4 44 yX4_tallyMarks) ∈ wsL := List.mem_filter.mpr ⟨List.mem_of_getElem? (i := 940) (by decide +kernel), by decide +kernel⟩
theorem m_989 : (Cond.instanceMethod yX4_tallyMarks) ∈ wsL := List.mem_filter.mpr ⟨List.mem_of_getElem? (i := 942) (by decide +kernel), by decide +kernel⟩
theorem m_990 : (Cond.selects RX4 yX4_tallyMarks yX4_tallyMarks) ∈ wsL := List.mem_filter.mpr ⟨List.mem_of_getElem? (i := 24) (by decide +kernel), by decide +kernel⟩
theorem m_991 : (Cond.code yX4_tallyMarks cX4_tallyMarks 5 (some .int)) ∈ wsL := List.mem_filter.mpr ⟨List.mem_of_getElem? (i := 943) (by decide +kernel), by decide +kernel⟩
theorem m_992 : (Cond.methodLink RL 144 yX11_middle) ∈ wsL := List.mem_filter.mpr ⟨List.mem_of_getElem? (i := 1408) (by decide +kernel), by decide +kernel⟩
theorem m_993 : (Cond.instanceMethod yX11_middle) ∈ wsL := List.mem_filter.mpr ⟨List.mem_of_getElem? (i := 1409) (by decide +kernel), by decide +kernel⟩
theorem m_994 : (Cond.selects RX11 yX11_middle yX11_middle) ∈ wsL := List.mem_filter.mpr ⟨List.mem_of_getElem? (i := 1410) (by decide +kernel), by decide +kernel⟩
theorem m_995 : (Cond.code yX11_middle cX11_middle 2 (some .int)) ∈ wsL := List.mem_filter.mpr ⟨List.mem_of_getElem? (i := 1411) (by decide +kernel), by decide +kernel⟩
theorem m_996 : (Cond.methodLink RX11 213 yX11_middleOf) ∈ wsL := List.mem_filter.mpr ⟨List.mem_of_getElem? (i := 1412) (by decide +kernel), by decide +kernel⟩
theorem m_997 : (Cond.instanceMethod yX11_middleOf) ∈ wsL := List.mem_filter.mpr ⟨List.mem_of_getElem? (i := 1414) (by decide +kernel), by decide +kernel⟩
theorem m_998 : (Cond.selects RX11 yX11_middleOf yX11_middleOf) ∈ wsL := List.mem_filter.mpr ⟨List.mem_of_getElem? (i := 43) (by decide +kernel), by decide +kernel⟩
theorem m_999 : (Cond.code yX11_middleOf cX11_middleOf 4 (some .int)) ∈ wsL := List.mem_filter.mpr ⟨List.mem_of_getElem? (i := 1415) (by decide +kernel), by decide +kernel⟩
theorem m_1000 : (Cond.methodLink RX11 209 yX11_marked) ∈ wsL := List.mem_filter.mpr ⟨List.mem_of_getElem? (i := 1416) (by decide +kernel), by decide +kernel⟩
theorem m_1001 : (Cond.instanceMethod yX11_marked) ∈ wsL := List.mem_filter.mpr ⟨List.mem_of_getElem? (i := 1418) (by decide +kernel), by decide +kernel⟩
theorem m_1002 : (Cond.selects RX11 yX11_marked yX11_marked) ∈ wsL := List.mem_filter.mpr ⟨List.mem_of_getElem? (i := 44) (by decide +kernel), by decide +kernel⟩
theorem m_1003 : (Cond.code yX11_marked cX11_marked 6 (some .int)) ∈ wsL := List.mem_filter.mpr ⟨List.mem_of_getElem? (i := 1419) (by decide +kernel), by decide +kernel⟩
theorem m_1004 : (Cond.methodLink RL 145 yX10_winner) ∈ wsL := List.mem_filter.mpr ⟨List.mem_of_getElem? (i := 944) (by decide +kernel), by decide +kernel⟩
theorem m_1005 : (Cond.instanceMethod yX10_winner) ∈ wsL := List.mem_filter.mpr ⟨List.mem_of_getElem? (i := 945) (by decide +kernel), by decide +kernel⟩
theorem m_1006 : (Cond.selects RX10 yX10_winner yX10_winner) ∈ wsL := List.mem_filter.mpr ⟨List.mem_of_getElem? (i := 946) (by decide +kernel), by decide +kernel⟩
theorem m_1007 : (Cond.code yX10_winner cX10_winner 1 (some .int)) ∈ wsL := List.mem_filter.mpr ⟨List.mem_of_getElem? (i := 947) (by decide +kernel), by decide +kernel⟩
theorem m_1008 : (Cond.methodLink RX10 289 yX4_bestBook) ∈ wsL := List.mem_filter.mpr ⟨List.mem_of_getElem? (i := 948) (by decide +kernel), by decide +kernel⟩
theorem m_1009 : (Cond.instanceMethod yX4_bestBook) ∈ wsL := List.mem_filter.mpr ⟨List.mem_of_getElem? (i := 949) (by decide +kernel), by decide +kernel⟩
theorem m_1010 : (Cond.selects RX4 yX4_bestBook yX4_bestBook) ∈ wsL := List.mem_filter.mpr ⟨List.mem_of_getElem? (i := 950) (by decide +kernel), by decide +kernel⟩
theorem m_1011 : (Cond.code yX4_bestBook cX4_bestBook 7 (some .int)) ∈ wsL := List.mem_filter.mpr ⟨List.mem_of_getElem? (i := 951) (by decide +kernel), by decide +kernel⟩
theorem m_1012 : (Cond.methodLink RX4 48 yX4_middleOf) ∈ wsL := List.mem_filter.mpr ⟨List.mem_of_getElem? (i := 952) (by decide +kernel), by decide +kernel⟩
theorem m_1013 : (Cond.methodLink RX4 51 yX4_leadOver) ∈ wsL := List.mem_filter.mpr ⟨List.mem_of_getElem? (i := 953) (by decide +kernel), by decide +kernel⟩
theorem m_1014 : (Cond.instanceMethod yX4_leadOver) ∈ wsL := List.mem_filter.mpr ⟨List.mem_of_getElem? (i := 955) (by decide +kernel), by decide +kernel⟩
theorem m_1015 : (Cond.selects RX4 yX4_leadOver yX4_leadOver) ∈ wsL := List.mem_filter.mpr ⟨List.mem_of_getElem? (i := 25) (by decide +kernel), by decide +kernel⟩
theorem m_1016 : (Cond.code yX4_leadOver cX4_leadOver 4 (some .int)) ∈ wsL := List.mem_filter.mpr ⟨List.mem_of_getElem? (i := 956) (by decide +kernel), by decide +kernel⟩
theorem m_1017 : (Cond.methodLink RL 148 yX11_winner) ∈ wsL := List.mem_filter.mpr ⟨List.mem_of_getElem? (i := 1420) (by decide +kernel), by decide +kernel⟩
theorem m_1018 : (Cond.instanceMethod yX11_winner) ∈ wsL := List.mem_filter.mpr ⟨List.mem_of_getElem? (i := 1421) (by decide +kernel), by decide +kernel⟩
theorem m_1019 : (Cond.selects RX11 yX11_winner yX11_winner) ∈ wsL := List.mem_filter.mpr ⟨List.mem_of_getElem? (i := 1422) (by decide +kernel), by decide +kernel⟩
theorem m_1020 : (Cond.code yX11_winner cX11_winner 6 (some .int)) ∈ wsL := List.mem_filter.mpr ⟨List.mem_of_getElem? (i := 1423) (by decide +kernel), by decide +kernel⟩
theorem mlX0_0 : u_lay RX0 TX0 0 ∈ wsL := List.mem_filter.mpr ⟨List.mem_of_getElem? (i := 334) (by decide +kernel), by decide +kernel⟩
theorem mlX0_1 : u_lay RX0 TX0 1 ∈ wsL := List.mem_filter.mpr ⟨List.mem_of_getElem? (i := 336) (by decide +kernel), by decide +kernel⟩
theorem inX0 : ∀ w ∈ u_ws RX0 TX0 2, w ∈ wsL := fun w hw => by
  obtain ⟨k, hk, rfl⟩ := List.mem_map.mp hw
  have hk := List.mem_range.mp hk
  match k, hk with
  | 0, _ => exact mlX0_0
  | 1, _ => exact mlX0_1
  | k + 2, h => exact absurd h (by omega)
theorem mlX1_0 : u_lay RX1 TX1 0 ∈ wsL := List.mem_filter.mpr ⟨List.mem_of_getElem? (i := 219) (by decide +kernel), by decide +kernel⟩
theorem mlX1_1 : u_lay RX1 TX1 1 ∈ wsL := List.mem_filter.mpr ⟨List.mem_of_getElem? (i := 221) (by decide +kernel), by decide +kernel⟩
theorem mlX1_2 : u_lay RX1 TX1 2 ∈ wsL := List.mem_filter.mpr ⟨List.mem_of_getElem? (i := 223) (by decide +kernel), by decide +kernel⟩
theorem mlX1_3 : u_lay RX1 TX1 3 ∈ wsL := List.mem_filter.mpr ⟨List.mem_of_getElem? (i := 225) (by decide +kernel), by decide +kernel⟩
theorem mlX1_4 : u_lay RX1 TX1 4 ∈ wsL := List.mem_filter.mpr ⟨List.mem_of_getElem? (i := 227) (by decide +kernel), by decide +kernel⟩
theorem mlX1_5 : u_lay RX1 TX1 5 ∈ wsL := List.mem_filter.mpr ⟨List.mem_of_getElem? (i := 229) (by decide +kernel), by decide +kernel⟩
theorem mlX1_6 : u_lay RX1 TX1 6 ∈ wsL := List.mem_filter.mpr ⟨List.mem_of_getElem? (i := 231) (by decide +kernel), by decide +kernel⟩
theorem mlX1_7 : u_lay RX1 TX1 7 ∈ wsL := List.mem_filter.mpr ⟨List.mem_of_getElem? (i := 233) (by decide +kernel), by decide +kernel⟩
theorem inX1 : ∀ w ∈ u_ws RX1 TX1 8, w ∈ wsL := fun w hw => by
  obtain ⟨k, hk, rfl⟩ := List.mem_map.mp hw
  have hk := List.mem_range.mp hk
  match k, hk with
  | 0, _ => exact mlX1_0
  | 1, _ => exact mlX1_1
  | 2, _ => exact mlX1_2
  | 3, _ => exact mlX1_3
  | 4, _ => exact mlX1_4
  | 5, _ => exact mlX1_5
  | 6, _ => exact mlX1_6
  | 7, _ => exact mlX1_7
  | k + 8, h => exact absurd h (by omega)
theorem mlX2_0 : u_lay RX2 TX2 0 ∈ wsL := List.mem_filter.mpr ⟨List.mem_of_getElem? (i := 308) (by decide +kernel), by decide +kernel⟩
theorem mlX2_1 : u_lay RX2 TX2 1 ∈ wsL := List.mem_filter.mpr ⟨List.mem_of_getElem? (i := 310) (by decide +kernel), by decide +kernel⟩
theorem mlX2_2 : u_lay RX2 TX2 2 ∈ wsL := List.mem_filter.mpr ⟨List.mem_of_getElem? (i := 312) (by decide +kernel), by decide +kernel⟩
theorem mlX2_3 : u_lay RX2 TX2 3 ∈ wsL := List.mem_filter.mpr ⟨List.mem_of_getElem? (i := 314) (by decide +kernel), by decide +kernel⟩
theorem mlX2_4 : u_lay RX2 TX2 4 ∈ wsL := List.mem_filter.mpr ⟨List.mem_of_getElem? (i := 316) (by decide +kernel), by decide +kernel⟩
theorem mlX2_5 : u_lay RX2 TX2 5 ∈ wsL := List.mem_filter.mpr ⟨List.mem_of_getElem? (i := 318) (by decide +kernel), by decide +kernel⟩
theorem mlX2_6 : u_lay RX2 TX2 6 ∈ wsL := List.mem_filter.mpr ⟨List.mem_of_getElem? (i := 320) (by decide +kernel), by decide +kernel⟩
theorem mlX2_7 : u_lay RX2 TX2 7 ∈ wsL := List.mem_filter.mpr ⟨List.mem_of_getElem? (i := 322) (by decide +kernel), by decide +kernel⟩
theorem inX2 : ∀ w ∈ u_ws RX2 TX2 8, w ∈ wsL := fun w hw => by
  obtain ⟨k, hk, rfl⟩ := List.mem_map.mp hw
  have hk := List.mem_range.mp hk
  match k, hk with
  | 0, _ => exact mlX2_0
  | 1, _ => exact mlX2_1
  | 2, _ => exact mlX2_2
  | 3, _ => exact mlX2_3
  | 4, _ => exact mlX2_4
  | 5, _ => exact mlX2_5
  | 6, _ => exact mlX2_6
  | 7, _ => exact mlX2_7
  | k + 8, h => exact absurd h (by omega)
theorem mlX3_0 : u_lay RX3 TX3 0 ∈ wsL := List.mem_filter.mpr ⟨List.mem_of_getElem? (i := 676) (by decide +kernel), by decide +kernel⟩
theorem mlX3_1 : u_lay RX3 TX3 1 ∈ wsL := List.mem_filter.mpr ⟨List.mem_of_getElem? (i := 678) (by decide +kernel), by decide +kernel⟩
theorem mlX3_2 : u_lay RX3 TX3 2 ∈ wsL := List.mem_filter.mpr ⟨List.mem_of_getElem? (i := 680) (by decide +kernel), by decide +kernel⟩
theorem mlX3_3 : u_lay RX3 TX3 3 ∈ wsL := List.mem_filter.mpr ⟨List.mem_of_getElem? (i := 682) (by decide +kernel), by decide +kernel⟩
theorem mlX3_4 : u_lay RX3 TX3 4 ∈ wsL := List.mem_filter.mpr ⟨List.mem_of_getElem? (i := 684) (by decide +kernel), by decide +kernel⟩
theorem inX3 : ∀ w ∈ u_ws RX3 TX3 5, w ∈ wsL := fun w hw => by
  obtain ⟨k, hk, rfl⟩ := List.mem_map.mp hw
  have hk := List.mem_range.mp hk
  match k, hk with
  | 0, _ => exact mlX3_0
  | 1, _ => exact mlX3_1
  | 2, _ => exact mlX3_2
  | 3, _ => exact mlX3_3
  | 4, _ => exact mlX3_4
  | k + 5, h => exact absurd h (by omega)
theorem mlX4_0 : u_lay RX4 TX4 0 ∈ wsL := List.mem_filter.mpr ⟨List.mem_of_getElem? (i := 350) (by decide +kernel), by decide +kernel⟩
theorem mlX4_1 : u_lay RX4 TX4 1 ∈ wsL := List.mem_filter.mpr ⟨List.mem_of_getElem? (i := 352) (by decide +kernel), by decide +kernel⟩
theorem mlX4_2 : u_lay RX4 TX4 2 ∈ wsL := List.mem_filter.mpr ⟨List.mem_of_getElem? (i := 354) (by decide +kernel), by decide +kernel⟩
theorem inX4 : ∀ w ∈ u_ws RX4 TX4 3, w ∈ wsL := fun w hw => by
  obtain ⟨k, hk, rfl⟩ := List.mem_map.mp hw
  have hk := List.mem_range.mp hk
  match k, hk with
  | 0, _ => exact mlX4_0
  | 1, _ => exact mlX4_1
  | 2, _ => exact mlX4_2
  | k + 3, h => exact absurd h (by omega)
theorem mlX5_0 : u_lay RX5 TX5 0 ∈ wsL := List.mem_filter.mpr ⟨List.mem_of_getElem? (i := 191) (by decide +kernel), by decide +kernel⟩
theorem inX5 : ∀ w ∈ u_ws RX5 TX5 1, w ∈ wsL := fun w hw => by
  obtain ⟨k, hk, rfl⟩ := List.mem_map.mp hw
  have hk := List.mem_range.mp hk
  match k, hk with
  | 0, _ => exact mlX5_0
  | k + 1, h => exact absurd h (by omega)
theorem mlX6_0 : u_lay RX6 TX6 0 ∈ wsL := List.mem_filter.mpr ⟨List.mem_of_getElem? (i := 626) (by decide +kernel), by decide +kernel⟩
theorem mlX6_1 : u_lay RX6 TX6 1 ∈ wsL := List.mem_filter.mpr ⟨List.mem_of_getElem? (i := 628) (by decide +kernel), by decide +kernel⟩
theorem mlX6_2 : u_lay RX6 TX6 2 ∈ wsL := List.mem_filter.mpr ⟨List.mem_of_getElem? (i := 630) (by decide +kernel), by decide +kernel⟩
theorem mlX6_3 : u_lay RX6 TX6 3 ∈ wsL := List.mem_filter.mpr ⟨List.mem_of_getElem? (i := 632) (by decide +kernel), by decide +kernel⟩
theorem mlX6_4 : u_lay RX6 TX6 4 ∈ wsL := List.mem_filter.mpr ⟨List.mem_of_getElem? (i := 634) (by decide +kernel), by decide +kernel⟩
theorem mlX6_5 : u_lay RX6 TX6 5 ∈ wsL := List.mem_filter.mpr ⟨List.mem_of_getElem? (i := 636) (by decide +kernel), by decide +kernel⟩
theorem mlX6_6 : u_lay RX6 TX6 6 ∈ wsL := List.mem_filter.mpr ⟨List.mem_of_getElem? (i := 638) (by decide +kernel), by decide +kernel⟩
theorem mlX6_7 : u_lay RX6 TX6 7 ∈ wsL := List.mem_filter.mpr ⟨List.mem_of_getElem? (i := 640) (by decide +kernel), by decide +kernel⟩
theorem mlX6_8 : u_lay RX6 TX6 8 ∈ wsL := List.mem_filter.mpr ⟨List.mem_of_getElem? (i := 642) (by decide +kernel), by decide +kernel⟩
theorem mlX6_9 : u_lay RX6 TX6 9 ∈ wsL := List.mem_filter.mpr ⟨List.mem_of_getElem? (i := 644) (by decide +kernel), by decide +kernel⟩
theorem mlX6_10 : u_lay RX6 TX6 10 ∈ wsL := List.mem_filter.mpr ⟨List.mem_of_getElem? (i := 646) (by decide +kernel), by decide +kernel⟩
theorem inX6 : ∀ w ∈ u_ws RX6 TX6 11, w ∈ wsL := fun w hw => by
  obtain ⟨k, hk, rfl⟩ := List.mem_map.mp hw
  have hk := List.mem_range.mp hk
  match k, hk with
  | 0, _ => exact mlX6_0
  | 1, _ => exact mlX6_1
  | 2, _ => exact mlX6_2
  | 3, _ => exact mlX6_3
  | 4, _ => exact mlX6_4
  | 5, _ => exact mlX6_5
  | 6, _ => exact mlX6_6
  | 7, _ => exact mlX6_7
  | 8, _ => exact mlX6_8
  | 9, _ => exact mlX6_9
  | 10, _ => exact mlX6_10
  | k + 11, h => exact absurd h (by omega)
theorem mlX7_0 : u_lay RX7 TX7 0 ∈ wsL := List.mem_filter.mpr ⟨List.mem_of_getElem? (i := 111) (by decide +kernel), by decide +kernel⟩
theorem mlX7_1 : u_lay RX7 TX7 1 ∈ wsL := List.mem_filter.mpr ⟨List.mem_of_getElem? (i := 113) (by decide +kernel), by decide +kernel⟩
theorem mlX7_2 : u_lay RX7 TX7 2 ∈ wsL := List.mem_filter.mpr ⟨List.mem_of_getElem? (i := 115) (by decide +kernel), by decide +kernel⟩
theorem mlX7_3 : u_lay RX7 TX7 3 ∈ wsL := List.mem_filter.mpr ⟨List.mem_of_getElem? (i := 117) (by decide +kernel), by decide +kernel⟩
theorem mlX7_4 : u_lay RX7 TX7 4 ∈ wsL := List.mem_filter.mpr ⟨List.mem_of_getElem? (i := 119) (by decide +kernel), by decide +kernel⟩
theorem inX7 : ∀ w ∈ u_ws RX7 TX7 5, w ∈ wsL := fun w hw => by
  obtain ⟨k, hk, rfl⟩ := List.mem_map.mp hw
  have hk := List.mem_range.mp hk
  match k, hk with
  | 0, _ => exact mlX7_0
  | 1, _ => exact mlX7_1
  | 2, _ => exact mlX7_2
  | 3, _ => exact mlX7_3
  | 4, _ => exact mlX7_4
  | k + 5, h => exact absurd h (by omega)
theorem mlX8_0 : u_lay RX8 TX8 0 ∈ wsL := List.mem_filter.mpr ⟨List.mem_of_getElem? (i := 93) (by decide +kernel), by decide +kernel⟩
theorem mlX8_1 : u_lay RX8 TX8 1 ∈ wsL := List.mem_filter.mpr ⟨List.mem_of_getElem? (i := 95) (by decide +kernel), by decide +kernel⟩
theorem inX8 : ∀ w ∈ u_ws RX8 TX8 2, w ∈ wsL := fun w hw => by
  obtain ⟨k, hk, rfl⟩ := List.mem_map.mp hw
  have hk := List.mem_range.mp hk
  match k, hk with
  | 0, _ => exact mlX8_0
  | 1, _ => exact mlX8_1
  | k + 2, h => exact absurd h (by omega)
theorem mlX9_0 : u_lay RX9 TX9 0 ∈ wsL := List.mem_filter.mpr ⟨List.mem_of_getElem? (i := 135) (by decide +kernel), by decide +kernel⟩
theorem mlX9_1 : u_lay RX9 TX9 1 ∈ wsL := List.mem_filter.mpr ⟨List.mem_of_getElem? (i := 137) (by decide +kernel), by decide +kernel⟩
theorem mlX9_2 : u_lay RX9 TX9 2 ∈ wsL := List.mem_filter.mpr ⟨List.mem_of_getElem? (i := 139) (by decide +kernel), by decide +kernel⟩
theorem mlX9_3 : u_lay RX9 TX9 3 ∈ wsL := List.mem_filter.mpr ⟨List.mem_of_getElem? (i := 141) (by decide +kernel), by decide +kernel⟩
theorem mlX9_4 : u_lay RX9 TX9 4 ∈ wsL := List.mem_filter.mpr ⟨List.mem_of_getElem? (i := 143) (by decide +kernel), by decide +kernel⟩
theorem inX9 : ∀ w ∈ u_ws RX9 TX9 5, w ∈ wsL := fun w hw => by
  obtain ⟨k, hk, rfl⟩ := List.mem_map.mp hw
  have hk := List.mem_range.mp hk
  match k, hk with
  | 0, _ => exact mlX9_0
  | 1, _ => exact mlX9_1
  | 2, _ => exact mlX9_2
  | 3, _ => exact mlX9_3
  | 4, _ => exact mlX9_4
  | k + 5, h => exact absurd h (by omega)
theorem mlX10_0 : u_lay RX10 TX10 0 ∈ wsL := List.mem_filter.mpr ⟨List.mem_of_getElem? (i := 363) (by decide +kernel), by decide +kernel⟩
theorem mlX10_1 : u_lay RX10 TX10 1 ∈ wsL := List.mem_filter.mpr ⟨List.mem_of_getElem? (i := 365) (by decide +kernel), by decide +kernel⟩
theorem mlX10_2 : u_lay RX10 TX10 2 ∈ wsL := List.mem_filter.mpr ⟨List.mem_of_getElem? (i := 367) (by decide +kernel), by decide +kernel⟩
theorem mlX10_3 : u_lay RX10 TX10 3 ∈ wsL := List.mem_filter.mpr ⟨List.mem_of_getElem? (i := 369) (by decide +kernel), by decide +kernel⟩
theorem mlX10_4 : u_lay RX10 TX10 4 ∈ wsL := List.mem_filter.mpr ⟨List.mem_of_getElem? (i := 371) (by decide +kernel), by decide +kernel⟩
theorem mlX10_5 : u_lay RX10 TX10 5 ∈ wsL := List.mem_filter.mpr ⟨List.mem_of_getElem? (i := 373) (by decide +kernel), by decide +kernel⟩
theorem inX10 : ∀ w ∈ u_ws RX10 TX10 6, w ∈ wsL := fun w hw => by
  obtain ⟨k, hk, rfl⟩ := List.mem_map.mp hw
  have hk := List.mem_range.mp hk
  match k, hk with
  | 0, _ => exact mlX10_0
  | 1, _ => exact mlX10_1
  | 2, _ => exact mlX10_2
  | 3, _ => exact mlX10_3
  | 4, _ => exact mlX10_4
  | 5, _ => exact mlX10_5
  | k + 6, h => exact absurd h (by omega)
theorem mlX11_0 : u_lay RX11 TX11 0 ∈ wsL := List.mem_filter.mpr ⟨List.mem_of_getElem? (i := 1097) (by decide +kernel), by decide +kernel⟩
theorem mlX11_1 : u_lay RX11 TX11 1 ∈ wsL := List.mem_filter.mpr ⟨List.mem_of_getElem? (i := 1099) (by decide +kernel), by decide +kernel⟩
theorem mlX11_2 : u_lay RX11 TX11 2 ∈ wsL := List.mem_filter.mpr ⟨List.mem_of_getElem? (i := 1101) (by decide +kernel), by decide +kernel⟩
theorem mlX11_3 : u_lay RX11 TX11 3 ∈ wsL := List.mem_filter.mpr ⟨List.mem_of_getElem? (i := 1103) (by decide +kernel), by decide +kernel⟩
theorem mlX11_4 : u_lay RX11 TX11 4 ∈ wsL := List.mem_filter.mpr ⟨List.mem_of_getElem? (i := 1105) (by decide +kernel), by decide +kernel⟩
theorem mlX11_5 : u_lay RX11 TX11 5 ∈ wsL := List.mem_filter.mpr ⟨List.mem_of_getElem? (i := 1107) (by decide +kernel), by decide +kernel⟩
theorem mlX11_6 : u_lay RX11 TX11 6 ∈ wsL := List.mem_filter.mpr ⟨List.mem_of_getElem? (i := 1109) (by decide +kernel), by decide +kernel⟩
theorem mlX11_7 : u_lay RX11 TX11 7 ∈ wsL := List.mem_filter.mpr ⟨List.mem_of_getElem? (i := 1111) (by decide +kernel), by decide +kernel⟩
theorem mlX11_8 : u_lay RX11 TX11 8 ∈ wsL := List.mem_filter.mpr ⟨List.mem_of_getElem? (i := 1113) (by decide +kernel), by decide +kernel⟩
theorem mlX11_9 : u_lay RX11 TX11 9 ∈ wsL := List.mem_filter.mpr ⟨List.mem_of_getElem? (i := 1115) (by decide +kernel), by decide +kernel⟩
theorem mlX11_10 : u_lay RX11 TX11 10 ∈ wsL := List.mem_filter.mpr ⟨List.mem_of_getElem? (i := 1117) (by decide +kernel), by decide +kernel⟩
theorem mlX11_11 : u_lay RX11 TX11 11 ∈ wsL := List.mem_filter.mpr ⟨List.mem_of_getElem? (i := 1119) (by decide +kernel), by decide +kernel⟩
theorem mlX11_12 : u_lay RX11 TX11 12 ∈ wsL := List.mem_filter.mpr ⟨List.mem_of_getElem? (i := 1121) (by decide +kernel), by decide +kernel⟩
theorem mlX11_13 : u_lay RX11 TX11 13 ∈ wsL := List.mem_filter.mpr ⟨List.mem_of_getElem? (i := 1123) (by decide +kernel), by decide +kernel⟩
theorem mlX11_14 : u_lay RX11 TX11 14 ∈ wsL := List.mem_filter.mpr ⟨List.mem_of_getElem? (i := 1125) (by decide +kernel), by decide +kernel⟩
theorem mlX11_15 : u_lay RX11 TX11 15 ∈ wsL := List.mem_filter.mpr ⟨List.mem_of_getElem? (i := 1127) (by decide +kernel), by decide +kernel⟩
theorem mlX11_16 : u_lay RX11 TX11 16 ∈ wsL := List.mem_filter.mpr ⟨List.mem_of_getElem? (i := 1129) (by decide +kernel), by decide +kernel⟩
theorem mlX11_17 : u_lay RX11 TX11 17 ∈ wsL := List.mem_filter.mpr ⟨List.mem_of_getElem? (i := 1131) (by decide +kernel), by decide +kernel⟩
theorem mlX11_18 : u_lay RX11 TX11 18 ∈ wsL := List.mem_filter.mpr ⟨List.mem_of_getElem? (i := 1133) (by decide +kernel), by decide +kernel⟩
theorem mlX11_19 : u_lay RX11 TX11 19 ∈ wsL := List.mem_filter.mpr ⟨List.mem_of_getElem? (i := 1135) (by decide +kernel), by decide +kernel⟩
theorem mlX11_20 : u_lay RX11 TX11 20 ∈ wsL := List.mem_filter.mpr ⟨List.mem_of_getElem? (i := 1137) (by decide +kernel), by decide +kernel⟩
theorem mlX11_21 : u_lay RX11 TX11 21 ∈ wsL := List.mem_filter.mpr ⟨List.mem_of_getElem? (i := 1139) (by decide +kernel), by decide +kernel⟩
theorem mlX11_22 : u_lay RX11 TX11 22 ∈ wsL := List.mem_filter.mpr ⟨List.mem_of_getElem? (i := 1141) (by decide +kernel), by decide +kernel⟩
theorem mlX11_23 : u_lay RX11 TX11 23 ∈ wsL := List.mem_filter.mpr ⟨List.mem_of_getElem? (i := 1143) (by decide +kernel), by decide +kernel⟩
theorem mlX11_24 : u_lay RX11 TX11 24 ∈ wsL := List.mem_filter.mpr ⟨List.mem_of_getElem? (i := 1145) (by decide +kernel), by decide +kernel⟩
theorem mlX11_25 : u_lay RX11 TX11 25 ∈ wsL := List.mem_filter.mpr ⟨List.mem_of_getElem? (i := 1147) (by decide +kernel), by decide +kernel⟩
theorem mlX11_26 : u_lay RX11 TX11 26 ∈ wsL := List.mem_filter.mpr ⟨List.mem_of_getElem? (i := 1149) (by decide +kernel), by decide +kernel⟩
theorem mlX11_27 : u_lay RX11 TX11 27 ∈ wsL := List.mem_filter.mpr ⟨List.mem_of_getElem? (i := 1151) (by decide +kernel), by decide +kernel⟩
theorem mlX11_28 : u_lay RX11 TX11 28 ∈ wsL := List.mem_filter.mpr ⟨List.mem_of_getElem? (i := 1153) (by decide +kernel), by decide +kernel⟩
theorem mlX11_29 : u_lay RX11 TX11 29 ∈ wsL := List.mem_filter.mpr ⟨List.mem_of_getElem? (i := 1155) (by decide +kernel), by decide +kernel⟩
theorem mlX11_30 : u_lay RX11 TX11 30 ∈ wsL := List.mem_filter.mpr ⟨List.mem_of_getElem? (i := 1157) (by decide +kernel), by decide +kernel⟩
theorem mlX11_31 : u_lay RX11 TX11 31 ∈ wsL := List.mem_filter.mpr ⟨List.mem_of_getElem? (i := 1159) (by decide +kernel), by decide +kernel⟩
theorem mlX11_32 : u_lay RX11 TX11 32 ∈ wsL := List.mem_filter.mpr ⟨List.mem_of_getElem? (i := 1161) (by decide +kernel), by decide +kernel⟩
theorem mlX11_33 : u_lay RX11 TX11 33 ∈ wsL := List.mem_filter.mpr ⟨List.mem_of_getElem? (i := 1163) (by decide +kernel), by decide +kernel⟩
theorem mlX11_34 : u_lay RX11 TX11 34 ∈ wsL := List.mem_filter.mpr ⟨List.mem_of_getElem? (i := 1165) (by decide +kernel), by decide +kernel⟩
theorem inX11 : ∀ w ∈ u_ws RX11 TX11 35, w ∈ wsL := fun w hw => by
  obtain ⟨k, hk, rfl⟩ := List.mem_map.mp hw
  have hk := List.mem_range.mp hk
  match k, hk with
  | 0, _ => exact mlX11_0
  | 1, _ => exact mlX11_1
  | 2, _ => exact mlX11_2
  | 3, _ => exact mlX11_3
  | 4, _ => exact mlX11_4
  | 5, _ => exact mlX11_5
  | 6, _ => exact mlX11_6
  | 7, _ => exact mlX11_7
  | 8, _ => exact mlX11_8
  | 9, _ => exact mlX11_9
  | 10, _ => exact mlX11_10
  | 11, _ => exact mlX11_11
  | 12, _ => exact mlX11_12
  | 13, _ => exact mlX11_13
  | 14, _ => exact mlX11_14
  | 15, _ => exact mlX11_15
  | 16, _ => exact mlX11_16
  | 17, _ => exact mlX11_17
  | 18, _ => exact mlX11_18
  | 19, _ => exact mlX11_19
  | 20, _ => exact mlX11_20
  | 21, _ => exact mlX11_21
  | 22, _ => exact mlX11_22
  | 23, _ => exact mlX11_23
  | 24, _ => exact mlX11_24
  | 25, _ => exact mlX11_25
  | 26, _ => exact mlX11_26
  | 27, _ => exact mlX11_27
  | 28, _ => exact mlX11_28
  | 29, _ => exact mlX11_29
  | 30, _ => exact mlX11_30
  | 31, _ => exact mlX11_31
  | 32, _ => exact mlX11_32
  | 33, _ => exact mlX11_33
  | 34, _ => exact mlX11_34
  | k + 35, h => exact absurd h (by omega)
theorem mlJx4a65c_0 : u_lay RJx4a65c TJx4a65c 0 ∈ wsL := List.mem_filter.mpr ⟨List.mem_of_getElem? (i := 178) (by decide +kernel), by decide +kernel⟩
theorem mlJx4a65c_1 : u_lay RJx4a65c TJx4a65c 1 ∈ wsL := List.mem_filter.mpr ⟨List.mem_of_getElem? (i := 174) (by decide +kernel), by decide +kernel⟩
theorem mlJx4a65c_2 : u_lay RJx4a65c TJx4a65c 2 ∈ wsL := List.mem_filter.mpr ⟨List.mem_of_getElem? (i := 176) (by decide +kernel), by decide +kernel⟩
theorem inJx4a65c : ∀ w ∈ u_ws RJx4a65c TJx4a65c 3, w ∈ wsL := fun w hw => by
  obtain ⟨k, hk, rfl⟩ := List.mem_map.mp hw
  have hk := List.mem_range.mp hk
  match k, hk with
  | 0, _ => exact mlJx4a65c_0
  | 1, _ => exact mlJx4a65c_1
  | 2, _ => exact mlJx4a65c_2
  | k + 3, h => exact absurd h (by omega)
