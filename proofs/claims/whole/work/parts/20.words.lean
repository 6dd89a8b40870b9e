theorem tw_1_1 : Cond.initialized "SortWorks" ∈ sw_gw := p_mem (p_tb1 (List.mem_of_getElem? (i := 1) (by decide +kernel))) (by decide +kernel)
theorem tw_1_2 : Cond.initialized "SortWorks$Works" ∈ sw_gw := p_mem (p_tb1 (List.mem_of_getElem? (i := 2) (by decide +kernel))) (by decide +kernel)
theorem tw_1_3 : Cond.initialized "SortWorks$State" ∈ sw_gw := p_mem (p_tb1 (List.mem_of_getElem? (i := 3) (by decide +kernel))) (by decide +kernel)
theorem tw_1_4 : Cond.initialized "SortWorks$Log" ∈ sw_gw := p_mem (p_tb1 (List.mem_of_getElem? (i := 4) (by decide +kernel))) (by decide +kernel)
theorem tw_1_5 : Cond.initialized "SortWorks$Gear" ∈ sw_gw := p_mem (p_tb1 (List.mem_of_getElem? (i := 5) (by decide +kernel))) (by decide +kernel)
theorem tw_1_6 : Cond.initialized "SortWorks$Parcel" ∈ sw_gw := p_mem (p_tb1 (List.mem_of_getElem? (i := 6) (by decide +kernel))) (by decide +kernel)
theorem tw_1_7 : Cond.initialized "SortWorks$Rules" ∈ sw_gw := p_mem (p_tb1 (List.mem_of_getElem? (i := 7) (by decide +kernel))) (by decide +kernel)
theorem tw_1_8 : Cond.initialized "SortWorks$Numbers" ∈ sw_gw := p_mem (p_tb1 (List.mem_of_getElem? (i := 8) (by decide +kernel))) (by decide +kernel)
theorem tw_1_9 : Cond.initialized "SortWorks$Step" ∈ sw_gw := p_mem (p_tb1 (List.mem_of_getElem? (i := 9) (by decide +kernel))) (by decide +kernel)
theorem tw_1_10 : Cond.initialized "SortWorks$Reading" ∈ sw_gw := p_mem (p_tb1 (List.mem_of_getElem? (i := 10) (by decide +kernel))) (by decide +kernel)
theorem tw_1_11 : Cond.initialized "SortWorks$Judge" ∈ sw_gw := p_mem (p_tb1 (List.mem_of_getElem? (i := 11) (by decide +kernel))) (by decide +kernel)
theorem tw_1_12 : Cond.initialized "SortWorksModel" ∈ sw_gw := p_mem (p_tb1 (List.mem_of_getElem? (i := 12) (by decide +kernel))) (by decide +kernel)
theorem tw_1_13 : Cond.initialized "java/util/Arrays" ∈ sw_gw := p_mem (p_tb1 (List.mem_of_getElem? (i := 13) (by decide +kernel))) (by decide +kernel)
theorem tw_1_14 : Cond.initialized "java/lang/System" ∈ sw_gw := p_mem (p_tb1 (List.mem_of_getElem? (i := 14) (by decide +kernel))) (by decide +kernel)
theorem tw_1_15 : Cond.initialized "java/lang/Math" ∈ sw_gw := p_mem (p_tb1 (List.mem_of_getElem? (i := 15) (by decide +kernel))) (by decide +kernel)
theorem tw_1_16 : Cond.initialized "java/lang/Integer" ∈ sw_gw := p_mem (p_tb1 (List.mem_of_getElem? (i := 16) (by decide +kernel))) (by decide +kernel)
theorem tw_1_17 : Cond.classLink "SortWorksLaw" 7 "SortWorks" ∈ sw_gw := p_mem (p_tb1 (List.mem_of_getElem? (i := 17) (by decide +kernel))) (by decide +kernel)
theorem tw_1_18 : Cond.instantiable "SortWorks" 9 ∈ sw_gw := p_mem (p_tb1 (List.mem_of_getElem? (i := 18) (by decide +kernel))) (by decide +kernel)
theorem tw_1_19 : Cond.methodLink "SortWorksLaw" 9 ⟨"SortWorks", "<init>", "()V"⟩ ∈ sw_gw := p_mem (p_tb1 (List.mem_of_getElem? (i := 19) (by decide +kernel))) (by decide +kernel)
theorem tw_1_20 : Cond.instanceMethod ⟨"SortWorks", "<init>", "()V"⟩ ∈ sw_gw := p_mem (p_tb1 (List.mem_of_getElem? (i := 20) (by decide +kernel))) (by decide +kernel)
theorem tw_1_22 : Cond.methodLink "SortWorks" 1 ⟨"java/lang/Object", "<init>", "()V"⟩ ∈ sw_gw := p_mem (p_tb1 (List.mem_of_getElem? (i := 22) (by decide +kernel))) (by decide +kernel)
theorem tw_1_23 : Cond.instanceMethod ⟨"java/lang/Object", "<init>", "()V"⟩ ∈ sw_gw := p_mem (p_tb1 (List.mem_of_getElem? (i := 23) (by decide +kernel))) (by decide +kernel)
theorem tw_1_25 : Cond.classLink "SortWorks" 7 "SortWorks$Works" ∈ sw_gw := p_mem (p_tb1 (List.mem_of_getElem? (i := 25) (by decide +kernel))) (by decide +kernel)
theorem tw_1_27 : Cond.instantiable "SortWorks$Works" 15 ∈ sw_gw := p_mem (p_tb1 (List.mem_of_getElem? (i := 27) (by decide +kernel))) (by decide +kernel)
theorem tw_1_28 : Cond.methodLink "SortWorks" 9 ⟨"SortWorks$Works", "<init>", "(I)V"⟩ ∈ sw_gw := p_mem (p_tb1 (List.mem_of_getElem? (i := 28) (by decide +kernel))) (by decide +kernel)
theorem tw_1_29 : Cond.instanceMethod ⟨"SortWorks$Works", "<init>", "(I)V"⟩ ∈ sw_gw := p_mem (p_tb1 (List.mem_of_getElem? (i := 29) (by decide +kernel))) (by decide +kernel)
theorem tw_1_31 : Cond.methodLink "SortWorks$Works" 3 ⟨"java/lang/Object", "<init>", "()V"⟩ ∈ sw_gw := p_mem (p_tb1 (List.mem_of_getElem? (i := 31) (by decide +kernel))) (by decide +kernel)
theorem tw_1_32 : Cond.classLink "SortWorks$Works" 9 "SortWorks$State" ∈ sw_gw := p_mem (p_tb1 (List.mem_of_getElem? (i := 32) (by decide +kernel))) (by decide +kernel)
theorem tw_1_33 : Cond.instantiable "SortWorks$State" 10 ∈ sw_gw := p_mem (p_tb1 (List.mem_of_getElem? (i := 33) (by decide +kernel))) (by decide +kernel)
theorem tw_1_34 : Cond.methodLink "SortWorks$Works" 11 ⟨"SortWorks$State", "<init>", "()V"⟩ ∈ sw_gw := p_mem (p_tb1 (List.mem_of_getElem? (i := 34) (by decide +kernel))) (by decide +kernel)
theorem tw_1_35 : Cond.instanceMethod ⟨"SortWorks$State", "<init>", "()V"⟩ ∈ sw_gw := p_mem (p_tb1 (List.mem_of_getElem? (i := 35) (by decide +kernel))) (by decide +kernel)
theorem tw_1_37 : Cond.methodLink "SortWorks$State" 5 ⟨"java/lang/Object", "<init>", "()V"⟩ ∈ sw_gw := p_mem (p_tb1 (List.mem_of_getElem? (i := 37) (by decide +kernel))) (by decide +kernel)
theorem tw_1_38 : Cond.classLink "SortWorks$State" 11 "SortWorks$Gear" ∈ sw_gw := p_mem (p_tb1 (List.mem_of_getElem? (i := 38) (by decide +kernel))) (by decide +kernel)
theorem tw_1_40 : Cond.classLink "SortWorks$State" 17 "SortWorks$Parcel" ∈ sw_gw := p_mem (p_tb1 (List.mem_of_getElem? (i := 40) (by decide +kernel))) (by decide +kernel)
theorem tw_1_42 : Cond.classLink "SortWorks$State" 27 "SortWorks$Log" ∈ sw_gw := p_mem (p_tb1 (List.mem_of_getElem? (i := 42) (by decide +kernel))) (by decide +kernel)
theorem tw_1_43 : Cond.instantiable "SortWorks$Log" 6 ∈ sw_gw := p_mem (p_tb1 (List.mem_of_getElem? (i := 43) (by decide +kernel))) (by decide +kernel)
theorem tw_1_44 : Cond.methodLink "SortWorks$State" 29 ⟨"SortWorks$Log", "<init>", "(II)V"⟩ ∈ sw_gw := p_mem (p_tb1 (List.mem_of_getElem? (i := 44) (by decide +kernel))) (by decide +kernel)
theorem tw_1_45 : Cond.instanceMethod ⟨"SortWorks$Log", "<init>", "(II)V"⟩ ∈ sw_gw := p_mem (p_tb1 (List.mem_of_getElem? (i := 45) (by decide +kernel))) (by decide +kernel)
theorem tw_1_47 : Cond.methodLink "SortWorks$Log" 3 ⟨"java/lang/Object", "<init>", "()V"⟩ ∈ sw_gw := p_mem (p_tb1 (List.mem_of_getElem? (i := 47) (by decide +kernel))) (by decide +kernel)
theorem tw_1_48 : Cond.fieldLink "SortWorks$Log" 15 "SortWorks$Log" "most" "I" ∈ sw_gw := p_mem (p_tb1 (List.mem_of_getElem? (i := 48) (by decide +kernel))) (by decide +kernel)
theorem tw_1_49 : Cond.fieldLink "SortWorks$Log" 19 "SortWorks$Log" "width" "I" ∈ sw_gw := p_mem (p_tb1 (List.mem_of_getElem? (i := 49) (by decide +kernel))) (by decide +kernel)
theorem tw_1_50 : Cond.fieldLink "SortWorks$Log" 22 "SortWorks$Log" "rows" "[I" ∈ sw_gw := p_mem (p_tb1 (List.mem_of_getElem? (i := 50) (by decide +kernel))) (by decide +kernel)
theorem tw_1_51 : Cond.fieldLink "SortWorks$Log" 28 "SortWorks$Log" "count" "I" ∈ sw_gw := p_mem (p_tb1 (List.mem_of_getElem? (i := 51) (by decide +kernel))) (by decide +kernel)
theorem tw_1_52 : Cond.fieldLink "SortWorks$Step" 39 "SortWorks$Log" "count" "I" ∈ sw_gw := p_mem (p_tb1 (List.mem_of_getElem? (i := 52) (by decide +kernel))) (by decide +kernel)
theorem tw_1_53 : Cond.fieldLink "SortWorks" 365 "SortWorks$Log" "count" "I" ∈ sw_gw := p_mem (p_tb1 (List.mem_of_getElem? (i := 53) (by decide +kernel))) (by decide +kernel)
theorem tw_1_54 : Cond.fieldLink "SortWorks$Log" 25 "SortWorks$Log" "keptRows" "[I" ∈ sw_gw := p_mem (p_tb1 (List.mem_of_getElem? (i := 54) (by decide +kernel))) (by decide +kernel)
theorem tw_1_55 : Cond.fieldLink "SortWorks$Log" 9 "SortWorks$Log" "keptCounts" "[I" ∈ sw_gw := p_mem (p_tb1 (List.mem_of_getElem? (i := 55) (by decide +kernel))) (by decide +kernel)
theorem tw_1_69 : Cond.arrayClass .int ∈ sw_gw := p_mem (p_tb1 (List.mem_of_getElem? (i := 69) (by decide +kernel))) (by decide +kernel)
theorem tw_1_70 : Cond.instantiable "SortWorks$Gear" 20 ∈ sw_gw := p_mem (p_tb1 (List.mem_of_getElem? (i := 70) (by decide +kernel))) (by decide +kernel)
theorem tw_1_72 : Cond.instanceMethod ⟨"SortWorks$Gear", "<init>", "()V"⟩ ∈ sw_gw := p_mem (p_tb1 (List.mem_of_getElem? (i := 72) (by decide +kernel))) (by decide +kernel)
theorem tw_1_74 : Cond.methodLink "SortWorks$Gear" 3 ⟨"java/lang/Object", "<init>", "()V"⟩ ∈ sw_gw := p_mem (p_tb1 (List.mem_of_getElem? (i := 74) (by decide +kernel))) (by decide +kernel)
theorem tw_1_75 : Cond.fieldLink "SortWorks$Gear" 35 "SortWorks$Gear" "kind" "I" ∈ sw_gw := p_mem (p_tb1 (List.mem_of_getElem? (i := 75) (by decide +kernel))) (by decide +kernel)
theorem tw_1_76 : Cond.fieldLink "SortWorks$Step" 97 "SortWorks$Gear" "kind" "I" ∈ sw_gw := p_mem (p_tb1 (List.mem_of_getElem? (i := 76) (by decide +kernel))) (by decide +kernel)
theorem tw_1_77 : Cond.fieldLink "SortWorks$Works" 119 "SortWorks$Gear" "kind" "I" ∈ sw_gw := p_mem (p_tb1 (List.mem_of_getElem? (i := 77) (by decide +kernel))) (by decide +kernel)
theorem tw_1_78 : Cond.fieldLink "SortWorks" 139 "SortWorks$Gear" "kind" "I" ∈ sw_gw := p_mem (p_tb1 (List.mem_of_getElem? (i := 78) (by decide +kernel))) (by decide +kernel)
theorem tw_1_79 : Cond.fieldLink "SortWorks$Gear" 85 "SortWorks$Gear" "length" "I" ∈ sw_gw := p_mem (p_tb1 (List.mem_of_getElem? (i := 79) (by decide +kernel))) (by decide +kernel)
theorem tw_1_80 : Cond.fieldLink "SortWorks" 92 "SortWorks$Gear" "length" "I" ∈ sw_gw := p_mem (p_tb1 (List.mem_of_getElem? (i := 80) (by decide +kernel))) (by decide +kernel)
theorem tw_1_81 : Cond.fieldLink "SortWorks$State" 86 "SortWorks$Gear" "length" "I" ∈ sw_gw := p_mem (p_tb1 (List.mem_of_getElem? (i := 81) (by decide +kernel))) (by decide +kernel)
theorem tw_1_82 : Cond.fieldLink "SortWorks$Works" 151 "SortWorks$Gear" "length" "I" ∈ sw_gw := p_mem (p_tb1 (List.mem_of_getElem? (i := 82) (by decide +kernel))) (by decide +kernel)
theorem tw_1_83 : Cond.fieldLink "SortWorks$Step" 231 "SortWorks$Gear" "length" "I" ∈ sw_gw := p_mem (p_tb1 (List.mem_of_getElem? (i := 83) (by decide +kernel))) (by decide +kernel)
theorem tw_1_84 : Cond.fieldLink "SortWorks$Gear" 41 "SortWorks$Gear" "rank" "I" ∈ sw_gw := p_mem (p_tb1 (List.mem_of_getElem? (i := 84) (by decide +kernel))) (by decide +kernel)
theorem tw_1_85 : Cond.fieldLink "SortWorks" 132 "SortWorks$Gear" "rank" "I" ∈ sw_gw := p_mem (p_tb1 (List.mem_of_getElem? (i := 85) (by decide +kernel))) (by decide +kernel)
theorem tw_1_86 : Cond.fieldLink "SortWorks$Step" 188 "SortWorks$Gear" "rank" "I" ∈ sw_gw := p_mem (p_tb1 (List.mem_of_getElem? (i := 86) (by decide +kernel))) (by decide +kernel)
theorem tw_1_87 : Cond.fieldLink "SortWorks$Gear" 9 "SortWorks$Gear" "linkCount" "I" ∈ sw_gw := p_mem (p_tb1 (List.mem_of_getElem? (i := 87) (by decide +kernel))) (by decide +kernel)
theorem tw_1_88 : Cond.fieldLink "SortWorks" 111 "SortWorks$Gear" "linkCount" "I" ∈ sw_gw := p_mem (p_tb1 (List.mem_of_getElem? (i := 88) (by decide +kernel))) (by decide +kernel)
theorem tw_1_89 : Cond.fieldLink "SortWorks$Works" 126 "SortWorks$Gear" "linkCount" "I" ∈ sw_gw := p_mem (p_tb1 (List.mem_of_getElem? (i := 89) (by decide +kernel))) (by decide +kernel)
theorem tw_1_90 : Cond.fieldLink "SortWorks$Step" 247 "SortWorks$Gear" "linkCount" "I" ∈ sw_gw := p_mem (p_tb1 (List.mem_of_getElem? (i := 90) (by decide +kernel))) (by decide +kernel)
theorem tw_1_91 : Cond.fieldLink "SortWorks$Gear" 15 "SortWorks$Gear" "links" "[I" ∈ sw_gw := p_mem (p_tb1 (List.mem_of_getElem? (i := 91) (by decide +kernel))) (by decide +kernel)
theorem tw_1_92 : Cond.fieldLink "SortWorks" 102 "SortWorks$Gear" "links" "[I" ∈ sw_gw := p_mem (p_tb1 (List.mem_of_getElem? (i := 92) (by decide +kernel))) (by decide +kernel)
theorem tw_1_93 : Cond.fieldLink "SortWorks$Works" 129 "SortWorks$Gear" "links" "[I" ∈ sw_gw := p_mem (p_tb1 (List.mem_of_getElem? (i := 93) (by decide +kernel))) (by decide +kernel)
theorem tw_1_94 : Cond.fieldLink "SortWorks$Gear" 19 "SortWorks$Gear" "sets" "[J" ∈ sw_gw := p_mem (p_tb1 (List.mem_of_getElem? (i := 94) (by decide +kernel))) (by decide +kernel)
theorem tw_1_95 : Cond.fieldLink "SortWorks$Gear" 50 "SortWorks$Gear" "side" "I" ∈ sw_gw := p_mem (p_tb1 (List.mem_of_getElem? (i := 95) (by decide +kernel))) (by decide +kernel)
theorem tw_1_96 : Cond.fieldLink "SortWorks$Step" 155 "SortWorks$Gear" "side" "I" ∈ sw_gw := p_mem (p_tb1 (List.mem_of_getElem? (i := 96) (by decide +kernel))) (by decide +kernel)
theorem tw_1_97 : Cond.fieldLink "SortWorks" 221 "SortWorks$Gear" "side" "I" ∈ sw_gw := p_mem (p_tb1 (List.mem_of_getElem? (i := 97) (by decide +kernel))) (by decide +kernel)
theorem tw_1_98 : Cond.fieldLink "SortWorks$Gear" 53 "SortWorks$Gear" "open" "Z" ∈ sw_gw := p_mem (p_tb1 (List.mem_of_getElem? (i := 98) (by decide +kernel))) (by decide +kernel)
theorem tw_1_99 : Cond.fieldLink "SortWorks$Step" 145 "SortWorks$Gear" "open" "Z" ∈ sw_gw := p_mem (p_tb1 (List.mem_of_getElem? (i := 99) (by decide +kernel))) (by decide +kernel)
theorem tw_1_100 : Cond.fieldLink "SortWorks" 217 "SortWorks$Gear" "open" "Z" ∈ sw_gw := p_mem (p_tb1 (List.mem_of_getElem? (i := 100) (by decide +kernel))) (by decide +kernel)
theorem tw_1_101 : Cond.fieldLink "SortWorks$Gear" 57 "SortWorks$Gear" "wait" "I" ∈ sw_gw := p_mem (p_tb1 (List.mem_of_getElem? (i := 101) (by decide +kernel))) (by decide +kernel)
theorem tw_1_102 : Cond.fieldLink "SortWorks$Step" 228 "SortWorks$Gear" "wait" "I" ∈ sw_gw := p_mem (p_tb1 (List.mem_of_getElem? (i := 102) (by decide +kernel))) (by decide +kernel)
theorem tw_1_103 : Cond.fieldLink "SortWorks" 244 "SortWorks$Gear" "wait" "I" ∈ sw_gw := p_mem (p_tb1 (List.mem_of_getElem? (i := 103) (by decide +kernel))) (by decide +kernel)
theorem tw_1_104 : Cond.fieldLink "SortWorks$Gear" 60 "SortWorks$Gear" "lamp" "I" ∈ sw_gw := p_mem (p_tb1 (List.mem_of_getElem? (i := 104) (by decide +kernel))) (by decide +kernel)
theorem tw_1_105 : Cond.fieldLink "SortWorks$Step" 225 "SortWorks$Gear" "lamp" "I" ∈ sw_gw := p_mem (p_tb1 (List.mem_of_getElem? (i := 105) (by decide +kernel))) (by decide +kernel)
theorem tw_1_106 : Cond.fieldLink "SortWorks$Gear" 63 "SortWorks$Gear" "came" "I" ∈ sw_gw := p_mem (p_tb1 (List.mem_of_getElem? (i := 106) (by decide +kernel))) (by decide +kernel)
theorem tw_1_107 : Cond.fieldLink "SortWorks$State" 122 "SortWorks$Gear" "came" "I" ∈ sw_gw := p_mem (p_tb1 (List.mem_of_getElem? (i := 107) (by decide +kernel))) (by decide +kernel)
theorem tw_1_108 : Cond.fieldLink "SortWorks$Step" 342 "SortWorks$Gear" "came" "I" ∈ sw_gw := p_mem (p_tb1 (List.mem_of_getElem? (i := 108) (by decide +kernel))) (by decide +kernel)
theorem tw_1_109 : Cond.fieldLink "SortWorks" 267 "SortWorks$Gear" "came" "I" ∈ sw_gw := p_mem (p_tb1 (List.mem_of_getElem? (i := 109) (by decide +kernel))) (by decide +kernel)
theorem tw_1_110 : Cond.fieldLink "SortWorks$Gear" 66 "SortWorks$Gear" "went" "I" ∈ sw_gw := p_mem (p_tb1 (List.mem_of_getElem? (i := 110) (by decide +kernel))) (by decide +kernel)
theorem tw_1_111 : Cond.fieldLink "SortWorks$State" 116 "SortWorks$Gear" "went" "I" ∈ sw_gw := p_mem (p_tb1 (List.mem_of_getElem? (i := 111) (by decide +kernel))) (by decide +kernel)
theorem tw_1_112 : Cond.fieldLink "SortWorks$Step" 345 "SortWorks$Gear" "went" "I" ∈ sw_gw := p_mem (p_tb1 (List.mem_of_getElem? (i := 112) (by decide +kernel))) (by decide +kernel)
theorem tw_1_113 : Cond.fieldLink "SortWorks" 270 "SortWorks$Gear" "went" "I" ∈ sw_gw := p_mem (p_tb1 (List.mem_of_getElem? (i := 113) (by decide +kernel))) (by decide +kernel)
theorem tw_1_114 : Cond.fieldLink "SortWorks$Gear" 69 "SortWorks$Gear" "findings" "I" ∈ sw_gw := p_mem (p_tb1 (List.mem_of_getElem? (i := 114) (by decide +kernel))) (by decide +kernel)
theorem tw_1_115 : Cond.fieldLink "SortWorks$Step" 109 "SortWorks$Gear" "findings" "I" ∈ sw_gw := p_mem (p_tb1 (List.mem_of_getElem? (i := 115) (by decide +kernel))) (by decide +kernel)
theorem tw_1_116 : Cond.fieldLink "SortWorks$Gear" 72 "SortWorks$Gear" "acts" "I" ∈ sw_gw := p_mem (p_tb1 (List.mem_of_getElem? (i := 116) (by decide +kernel))) (by decide +kernel)
theorem tw_1_117 : Cond.fieldLink "SortWorks$Step" 218 "SortWorks$Gear" "acts" "I" ∈ sw_gw := p_mem (p_tb1 (List.mem_of_getElem? (i := 117) (by decide +kernel))) (by decide +kernel)
theorem tw_1_118 : Cond.fieldLink "SortWorks$Gear" 75 "SortWorks$Gear" "releases" "I" ∈ sw_gw := p_mem (p_tb1 (List.mem_of_getElem? (i := 118) (by decide +kernel))) (by decide +kernel)
theorem tw_1_119 : Cond.fieldLink "SortWorks$Step" 158 "SortWorks$Gear" "releases" "I" ∈ sw_gw := p_mem (p_tb1 (List.mem_of_getElem? (i := 119) (by decide +kernel))) (by decide +kernel)
theorem tw_1_120 : Cond.fieldLink "SortWorks" 224 "SortWorks$Gear" "releases" "I" ∈ sw_gw := p_mem (p_tb1 (List.mem_of_getElem? (i := 120) (by decide +kernel))) (by decide +kernel)
theorem tw_1_121 : Cond.fieldLink "SortWorks$Gear" 23 "SortWorks$Gear" "last" "I" ∈ sw_gw := p_mem (p_tb1 (List.mem_of_getElem? (i := 121) (by decide +kernel))) (by decide +kernel)
theorem tw_1_122 : Cond.fieldLink "SortWorks$Step" 191 "SortWorks$Gear" "last" "I" ∈ sw_gw := p_mem (p_tb1 (List.mem_of_getElem? (i := 122) (by decide +kernel))) (by decide +kernel)
theorem tw_1_123 : Cond.fieldLink "SortWorks$Gear" 78 "SortWorks$Gear" "dial" "I" ∈ sw_gw := p_mem (p_tb1 (List.mem_of_getElem? (i := 123) (by decide +kernel))) (by decide +kernel)
theorem tw_1_124 : Cond.fieldLink "SortWorks$Step" 250 "SortWorks$Gear" "dial" "I" ∈ sw_gw := p_mem (p_tb1 (List.mem_of_getElem? (i := 124) (by decide +kernel))) (by decide +kernel)
theorem tw_1_125 : Cond.fieldLink "SortWorks$Gear" 26 "SortWorks$Gear" "slots" "[I" ∈ sw_gw := p_mem (p_tb1 (List.mem_of_getElem? (i := 125) (by decide +kernel))) (by decide +kernel)
theorem tw_1_126 : Cond.fieldLink "SortWorks$State" 79 "SortWorks$Gear" "slots" "[I" ∈ sw_gw := p_mem (p_tb1 (List.mem_of_getElem? (i := 126) (by decide +kernel))) (by decide +kernel)
theorem tw_1_127 : Cond.fieldLink "SortWorks$Step" 238 "SortWorks$Gear" "slots" "[I" ∈ sw_gw := p_mem (p_tb1 (List.mem_of_getElem? (i := 127) (by decide +kernel))) (by decide +kernel)
theorem tw_1_128 : Cond.fieldLink "SortWorks$Gear" 29 "SortWorks$Gear" "kept" "[I" ∈ sw_gw := p_mem (p_tb1 (List.mem_of_getElem? (i := 128) (by decide +kernel))) (by decide +kernel)
theorem tw_1_129 : Cond.fieldLink "SortWorks$Gear" 32 "SortWorks$Gear" "chosen" "I" ∈ sw_gw := p_mem (p_tb1 (List.mem_of_getElem? (i := 129) (by decide +kernel))) (by decide +kernel)
theorem tw_1_130 : Cond.fieldLink "SortWorks$Step" 161 "SortWorks$Gear" "chosen" "I" ∈ sw_gw := p_mem (p_tb1 (List.mem_of_getElem? (i := 130) (by decide +kernel))) (by decide +kernel)
theorem tw_1_172 : Cond.arrayClass .long ∈ sw_gw := p_mem (p_tb1 (List.mem_of_getElem? (i := 172) (by decide +kernel))) (by decide +kernel)
theorem tw_1_173 : Cond.instantiable "SortWorks$Parcel" 14 ∈ sw_gw := p_mem (p_tb1 (List.mem_of_getElem? (i := 173) (by decide +kernel))) (by decide +kernel)
theorem tw_1_174 : Cond.methodLink "SortWorks$State" 43 ⟨"SortWorks$Parcel", "<init>", "(I)V"⟩ ∈ sw_gw := p_mem (p_tb1 (List.mem_of_getElem? (i := 174) (by decide +kernel))) (by decide +kernel)
theorem tw_1_175 : Cond.instanceMethod ⟨"SortWorks$Parcel", "<init>", "(I)V"⟩ ∈ sw_gw := p_mem (p_tb1 (List.mem_of_getElem? (i := 175) (by decide +kernel))) (by decide +kernel)
theorem tw_1_177 : Cond.methodLink "SortWorks$Parcel" 5 ⟨"java/lang/Object", "<init>", "()V"⟩ ∈ sw_gw := p_mem (p_tb1 (List.mem_of_getElem? (i := 177) (by decide +kernel))) (by decide +kernel)
theorem tw_1_178 : Cond.fieldLink "SortWorks$Parcel" 21 "SortWorks$Parcel" "place" "I" ∈ sw_gw := p_mem (p_tb1 (List.mem_of_getElem? (i := 178) (by decide +kernel))) (by decide +kernel)
theorem tw_1_179 : Cond.fieldLink "SortWorks$State" 119 "SortWorks$Parcel" "place" "I" ∈ sw_gw := p_mem (p_tb1 (List.mem_of_getElem? (i := 179) (by decide +kernel))) (by decide +kernel)
theorem tw_1_180 : Cond.fieldLink "SortWorks$Step" 241 "SortWorks$Parcel" "place" "I" ∈ sw_gw := p_mem (p_tb1 (List.mem_of_getElem? (i := 180) (by decide +kernel))) (by decide +kernel)
theorem tw_1_181 : Cond.fieldLink "SortWorks$Parcel" 25 "SortWorks$Parcel" "number" "I" ∈ sw_gw := p_mem (p_tb1 (List.mem_of_getElem? (i := 181) (by decide +kernel))) (by decide +kernel)
theorem tw_1_182 : Cond.fieldLink "SortWorks$State" 74 "SortWorks$Parcel" "number" "I" ∈ sw_gw := p_mem (p_tb1 (List.mem_of_getElem? (i := 182) (by decide +kernel))) (by decide +kernel)
theorem tw_1_183 : Cond.fieldLink "SortWorks$Numbers" 30 "SortWorks$Parcel" "number" "I" ∈ sw_gw := p_mem (p_tb1 (List.mem_of_getElem? (i := 183) (by decide +kernel))) (by decide +kernel)
theorem tw_1_184 : Cond.fieldLink "SortWorks" 191 "SortWorks$Parcel" "number" "I" ∈ sw_gw := p_mem (p_tb1 (List.mem_of_getElem? (i := 184) (by decide +kernel))) (by decide +kernel)
theorem tw_1_185 : Cond.fieldLink "SortWorks$Step" 263 "SortWorks$Parcel" "number" "I" ∈ sw_gw := p_mem (p_tb1 (List.mem_of_getElem? (i := 185) (by decide +kernel))) (by decide +kernel)
theorem tw_1_186 : Cond.fieldLink "SortWorks$Parcel" 28 "SortWorks$Parcel" "weight" "I" ∈ sw_gw := p_mem (p_tb1 (List.mem_of_getElem? (i := 186) (by decide +kernel))) (by decide +kernel)
theorem tw_1_187 : Cond.fieldLink "SortWorks$State" 93 "SortWorks$Parcel" "weight" "I" ∈ sw_gw := p_mem (p_tb1 (List.mem_of_getElem? (i := 187) (by decide +kernel))) (by decide +kernel)
theorem tw_1_188 : Cond.fieldLink "SortWorks$Step" 272 "SortWorks$Parcel" "weight" "I" ∈ sw_gw := p_mem (p_tb1 (List.mem_of_getElem? (i := 188) (by decide +kernel))) (by decide +kernel)
theorem tw_1_189 : Cond.fieldLink "SortWorks" 378 "SortWorks$Parcel" "weight" "I" ∈ sw_gw := p_mem (p_tb1 (List.mem_of_getElem? (i := 189) (by decide +kernel))) (by decide +kernel)
theorem tw_1_190 : Cond.fieldLink "SortWorks$Parcel" 31 "SortWorks$Parcel" "size" "I" ∈ sw_gw := p_mem (p_tb1 (List.mem_of_getElem? (i := 190) (by decide +kernel))) (by decide +kernel)
theorem tw_1_191 : Cond.fieldLink "SortWorks$State" 96 "SortWorks$Parcel" "size" "I" ∈ sw_gw := p_mem (p_tb1 (List.mem_of_getElem? (i := 191) (by decide +kernel))) (by decide +kernel)
theorem tw_1_192 : Cond.fieldLink "SortWorks" 381 "SortWorks$Parcel" "size" "I" ∈ sw_gw := p_mem (p_tb1 (List.mem_of_getElem? (i := 192) (by decide +kernel))) (by decide +kernel)
theorem tw_1_193 : Cond.fieldLink "SortWorks$Parcel" 34 "SortWorks$Parcel" "target" "I" ∈ sw_gw := p_mem (p_tb1 (List.mem_of_getElem? (i := 193) (by decide +kernel))) (by decide +kernel)
theorem tw_1_194 : Cond.fieldLink "SortWorks$State" 99 "SortWorks$Parcel" "target" "I" ∈ sw_gw := p_mem (p_tb1 (List.mem_of_getElem? (i := 194) (by decide +kernel))) (by decide +kernel)
theorem tw_1_195 : Cond.fieldLink "SortWorks$Step" 256 "SortWorks$Parcel" "target" "I" ∈ sw_gw := p_mem (p_tb1 (List.mem_of_getElem? (i := 195) (by decide +kernel))) (by decide +kernel)
theorem tw_1_196 : Cond.fieldLink "SortWorks" 241 "SortWorks$Parcel" "target" "I" ∈ sw_gw := p_mem (p_tb1 (List.mem_of_getElem? (i := 196) (by decide +kernel))) (by decide +kernel)
theorem tw_1_197 : Cond.fieldLink "SortWorks$Parcel" 37 "SortWorks$Parcel" "gear" "I" ∈ sw_gw := p_mem (p_tb1 (List.mem_of_getElem? (i := 197) (by decide +kernel))) (by decide +kernel)
theorem tw_1_198 : Cond.fieldLink "SortWorks$State" 77 "SortWorks$Parcel" "gear" "I" ∈ sw_gw := p_mem (p_tb1 (List.mem_of_getElem? (i := 198) (by decide +kernel))) (by decide +kernel)
theorem tw_1_199 : Cond.fieldLink "SortWorks" 250 "SortWorks$Parcel" "gear" "I" ∈ sw_gw := p_mem (p_tb1 (List.mem_of_getElem? (i := 199) (by decide +kernel))) (by decide +kernel)
theorem tw_1_200 : Cond.fieldLink "SortWorks$Parcel" 40 "SortWorks$Parcel" "slot" "I" ∈ sw_gw := p_mem (p_tb1 (List.mem_of_getElem? (i := 200) (by decide +kernel))) (by decide +kernel)
theorem tw_1_201 : Cond.fieldLink "SortWorks$State" 82 "SortWorks$Parcel" "slot" "I" ∈ sw_gw := p_mem (p_tb1 (List.mem_of_getElem? (i := 201) (by decide +kernel))) (by decide +kernel)
theorem tw_1_202 : Cond.fieldLink "SortWorks$Step" 244 "SortWorks$Parcel" "slot" "I" ∈ sw_gw := p_mem (p_tb1 (List.mem_of_getElem? (i := 202) (by decide +kernel))) (by decide +kernel)
theorem tw_1_203 : Cond.fieldLink "SortWorks$Parcel" 43 "SortWorks$Parcel" "scanned" "Z" ∈ sw_gw := p_mem (p_tb1 (List.mem_of_getElem? (i := 203) (by decide +kernel))) (by decide +kernel)
theorem tw_1_204 : Cond.fieldLink "SortWorks$State" 123 "SortWorks$Parcel" "scanned" "Z" ∈ sw_gw := p_mem (p_tb1 (List.mem_of_getElem? (i := 204) (by decide +kernel))) (by decide +kernel)
theorem tw_1_205 : Cond.fieldLink "SortWorks$Step" 253 "SortWorks$Parcel" "scanned" "Z" ∈ sw_gw := p_mem (p_tb1 (List.mem_of_getElem? (i := 205) (by decide +kernel))) (by decide +kernel)
theorem tw_1_206 : Cond.fieldLink "SortWorks$Step" 64 "SortWorks$Parcel" "moved" "Z" ∈ sw_gw := p_mem (p_tb1 (List.mem_of_getElem? (i := 206) (by decide +kernel))) (by decide +kernel)
theorem tw_1_207 : Cond.fieldLink "SortWorks$Parcel" 47 "SortWorks$Parcel" "wayLength" "I" ∈ sw_gw := p_mem (p_tb1 (List.mem_of_getElem? (i := 207) (by decide +kernel))) (by decide +kernel)
theorem tw_1_208 : Cond.fieldLink "SortWorks$State" 102 "SortWorks$Parcel" "wayLength" "I" ∈ sw_gw := p_mem (p_tb1 (List.mem_of_getElem? (i := 208) (by decide +kernel))) (by decide +kernel)
theorem tw_1_209 : Cond.fieldLink "SortWorks" 309 "SortWorks$Parcel" "wayLength" "I" ∈ sw_gw := p_mem (p_tb1 (List.mem_of_getElem? (i := 209) (by decide +kernel))) (by decide +kernel)
theorem tw_1_210 : Cond.fieldLink "SortWorks$Parcel" 11 "SortWorks$Parcel" "way" "[I" ∈ sw_gw := p_mem (p_tb1 (List.mem_of_getElem? (i := 210) (by decide +kernel))) (by decide +kernel)
theorem tw_1_211 : Cond.fieldLink "SortWorks$State" 127 "SortWorks$Parcel" "way" "[I" ∈ sw_gw := p_mem (p_tb1 (List.mem_of_getElem? (i := 211) (by decide +kernel))) (by decide +kernel)
theorem tw_1_212 : Cond.fieldLink "SortWorks" 312 "SortWorks$Parcel" "way" "[I" ∈ sw_gw := p_mem (p_tb1 (List.mem_of_getElem? (i := 212) (by decide +kernel))) (by decide +kernel)
theorem tw_1_213 : Cond.fieldLink "SortWorks$Reading" 15 "SortWorks$Parcel" "labelLength" "I" ∈ sw_gw := p_mem (p_tb1 (List.mem_of_getElem? (i := 213) (by decide +kernel))) (by decide +kernel)
theorem tw_1_214 : Cond.fieldLink "SortWorks$Parcel" 50 "SortWorks$Parcel" "labelLength" "I" ∈ sw_gw := p_mem (p_tb1 (List.mem_of_getElem? (i := 214) (by decide +kernel))) (by decide +kernel)
theorem tw_1_215 : Cond.fieldLink "SortWorks$State" 105 "SortWorks$Parcel" "labelLength" "I" ∈ sw_gw := p_mem (p_tb1 (List.mem_of_getElem? (i := 215) (by decide +kernel))) (by decide +kernel)
theorem tw_1_216 : Cond.fieldLink "SortWorks" 210 "SortWorks$Parcel" "labelLength" "I" ∈ sw_gw := p_mem (p_tb1 (List.mem_of_getElem? (i := 216) (by decide +kernel))) (by decide +kernel)
theorem tw_1_217 : Cond.fieldLink "SortWorks$Parcel" 15 "SortWorks$Parcel" "label" "[I" ∈ sw_gw := p_mem (p_tb1 (List.mem_of_getElem? (i := 217) (by decide +kernel))) (by decide +kernel)
theorem tw_1_218 : Cond.fieldLink "SortWorks$Reading" 21 "SortWorks$Parcel" "label" "[I" ∈ sw_gw := p_mem (p_tb1 (List.mem_of_getElem? (i := 218) (by decide +kernel))) (by decide +kernel)
theorem tw_1_219 : Cond.fieldLink "SortWorks" 207 "SortWorks$Parcel" "label" "[I" ∈ sw_gw := p_mem (p_tb1 (List.mem_of_getElem? (i := 219) (by decide +kernel))) (by decide +kernel)
theorem tw_1_220 : Cond.fieldLink "SortWorks$Parcel" 18 "SortWorks$Parcel" "kept" "[I" ∈ sw_gw := p_mem (p_tb1 (List.mem_of_getElem? (i := 220) (by decide +kernel))) (by decide +kernel)
theorem tw_2_10 : Cond.fieldLink "SortWorks$State" 46 "SortWorks$State" "time" "I" ∈ sw_gw := p_mem (p_tb2 (List.mem_of_getElem? (i := 10) (by decide +kernel))) (by decide +kernel)
theorem tw_2_11 : Cond.fieldLink "SortWorks$Step" 54 "SortWorks$State" "time" "I" ∈ sw_gw := p_mem (p_tb2 (List.mem_of_getElem? (i := 11) (by decide +kernel))) (by decide +kernel)
theorem tw_2_12 : Cond.fieldLink "SortWorks" 277 "SortWorks$State" "time" "I" ∈ sw_gw := p_mem (p_tb2 (List.mem_of_getElem? (i := 12) (by decide +kernel))) (by decide +kernel)
theorem tw_2_13 : Cond.fieldLink "SortWorks$State" 50 "SortWorks$State" "came" "I" ∈ sw_gw := p_mem (p_tb2 (List.mem_of_getElem? (i := 13) (by decide +kernel))) (by decide +kernel)
theorem tw_2_14 : Cond.fieldLink "SortWorks" 364 "SortWorks$State" "came" "I" ∈ sw_gw := p_mem (p_tb2 (List.mem_of_getElem? (i := 14) (by decide +kernel))) (by decide +kernel)
theorem tw_2_15 : Cond.fieldLink "SortWorks$State" 53 "SortWorks$State" "inside" "I" ∈ sw_gw := p_mem (p_tb2 (List.mem_of_getElem? (i := 15) (by decide +kernel))) (by decide +kernel)
theorem tw_2_16 : Cond.fieldLink "SortWorks$Step" 356 "SortWorks$State" "inside" "I" ∈ sw_gw := p_mem (p_tb2 (List.mem_of_getElem? (i := 16) (by decide +kernel))) (by decide +kernel)
theorem tw_2_17 : Cond.fieldLink "SortWorks" 361 "SortWorks$State" "inside" "I" ∈ sw_gw := p_mem (p_tb2 (List.mem_of_getElem? (i := 17) (by decide +kernel))) (by decide +kernel)
theorem tw_2_18 : Cond.fieldLink "SortWorks$State" 56 "SortWorks$State" "given" "I" ∈ sw_gw := p_mem (p_tb2 (List.mem_of_getElem? (i := 18) (by decide +kernel))) (by decide +kernel)
theorem tw_2_19 : Cond.fieldLink "SortWorks$Numbers" 23 "SortWorks$State" "given" "I" ∈ sw_gw := p_mem (p_tb2 (List.mem_of_getElem? (i := 19) (by decide +kernel))) (by decide +kernel)
theorem tw_2_20 : Cond.fieldLink "SortWorks$Works" 91 "SortWorks$State" "given" "I" ∈ sw_gw := p_mem (p_tb2 (List.mem_of_getElem? (i := 20) (by decide +kernel))) (by decide +kernel)
theorem tw_2_21 : Cond.fieldLink "SortWorks$State" 13 "SortWorks$State" "gear" "[LSortWorks$Gear;" ∈ sw_gw := p_mem (p_tb2 (List.mem_of_getElem? (i := 21) (by decide +kernel))) (by decide +kernel)
theorem tw_2_22 : Cond.fieldLink "SortWorks$Works" 56 "SortWorks$State" "gear" "[LSortWorks$Gear;" ∈ sw_gw := p_mem (p_tb2 (List.mem_of_getElem? (i := 22) (by decide +kernel))) (by decide +kernel)
theorem tw_2_23 : Cond.fieldLink "SortWorks$Step" 82 "SortWorks$State" "gear" "[LSortWorks$Gear;" ∈ sw_gw := p_mem (p_tb2 (List.mem_of_getElem? (i := 23) (by decide +kernel))) (by decide +kernel)
theorem tw_2_24 : Cond.fieldLink "SortWorks" 81 "SortWorks$State" "gear" "[LSortWorks$Gear;" ∈ sw_gw := p_mem (p_tb2 (List.mem_of_getElem? (i := 24) (by decide +kernel))) (by decide +kernel)
theorem tw_2_25 : Cond.fieldLink "SortWorks$State" 19 "SortWorks$State" "parcels" "[LSortWorks$Parcel;" ∈ sw_gw := p_mem (p_tb2 (List.mem_of_getElem? (i := 25) (by decide +kernel))) (by decide +kernel)
theorem tw_2_26 : Cond.fieldLink "SortWorks$Step" 60 "SortWorks$State" "parcels" "[LSortWorks$Parcel;" ∈ sw_gw := p_mem (p_tb2 (List.mem_of_getElem? (i := 26) (by decide +kernel))) (by decide +kernel)
theorem tw_2_27 : Cond.fieldLink "SortWorks$Numbers" 26 "SortWorks$State" "parcels" "[LSortWorks$Parcel;" ∈ sw_gw := p_mem (p_tb2 (List.mem_of_getElem? (i := 27) (by decide +kernel))) (by decide +kernel)
theorem tw_2_28 : Cond.fieldLink "SortWorks$State" 23 "SortWorks$State" "used" "[I" ∈ sw_gw := p_mem (p_tb2 (List.mem_of_getElem? (i := 28) (by decide +kernel))) (by decide +kernel)
theorem tw_2_29 : Cond.fieldLink "SortWorks$Works" 82 "SortWorks$State" "used" "[I" ∈ sw_gw := p_mem (p_tb2 (List.mem_of_getElem? (i := 29) (by decide +kernel))) (by decide +kernel)
theorem tw_2_30 : Cond.fieldLink "SortWorks$Step" 287 "SortWorks$State" "used" "[I" ∈ sw_gw := p_mem (p_tb2 (List.mem_of_getElem? (i := 30) (by decide +kernel))) (by decide +kernel)
theorem tw_2_31 : Cond.fieldLink "SortWorks" 333 "SortWorks$State" "used" "[I" ∈ sw_gw := p_mem (p_tb2 (List.mem_of_getElem? (i := 31) (by decide +kernel))) (by decide +kernel)
theorem tw_2_32 : Cond.fieldLink "SortWorks$State" 32 "SortWorks$State" "findings" "LSortWorks$Log;" ∈ sw_gw := p_mem (p_tb2 (List.mem_of_getElem? (i := 32) (by decide +kernel))) (by decide +kernel)
theorem tw_2_33 : Cond.fieldLink "SortWorks$Step" 33 "SortWorks$State" "findings" "LSortWorks$Log;" ∈ sw_gw := p_mem (p_tb2 (List.mem_of_getElem? (i := 33) (by decide +kernel))) (by decide +kernel)
theorem tw_2_34 : Cond.fieldLink "SortWorks" 342 "SortWorks$State" "findings" "LSortWorks$Log;" ∈ sw_gw := p_mem (p_tb2 (List.mem_of_getElem? (i := 34) (by decide +kernel))) (by decide +kernel)
theorem tw_2_35 : Cond.fieldLink "SortWorks$State" 36 "SortWorks$State" "outs" "LSortWorks$Log;" ∈ sw_gw := p_mem (p_tb2 (List.mem_of_getElem? (i := 35) (by decide +kernel))) (by decide +kernel)
theorem tw_2_36 : Cond.fieldLink "SortWorks$Step" 348 "SortWorks$State" "outs" "LSortWorks$Log;" ∈ sw_gw := p_mem (p_tb2 (List.mem_of_getElem? (i := 36) (by decide +kernel))) (by decide +kernel)
theorem tw_2_37 : Cond.fieldLink "SortWorks" 318 "SortWorks$State" "outs" "LSortWorks$Log;" ∈ sw_gw := p_mem (p_tb2 (List.mem_of_getElem? (i := 37) (by decide +kernel))) (by decide +kernel)
theorem tw_2_38 : Cond.fieldLink "SortWorks$State" 39 "SortWorks$State" "kept" "[I" ∈ sw_gw := p_mem (p_tb2 (List.mem_of_getElem? (i := 38) (by decide +kernel))) (by decide +kernel)
theorem tw_2_60 : Cond.classLink "SortWorks$Works" 18 "SortWorks$Rules" ∈ sw_gw := p_mem (p_tb2 (List.mem_of_getElem? (i := 60) (by decide +kernel))) (by decide +kernel)
theorem tw_2_61 : Cond.instantiable "SortWorks$Rules" 9 ∈ sw_gw := p_mem (p_tb2 (List.mem_of_getElem? (i := 61) (by decide +kernel))) (by decide +kernel)
theorem tw_2_63 : Cond.instanceMethod ⟨"SortWorks$Rules", "<init>", "()V"⟩ ∈ sw_gw := p_mem (p_tb2 (List.mem_of_getElem? (i := 63) (by decide +kernel))) (by decide +kernel)
theorem tw_2_65 : Cond.methodLink "SortWorks$Rules" 3 ⟨"java/lang/Object", "<init>", "()V"⟩ ∈ sw_gw := p_mem (p_tb2 (List.mem_of_getElem? (i := 65) (by decide +kernel))) (by decide +kernel)
theorem tw_2_66 : Cond.fieldLink "SortWorks$Rules" 33 "SortWorks$Rules" "count" "I" ∈ sw_gw := p_mem (p_tb2 (List.mem_of_getElem? (i := 66) (by decide +kernel))) (by decide +kernel)
theorem tw_2_67 : Cond.fieldLink "SortWorks$Judge" 36 "SortWorks$Rules" "count" "I" ∈ sw_gw := p_mem (p_tb2 (List.mem_of_getElem? (i := 67) (by decide +kernel))) (by decide +kernel)
theorem tw_2_68 : Cond.fieldLink "SortWorks" 162 "SortWorks$Rules" "count" "I" ∈ sw_gw := p_mem (p_tb2 (List.mem_of_getElem? (i := 68) (by decide +kernel))) (by decide +kernel)
theorem tw_2_69 : Cond.fieldLink "SortWorks$Step" 281 "SortWorks$Rules" "count" "I" ∈ sw_gw := p_mem (p_tb2 (List.mem_of_getElem? (i := 69) (by decide +kernel))) (by decide +kernel)
theorem tw_2_70 : Cond.fieldLink "SortWorks$Rules" 9 "SortWorks$Rules" "tells" "[I" ∈ sw_gw := p_mem (p_tb2 (List.mem_of_getElem? (i := 70) (by decide +kernel))) (by decide +kernel)
theorem tw_2_71 : Cond.fieldLink "SortWorks$Judge" 73 "SortWorks$Rules" "tells" "[I" ∈ sw_gw := p_mem (p_tb2 (List.mem_of_getElem? (i := 71) (by decide +kernel))) (by decide +kernel)
theorem tw_2_72 : Cond.fieldLink "SortWorks$Step" 290 "SortWorks$Rules" "tells" "[I" ∈ sw_gw := p_mem (p_tb2 (List.mem_of_getElem? (i := 72) (by decide +kernel))) (by decide +kernel)
theorem tw_2_73 : Cond.fieldLink "SortWorks" 327 "SortWorks$Rules" "tells" "[I" ∈ sw_gw := p_mem (p_tb2 (List.mem_of_getElem? (i := 73) (by decide +kernel))) (by decide +kernel)
theorem tw_2_74 : Cond.fieldLink "SortWorks$Rules" 15 "SortWorks$Rules" "testCounts" "[I" ∈ sw_gw := p_mem (p_tb2 (List.mem_of_getElem? (i := 74) (by decide +kernel))) (by decide +kernel)
theorem tw_2_75 : Cond.fieldLink "SortWorks$Judge" 39 "SortWorks$Rules" "testCounts" "[I" ∈ sw_gw := p_mem (p_tb2 (List.mem_of_getElem? (i := 75) (by decide +kernel))) (by decide +kernel)
theorem tw_2_76 : Cond.fieldLink "SortWorks$Step" 293 "SortWorks$Rules" "testCounts" "[I" ∈ sw_gw := p_mem (p_tb2 (List.mem_of_getElem? (i := 76) (by decide +kernel))) (by decide +kernel)
theorem tw_2_77 : Cond.fieldLink "SortWorks" 330 "SortWorks$Rules" "testCounts" "[I" ∈ sw_gw := p_mem (p_tb2 (List.mem_of_getElem? (i := 77) (by decide +kernel))) (by decide +kernel)
theorem tw_2_78 : Cond.fieldLink "SortWorks$Rules" 18 "SortWorks$Rules" "subjects" "[I" ∈ sw_gw := p_mem (p_tb2 (List.mem_of_getElem? (i := 78) (by decide +kernel))) (by decide +kernel)
theorem tw_2_79 : Cond.fieldLink "SortWorks$Judge" 58 "SortWorks$Rules" "subjects" "[I" ∈ sw_gw := p_mem (p_tb2 (List.mem_of_getElem? (i := 79) (by decide +kernel))) (by decide +kernel)
theorem tw_2_80 : Cond.fieldLink "SortWorks$Step" 296 "SortWorks$Rules" "subjects" "[I" ∈ sw_gw := p_mem (p_tb2 (List.mem_of_getElem? (i := 80) (by decide +kernel))) (by decide +kernel)
theorem tw_2_81 : Cond.fieldLink "SortWorks$Rules" 21 "SortWorks$Rules" "quotients" "[I" ∈ sw_gw := p_mem (p_tb2 (List.mem_of_getElem? (i := 81) (by decide +kernel))) (by decide +kernel)
theorem tw_2_82 : Cond.fieldLink "SortWorks$Judge" 61 "SortWorks$Rules" "quotients" "[I" ∈ sw_gw := p_mem (p_tb2 (List.mem_of_getElem? (i := 82) (by decide +kernel))) (by decide +kernel)
theorem tw_2_83 : Cond.fieldLink "SortWorks$Step" 299 "SortWorks$Rules" "quotients" "[I" ∈ sw_gw := p_mem (p_tb2 (List.mem_of_getElem? (i := 83) (by decide +kernel))) (by decide +kernel)
theorem tw_2_84 : Cond.fieldLink "SortWorks$Rules" 24 "SortWorks$Rules" "signs" "[I" ∈ sw_gw := p_mem (p_tb2 (List.mem_of_getElem? (i := 84) (by decide +kernel))) (by decide +kernel)
theorem tw_2_85 : Cond.fieldLink "SortWorks$Judge" 67 "SortWorks$Rules" "signs" "[I" ∈ sw_gw := p_mem (p_tb2 (List.mem_of_getElem? (i := 85) (by decide +kernel))) (by decide +kernel)
theorem tw_2_86 : Cond.fieldLink "SortWorks$Step" 317 "SortWorks$Rules" "signs" "[I" ∈ sw_gw := p_mem (p_tb2 (List.mem_of_getElem? (i := 86) (by decide +kernel))) (by decide +kernel)
theorem tw_2_87 : Cond.fieldLink "SortWorks$Rules" 27 "SortWorks$Rules" "bounds" "[I" ∈ sw_gw := p_mem (p_tb2 (List.mem_of_getElem? (i := 87) (by decide +kernel))) (by decide +kernel)
theorem tw_2_88 : Cond.fieldLink "SortWorks$Judge" 70 "SortWorks$Rules" "bounds" "[I" ∈ sw_gw := p_mem (p_tb2 (List.mem_of_getElem? (i := 88) (by decide +kernel))) (by decide +kernel)
theorem tw_2_89 : Cond.fieldLink "SortWorks$Step" 308 "SortWorks$Rules" "bounds" "[I" ∈ sw_gw := p_mem (p_tb2 (List.mem_of_getElem? (i := 89) (by decide +kernel))) (by decide +kernel)
theorem tw_2_90 : Cond.fieldLink "SortWorks$Rules" 30 "SortWorks$Rules" "text" "[I" ∈ sw_gw := p_mem (p_tb2 (List.mem_of_getElem? (i := 90) (by decide +kernel))) (by decide +kernel)
theorem tw_2_91 : Cond.fieldLink "SortWorks$Judge" 76 "SortWorks$Rules" "text" "[I" ∈ sw_gw := p_mem (p_tb2 (List.mem_of_getElem? (i := 91) (by decide +kernel))) (by decide +kernel)
theorem tw_2_92 : Cond.fieldLink "SortWorks" 339 "SortWorks$Rules" "text" "[I" ∈ sw_gw := p_mem (p_tb2 (List.mem_of_getElem? (i := 92) (by decide +kernel))) (by decide +kernel)
theorem tw_2_93 : Cond.fieldLink "SortWorks$Judge" 29 "SortWorks$Rules" "textLength" "I" ∈ sw_gw := p_mem (p_tb2 (List.mem_of_getElem? (i := 93) (by decide +kernel))) (by decide +kernel)
theorem tw_2_94 : Cond.fieldLink "SortWorks$Rules" 43 "SortWorks$Rules" "textLength" "I" ∈ sw_gw := p_mem (p_tb2 (List.mem_of_getElem? (i := 94) (by decide +kernel))) (by decide +kernel)
theorem tw_2_95 : Cond.fieldLink "SortWorks" 336 "SortWorks$Rules" "textLength" "I" ∈ sw_gw := p_mem (p_tb2 (List.mem_of_getElem? (i := 95) (by decide +kernel))) (by decide +kernel)
theorem tw_2_115 : Cond.classLink "SortWorks$Works" 25 "[[I" ∈ sw_gw := p_mem (p_tb2 (List.mem_of_getElem? (i := 115) (by decide +kernel))) (by decide +kernel)
theorem tw_2_117 : Cond.fieldLink "SortWorks$Works" 49 "SortWorks$Works" "number" "I" ∈ sw_gw := p_mem (p_tb2 (List.mem_of_getElem? (i := 117) (by decide +kernel))) (by decide +kernel)
theorem tw_2_118 : Cond.fieldLink "SortWorks" 64 "SortWorks$Works" "number" "I" ∈ sw_gw := p_mem (p_tb2 (List.mem_of_getElem? (i := 118) (by decide +kernel))) (by decide +kernel)
theorem tw_2_119 : Cond.fieldLink "SortWorks$Step" 351 "SortWorks$Works" "number" "I" ∈ sw_gw := p_mem (p_tb2 (List.mem_of_getElem? (i := 119) (by decide +kernel))) (by decide +kernel)
theorem tw_2_120 : Cond.fieldLink "SortWorks$Works" 12 "SortWorks$Works" "now" "LSortWorks$State;" ∈ sw_gw := p_mem (p_tb2 (List.mem_of_getElem? (i := 120) (by decide +kernel))) (by decide +kernel)
theorem tw_2_121 : Cond.fieldLink "SortWorks$Step" 22 "SortWorks$Works" "now" "LSortWorks$State;" ∈ sw_gw := p_mem (p_tb2 (List.mem_of_getElem? (i := 121) (by decide +kernel))) (by decide +kernel)
theorem tw_2_122 : Cond.fieldLink "SortWorks" 77 "SortWorks$Works" "now" "LSortWorks$State;" ∈ sw_gw := p_mem (p_tb2 (List.mem_of_getElem? (i := 122) (by decide +kernel))) (by decide +kernel)
theorem tw_2_123 : Cond.fieldLink "SortWorks$Works" 53 "SortWorks$Works" "gearCount" "I" ∈ sw_gw := p_mem (p_tb2 (List.mem_of_getElem? (i := 123) (by decide +kernel))) (by decide +kernel)
theorem tw_2_124 : Cond.fieldLink "SortWorks$Step" 79 "SortWorks$Works" "gearCount" "I" ∈ sw_gw := p_mem (p_tb2 (List.mem_of_getElem? (i := 124) (by decide +kernel))) (by decide +kernel)
theorem tw_2_125 : Cond.fieldLink "SortWorks" 74 "SortWorks$Works" "gearCount" "I" ∈ sw_gw := p_mem (p_tb2 (List.mem_of_getElem? (i := 125) (by decide +kernel))) (by decide +kernel)
theorem tw_2_126 : Cond.fieldLink "SortWorks$Works" 21 "SortWorks$Works" "rules" "LSortWorks$Rules;" ∈ sw_gw := p_mem (p_tb2 (List.mem_of_getElem? (i := 126) (by decide +kernel))) (by decide +kernel)
theorem tw_2_127 : Cond.fieldLink "SortWorks" 161 "SortWorks$Works" "rules" "LSortWorks$Rules;" ∈ sw_gw := p_mem (p_tb2 (List.mem_of_getElem? (i := 127) (by decide +kernel))) (by decide +kernel)
theorem tw_2_128 : Cond.fieldLink "SortWorks$Step" 277 "SortWorks$Works" "rules" "LSortWorks$Rules;" ∈ sw_gw := p_mem (p_tb2 (List.mem_of_getElem? (i := 128) (by decide +kernel))) (by decide +kernel)
theorem tw_2_129 : Cond.fieldLink "SortWorks$Works" 27 "SortWorks$Works" "plans" "[[I" ∈ sw_gw := p_mem (p_tb2 (List.mem_of_getElem? (i := 129) (by decide +kernel))) (by decide +kernel)
theorem tw_2_130 : Cond.fieldLink "SortWorks$Step" 114 "SortWorks$Works" "plans" "[[I" ∈ sw_gw := p_mem (p_tb2 (List.mem_of_getElem? (i := 130) (by decide +kernel))) (by decide +kernel)
theorem tw_2_131 : Cond.fieldLink "SortWorks" 170 "SortWorks$Works" "plans" "[[I" ∈ sw_gw := p_mem (p_tb2 (List.mem_of_getElem? (i := 131) (by decide +kernel))) (by decide +kernel)
theorem tw_2_132 : Cond.fieldLink "SortWorks$Works" 30 "SortWorks$Works" "planLengths" "[I" ∈ sw_gw := p_mem (p_tb2 (List.mem_of_getElem? (i := 132) (by decide +kernel))) (by decide +kernel)
theorem tw_2_133 : Cond.fieldLink "SortWorks$Step" 118 "SortWorks$Works" "planLengths" "[I" ∈ sw_gw := p_mem (p_tb2 (List.mem_of_getElem? (i := 133) (by decide +kernel))) (by decide +kernel)
theorem tw_2_134 : Cond.fieldLink "SortWorks" 174 "SortWorks$Works" "planLengths" "[I" ∈ sw_gw := p_mem (p_tb2 (List.mem_of_getElem? (i := 134) (by decide +kernel))) (by decide +kernel)
theorem tw_2_135 : Cond.fieldLink "SortWorks$Step" 70 "SortWorks$Works" "planCount" "I" ∈ sw_gw := p_mem (p_tb2 (List.mem_of_getElem? (i := 135) (by decide +kernel))) (by decide +kernel)
theorem tw_2_136 : Cond.fieldLink "SortWorks$Works" 70 "SortWorks$Works" "planCount" "I" ∈ sw_gw := p_mem (p_tb2 (List.mem_of_getElem? (i := 136) (by decide +kernel))) (by decide +kernel)
theorem tw_2_137 : Cond.fieldLink "SortWorks" 167 "SortWorks$Works" "planCount" "I" ∈ sw_gw := p_mem (p_tb2 (List.mem_of_getElem? (i := 137) (by decide +kernel))) (by decide +kernel)
theorem tw_2_138 : Cond.fieldLink "SortWorks$Works" 34 "SortWorks$Works" "groups" "[[I" ∈ sw_gw := p_mem (p_tb2 (List.mem_of_getElem? (i := 138) (by decide +kernel))) (by decide +kernel)
theorem tw_2_139 : Cond.fieldLink "SortWorks" 261 "SortWorks$Works" "groups" "[[I" ∈ sw_gw := p_mem (p_tb2 (List.mem_of_getElem? (i := 139) (by decide +kernel))) (by decide +kernel)
theorem tw_2_140 : Cond.fieldLink "SortWorks$Works" 37 "SortWorks$Works" "groupTypes" "[I" ∈ sw_gw := p_mem (p_tb2 (List.mem_of_getElem? (i := 140) (by decide +kernel))) (by decide +kernel)
theorem tw_2_141 : Cond.fieldLink "SortWorks" 255 "SortWorks$Works" "groupTypes" "[I" ∈ sw_gw := p_mem (p_tb2 (List.mem_of_getElem? (i := 141) (by decide +kernel))) (by decide +kernel)
theorem tw_2_142 : Cond.fieldLink "SortWorks$Works" 40 "SortWorks$Works" "groupSizes" "[I" ∈ sw_gw := p_mem (p_tb2 (List.mem_of_getElem? (i := 142) (by decide +kernel))) (by decide +kernel)
theorem tw_2_143 : Cond.fieldLink "SortWorks" 258 "SortWorks$Works" "groupSizes" "[I" ∈ sw_gw := p_mem (p_tb2 (List.mem_of_getElem? (i := 143) (by decide +kernel))) (by decide +kernel)
theorem tw_2_144 : Cond.fieldLink "SortWorks$Works" 43 "SortWorks$Works" "trace" "[I" ∈ sw_gw := p_mem (p_tb2 (List.mem_of_getElem? (i := 144) (by decide +kernel))) (by decide +kernel)
theorem tw_2_145 : Cond.fieldLink "SortWorks$Step" 111 "SortWorks$Works" "trace" "[I" ∈ sw_gw := p_mem (p_tb2 (List.mem_of_getElem? (i := 145) (by decide +kernel))) (by decide +kernel)
theorem tw_2_146 : Cond.fieldLink "SortWorks" 348 "SortWorks$Works" "trace" "[I" ∈ sw_gw := p_mem (p_tb2 (List.mem_of_getElem? (i := 146) (by decide +kernel))) (by decide +kernel)
theorem tw_2_147 : Cond.fieldLink "SortWorks$Step" 57 "SortWorks$Works" "traced" "I" ∈ sw_gw := p_mem (p_tb2 (List.mem_of_getElem? (i := 147) (by decide +kernel))) (by decide +kernel)
theorem tw_2_148 : Cond.fieldLink "SortWorks$Works" 113 "SortWorks$Works" "traced" "I" ∈ sw_gw := p_mem (p_tb2 (List.mem_of_getElem? (i := 148) (by decide +kernel))) (by decide +kernel)
theorem tw_2_149 : Cond.fieldLink "SortWorks" 345 "SortWorks$Works" "traced" "I" ∈ sw_gw := p_mem (p_tb2 (List.mem_of_getElem? (i := 149) (by decide +kernel))) (by decide +kernel)
theorem tw_2_150 : Cond.fieldLink "SortWorks$Works" 94 "SortWorks$Works" "keptNext" "I" ∈ sw_gw := p_mem (p_tb2 (List.mem_of_getElem? (i := 150) (by decide +kernel))) (by decide +kernel)
theorem tw_2_151 : Cond.fieldLink "SortWorks$Works" 101 "SortWorks$Works" "keptCount" "I" ∈ sw_gw := p_mem (p_tb2 (List.mem_of_getElem? (i := 151) (by decide +kernel))) (by decide +kernel)
theorem tw_2_152 : Cond.fieldLink "SortWorks" 291 "SortWorks$Works" "keptCount" "I" ∈ sw_gw := p_mem (p_tb2 (List.mem_of_getElem? (i := 152) (by decide +kernel))) (by decide +kernel)
theorem tw_2_153 : Cond.fieldLink "SortWorks$Works" 46 "SortWorks$Works" "fewest" "[I" ∈ sw_gw := p_mem (p_tb2 (List.mem_of_getElem? (i := 153) (by decide +kernel))) (by decide +kernel)
theorem tw_2_154 : Cond.fieldLink "SortWorks" 357 "SortWorks$Works" "fewest" "[I" ∈ sw_gw := p_mem (p_tb2 (List.mem_of_getElem? (i := 154) (by decide +kernel))) (by decide +kernel)
theorem tw_2_186 : Cond.classLink "SortWorks" 22 "SortWorks$Numbers" ∈ sw_gw := p_mem (p_tb2 (List.mem_of_getElem? (i := 186) (by decide +kernel))) (by decide +kernel)
theorem tw_2_187 : Cond.instantiable "SortWorks$Numbers" 2 ∈ sw_gw := p_mem (p_tb2 (List.mem_of_getElem? (i := 187) (by decide +kernel))) (by decide +kernel)
theorem tw_2_189 : Cond.instanceMethod ⟨"SortWorks$Numbers", "<init>", "()V"⟩ ∈ sw_gw := p_mem (p_tb2 (List.mem_of_getElem? (i := 189) (by decide +kernel))) (by decide +kernel)
theorem tw_2_191 : Cond.methodLink "SortWorks$Numbers" 3 ⟨"java/lang/Object", "<init>", "()V"⟩ ∈ sw_gw := p_mem (p_tb2 (List.mem_of_getElem? (i := 191) (by decide +kernel))) (by decide +kernel)
theorem tw_2_192 : Cond.fieldLink "SortWorks$Numbers" 9 "SortWorks$Numbers" "where" "[I" ∈ sw_gw := p_mem (p_tb2 (List.mem_of_getElem? (i := 192) (by decide +kernel))) (by decide +kernel)
theorem tw_2_193 : Cond.fieldLink "SortWorks" 315 "SortWorks$Numbers" "where" "[I" ∈ sw_gw := p_mem (p_tb2 (List.mem_of_getElem? (i := 193) (by decide +kernel))) (by decide +kernel)
theorem tw_2_194 : Cond.fieldLink "SortWorks$Numbers" 15 "SortWorks$Numbers" "given" "I" ∈ sw_gw := p_mem (p_tb2 (List.mem_of_getElem? (i := 194) (by decide +kernel))) (by decide +kernel)
theorem tw_2_195 : Cond.fieldLink "SortWorks$Step" 45 "SortWorks$Numbers" "given" "I" ∈ sw_gw := p_mem (p_tb2 (List.mem_of_getElem? (i := 195) (by decide +kernel))) (by decide +kernel)
theorem tw_2_196 : Cond.fieldLink "SortWorks" 197 "SortWorks$Numbers" "given" "I" ∈ sw_gw := p_mem (p_tb2 (List.mem_of_getElem? (i := 196) (by decide +kernel))) (by decide +kernel)
theorem tw_2_202 : Cond.classLink "SortWorks" 29 "SortWorks$Step" ∈ sw_gw := p_mem (p_tb2 (List.mem_of_getElem? (i := 202) (by decide +kernel))) (by decide +kernel)
theorem tw_2_203 : Cond.instantiable "SortWorks$Step" 5 ∈ sw_gw := p_mem (p_tb2 (List.mem_of_getElem? (i := 203) (by decide +kernel))) (by decide +kernel)
theorem tw_2_205 : Cond.instanceMethod ⟨"SortWorks$Step", "<init>", "()V"⟩ ∈ sw_gw := p_mem (p_tb2 (List.mem_of_getElem? (i := 205) (by decide +kernel))) (by decide +kernel)
theorem tw_2_207 : Cond.methodLink "SortWorks$Step" 3 ⟨"java/lang/Object", "<init>", "()V"⟩ ∈ sw_gw := p_mem (p_tb2 (List.mem_of_getElem? (i := 207) (by decide +kernel))) (by decide +kernel)
theorem tw_2_208 : Cond.classLink "SortWorks$Step" 9 "SortWorks$Reading" ∈ sw_gw := p_mem (p_tb2 (List.mem_of_getElem? (i := 208) (by decide +kernel))) (by decide +kernel)
theorem tw_2_209 : Cond.instantiable "SortWorks$Reading" 5 ∈ sw_gw := p_mem (p_tb2 (List.mem_of_getElem? (i := 209) (by decide +kernel))) (by decide +kernel)
theorem tw_2_211 : Cond.instanceMethod ⟨"SortWorks$Reading", "<init>", "()V"⟩ ∈ sw_gw := p_mem (p_tb2 (List.mem_of_getElem? (i := 211) (by decide +kernel))) (by decide +kernel)
theorem tw_2_213 : Cond.methodLink "SortWorks$Reading" 3 ⟨"java/lang/Object", "<init>", "()V"⟩ ∈ sw_gw := p_mem (p_tb2 (List.mem_of_getElem? (i := 213) (by decide +kernel))) (by decide +kernel)
theorem tw_2_214 : Cond.fieldLink "SortWorks$Reading" 31 "SortWorks$Reading" "bad" "Z" ∈ sw_gw := p_mem (p_tb2 (List.mem_of_getElem? (i := 214) (by decide +kernel))) (by decide +kernel)
theorem tw_2_215 : Cond.fieldLink "SortWorks$Step" 266 "SortWorks$Reading" "bad" "Z" ∈ sw_gw := p_mem (p_tb2 (List.mem_of_getElem? (i := 215) (by decide +kernel))) (by decide +kernel)
theorem tw_2_216 : Cond.fieldLink "SortWorks$Reading" 35 "SortWorks$Reading" "place" "I" ∈ sw_gw := p_mem (p_tb2 (List.mem_of_getElem? (i := 216) (by decide +kernel))) (by decide +kernel)
theorem tw_2_217 : Cond.fieldLink "SortWorks$Step" 320 "SortWorks$Reading" "place" "I" ∈ sw_gw := p_mem (p_tb2 (List.mem_of_getElem? (i := 217) (by decide +kernel))) (by decide +kernel)
theorem tw_2_218 : Cond.fieldLink "SortWorks$Reading" 38 "SortWorks$Reading" "weight" "I" ∈ sw_gw := p_mem (p_tb2 (List.mem_of_getElem? (i := 218) (by decide +kernel))) (by decide +kernel)
theorem tw_2_219 : Cond.fieldLink "SortWorks$Step" 269 "SortWorks$Reading" "weight" "I" ∈ sw_gw := p_mem (p_tb2 (List.mem_of_getElem? (i := 219) (by decide +kernel))) (by decide +kernel)
theorem tw_2_220 : Cond.fieldLink "SortWorks$Reading" 41 "SortWorks$Reading" "size" "I" ∈ sw_gw := p_mem (p_tb2 (List.mem_of_getElem? (i := 220) (by decide +kernel))) (by decide +kernel)
theorem tw_2_221 : Cond.fieldLink "SortWorks$Step" 321 "SortWorks$Reading" "size" "I" ∈ sw_gw := p_mem (p_tb2 (List.mem_of_getElem? (i := 221) (by decide +kernel))) (by decide +kernel)
theorem tw_2_222 : Cond.fieldLink "SortWorks$Reading" 9 "SortWorks$Reading" "digits" "[I" ∈ sw_gw := p_mem (p_tb2 (List.mem_of_getElem? (i := 222) (by decide +kernel))) (by decide +kernel)
theorem tw_2_234 : Cond.fieldLink "SortWorks$Step" 12 "SortWorks$Step" "reading" "LSortWorks$Reading;" ∈ sw_gw := p_mem (p_tb2 (List.mem_of_getElem? (i := 234) (by decide +kernel))) (by decide +kernel)
theorem tw_2_235 : Cond.fieldLink "SortWorks$Step" 29 "SortWorks$Step" "numbers" "LSortWorks$Numbers;" ∈ sw_gw := p_mem (p_tb2 (List.mem_of_getElem? (i := 235) (by decide +kernel))) (by decide +kernel)
theorem tw_2_236 : Cond.fieldLink "SortWorks$Step" 18 "SortWorks$Step" "works" "LSortWorks$Works;" ∈ sw_gw := p_mem (p_tb2 (List.mem_of_getElem? (i := 236) (by decide +kernel))) (by decide +kernel)
theorem tw_2_237 : Cond.fieldLink "SortWorks$Step" 28 "SortWorks$Step" "now" "LSortWorks$State;" ∈ sw_gw := p_mem (p_tb2 (List.mem_of_getElem? (i := 237) (by decide +kernel))) (by decide +kernel)
theorem tw_2_238 : Cond.fieldLink "SortWorks$Step" 106 "SortWorks$Step" "found" "Z" ∈ sw_gw := p_mem (p_tb2 (List.mem_of_getElem? (i := 238) (by decide +kernel))) (by decide +kernel)
theorem tw_3_10 : Cond.classLink "SortWorks" 36 "SortWorks$Judge" ∈ sw_gw := p_mem (p_tb3 (List.mem_of_getElem? (i := 10) (by decide +kernel))) (by decide +kernel)
theorem tw_3_11 : Cond.instantiable "SortWorks$Judge" 4 ∈ sw_gw := p_mem (p_tb3 (List.mem_of_getElem? (i := 11) (by decide +kernel))) (by decide +kernel)
theorem tw_3_13 : Cond.instanceMethod ⟨"SortWorks$Judge", "<init>", "()V"⟩ ∈ sw_gw := p_mem (p_tb3 (List.mem_of_getElem? (i := 13) (by decide +kernel))) (by decide +kernel)
theorem tw_3_15 : Cond.methodLink "SortWorks$Judge" 3 ⟨"java/lang/Object", "<init>", "()V"⟩ ∈ sw_gw := p_mem (p_tb3 (List.mem_of_getElem? (i := 15) (by decide +kernel))) (by decide +kernel)
theorem tw_3_16 : Cond.classLink "SortWorks$Judge" 9 "SortWorks$Rules" ∈ sw_gw := p_mem (p_tb3 (List.mem_of_getElem? (i := 16) (by decide +kernel))) (by decide +kernel)
theorem tw_3_18 : Cond.fieldLink "SortWorks$Judge" 12 "SortWorks$Judge" "rules" "LSortWorks$Rules;" ∈ sw_gw := p_mem (p_tb3 (List.mem_of_getElem? (i := 18) (by decide +kernel))) (by decide +kernel)
theorem tw_3_19 : Cond.fieldLink "SortWorks" 153 "SortWorks$Judge" "rules" "LSortWorks$Rules;" ∈ sw_gw := p_mem (p_tb3 (List.mem_of_getElem? (i := 19) (by decide +kernel))) (by decide +kernel)
theorem tw_3_20 : Cond.fieldLink "SortWorks$Judge" 18 "SortWorks$Judge" "letters" "[I" ∈ sw_gw := p_mem (p_tb3 (List.mem_of_getElem? (i := 20) (by decide +kernel))) (by decide +kernel)
theorem tw_3_21 : Cond.fieldLink "SortWorks$Judge" 22 "SortWorks$Judge" "length" "I" ∈ sw_gw := p_mem (p_tb3 (List.mem_of_getElem? (i := 21) (by decide +kernel))) (by decide +kernel)
theorem tw_3_22 : Cond.fieldLink "SortWorks$Judge" 26 "SortWorks$Judge" "at" "I" ∈ sw_gw := p_mem (p_tb3 (List.mem_of_getElem? (i := 22) (by decide +kernel))) (by decide +kernel)
theorem tw_3_32 : Cond.fieldLink "SortWorks" 12 "SortWorks" "works" "[LSortWorks$Works;" ∈ sw_gw := p_mem (p_tb3 (List.mem_of_getElem? (i := 32) (by decide +kernel))) (by decide +kernel)
theorem tw_3_33 : Cond.fieldLink "SortWorks" 18 "SortWorks" "hand" "LSortWorks$Works;" ∈ sw_gw := p_mem (p_tb3 (List.mem_of_getElem? (i := 33) (by decide +kernel))) (by decide +kernel)
theorem tw_3_34 : Cond.fieldLink "SortWorks" 25 "SortWorks" "numbers" "LSortWorks$Numbers;" ∈ sw_gw := p_mem (p_tb3 (List.mem_of_getElem? (i := 34) (by decide +kernel))) (by decide +kernel)
theorem tw_3_35 : Cond.fieldLink "SortWorks" 32 "SortWorks" "stepper" "LSortWorks$Step;" ∈ sw_gw := p_mem (p_tb3 (List.mem_of_getElem? (i := 35) (by decide +kernel))) (by decide +kernel)
theorem tw_3_36 : Cond.fieldLink "SortWorks" 39 "SortWorks" "judge" "LSortWorks$Judge;" ∈ sw_gw := p_mem (p_tb3 (List.mem_of_getElem? (i := 36) (by decide +kernel))) (by decide +kernel)
theorem tw_3_37 : Cond.fieldLink "SortWorks" 43 "SortWorks" "letters" "[I" ∈ sw_gw := p_mem (p_tb3 (List.mem_of_getElem? (i := 37) (by decide +kernel))) (by decide +kernel)
theorem tw_3_38 : Cond.fieldLink "SortWorks" 146 "SortWorks" "typed" "I" ∈ sw_gw := p_mem (p_tb3 (List.mem_of_getElem? (i := 38) (by decide +kernel))) (by decide +kernel)
theorem tw_3_39 : Cond.fieldLink "SortWorks" 47 "SortWorks" "faults" "I" ∈ sw_gw := p_mem (p_tb3 (List.mem_of_getElem? (i := 39) (by decide +kernel))) (by decide +kernel)
theorem tw_3_40 : Cond.fieldLink "SortWorks" 51 "SortWorks" "status" "I" ∈ sw_gw := p_mem (p_tb3 (List.mem_of_getElem? (i := 40) (by decide +kernel))) (by decide +kernel)
theorem tw_3_60 : Cond.methodLink "SortWorksLaw" 13 ⟨"SortWorks", "works", "(I)I"⟩ ∈ sw_gw := p_mem (p_tb3 (List.mem_of_getElem? (i := 60) (by decide +kernel))) (by decide +kernel)
theorem tw_3_61 : Cond.instanceMethod ⟨"SortWorks", "works", "(I)I"⟩ ∈ sw_gw := p_mem (p_tb3 (List.mem_of_getElem? (i := 61) (by decide +kernel))) (by decide +kernel)
theorem tw_3_62 : Cond.selects "SortWorks" ⟨"SortWorks", "works", "(I)I"⟩ ⟨"SortWorks", "works", "(I)I"⟩ ∈ sw_gw := p_mem (p_tb3 (List.mem_of_getElem? (i := 62) (by decide +kernel))) (by decide +kernel)
theorem tw_3_64 : Cond.methodLink "SortWorks" 61 ⟨"SortWorks", "refuse", "(I)I"⟩ ∈ sw_gw := p_mem (p_tb3 (List.mem_of_getElem? (i := 64) (by decide +kernel))) (by decide +kernel)
theorem tw_3_66 : Cond.instanceMethod ⟨"SortWorks", "refuse", "(I)I"⟩ ∈ sw_gw := p_mem (p_tb3 (List.mem_of_getElem? (i := 66) (by decide +kernel))) (by decide +kernel)
theorem tw_3_68 : Cond.methodLink "SortWorks" 57 ⟨"SortWorks", "done", "(I)I"⟩ ∈ sw_gw := p_mem (p_tb3 (List.mem_of_getElem? (i := 68) (by decide +kernel))) (by decide +kernel)
theorem tw_3_70 : Cond.instanceMethod ⟨"SortWorks", "done", "(I)I"⟩ ∈ sw_gw := p_mem (p_tb3 (List.mem_of_getElem? (i := 70) (by decide +kernel))) (by decide +kernel)
theorem tw_3_72 : Cond.methodLink "SortWorksLaw" 18 ⟨"SortWorks", "gear", "(II)I"⟩ ∈ sw_gw := p_mem (p_tb3 (List.mem_of_getElem? (i := 72) (by decide +kernel))) (by decide +kernel)
theorem tw_3_73 : Cond.instanceMethod ⟨"SortWorks", "gear", "(II)I"⟩ ∈ sw_gw := p_mem (p_tb3 (List.mem_of_getElem? (i := 73) (by decide +kernel))) (by decide +kernel)
theorem tw_3_74 : Cond.selects "SortWorks" ⟨"SortWorks", "gear", "(II)I"⟩ ⟨"SortWorks", "gear", "(II)I"⟩ ∈ sw_gw := p_mem (p_tb3 (List.mem_of_getElem? (i := 74) (by decide +kernel))) (by decide +kernel)
theorem tw_3_76 : Cond.methodLink "SortWorks" 67 ⟨"SortWorks", "isKind", "(I)Z"⟩ ∈ sw_gw := p_mem (p_tb3 (List.mem_of_getElem? (i := 76) (by decide +kernel))) (by decide +kernel)
theorem tw_3_77 : Cond.static ⟨"SortWorks", "isKind", "(I)Z"⟩ ∈ sw_gw := p_mem (p_tb3 (List.mem_of_getElem? (i := 77) (by decide +kernel))) (by decide +kernel)
theorem tw_3_79 : Cond.methodLink "SortWorks" 71 ⟨"SortWorks", "isTakerKind", "(I)Z"⟩ ∈ sw_gw := p_mem (p_tb3 (List.mem_of_getElem? (i := 79) (by decide +kernel))) (by decide +kernel)
theorem tw_3_80 : Cond.static ⟨"SortWorks", "isTakerKind", "(I)Z"⟩ ∈ sw_gw := p_mem (p_tb3 (List.mem_of_getElem? (i := 80) (by decide +kernel))) (by decide +kernel)
theorem tw_3_82 : Cond.methodLink "SortWorks" 87 ⟨"SortWorks$Gear", "begin", "(I)V"⟩ ∈ sw_gw := p_mem (p_tb3 (List.mem_of_getElem? (i := 82) (by decide +kernel))) (by decide +kernel)
theorem tw_3_83 : Cond.instanceMethod ⟨"SortWorks$Gear", "begin", "(I)V"⟩ ∈ sw_gw := p_mem (p_tb3 (List.mem_of_getElem? (i := 83) (by decide +kernel))) (by decide +kernel)
theorem tw_3_84 : Cond.selects "SortWorks$Gear" ⟨"SortWorks$Gear", "begin", "(I)V"⟩ ⟨"SortWorks$Gear", "begin", "(I)V"⟩ ∈ sw_gw := p_mem (p_tb3 (List.mem_of_getElem? (i := 84) (by decide +kernel))) (by decide +kernel)
theorem tw_3_88 : Cond.methodLink "SortWorks$Gear" 44 ⟨"java/util/Arrays", "fill", "([JJ)V"⟩ ∈ sw_gw := p_mem (p_tb3 (List.mem_of_getElem? (i := 88) (by decide +kernel))) (by decide +kernel)
theorem tw_3_89 : Cond.static ⟨"java/util/Arrays", "fill", "([JJ)V"⟩ ∈ sw_gw := p_mem (p_tb3 (List.mem_of_getElem? (i := 89) (by decide +kernel))) (by decide +kernel)
theorem tw_3_91 : Cond.methodLink "SortWorks" 95 ⟨"SortWorks", "built", "(I)I"⟩ ∈ sw_gw := p_mem (p_tb3 (List.mem_of_getElem? (i := 91) (by decide +kernel))) (by decide +kernel)
theorem tw_3_93 : Cond.instanceMethod ⟨"SortWorks", "built", "(I)I"⟩ ∈ sw_gw := p_mem (p_tb3 (List.mem_of_getElem? (i := 93) (by decide +kernel))) (by decide +kernel)
theorem tw_3_95 : Cond.methodLink "SortWorks" 54 ⟨"SortWorks$Works", "forget", "()V"⟩ ∈ sw_gw := p_mem (p_tb3 (List.mem_of_getElem? (i := 95) (by decide +kernel))) (by decide +kernel)
theorem tw_3_96 : Cond.instanceMethod ⟨"SortWorks$Works", "forget", "()V"⟩ ∈ sw_gw := p_mem (p_tb3 (List.mem_of_getElem? (i := 96) (by decide +kernel))) (by decide +kernel)
theorem tw_3_97 : Cond.selects "SortWorks$Works" ⟨"SortWorks$Works", "forget", "()V"⟩ ⟨"SortWorks$Works", "forget", "()V"⟩ ∈ sw_gw := p_mem (p_tb3 (List.mem_of_getElem? (i := 97) (by decide +kernel))) (by decide +kernel)
theorem tw_3_99 : Cond.methodLink "SortWorksLaw" 23 ⟨"SortWorks", "links", "(II)I"⟩ ∈ sw_gw := p_mem (p_tb3 (List.mem_of_getElem? (i := 99) (by decide +kernel))) (by decide +kernel)
theorem tw_3_100 : Cond.instanceMethod ⟨"SortWorks", "links", "(II)I"⟩ ∈ sw_gw := p_mem (p_tb3 (List.mem_of_getElem? (i := 100) (by decide +kernel))) (by decide +kernel)
theorem tw_3_101 : Cond.selects "SortWorks" ⟨"SortWorks", "links", "(II)I"⟩ ⟨"SortWorks", "links", "(II)I"⟩ ∈ sw_gw := p_mem (p_tb3 (List.mem_of_getElem? (i := 101) (by decide +kernel))) (by decide +kernel)
theorem tw_3_103 : Cond.methodLink "SortWorks" 98 ⟨"SortWorks$Works", "gearOf", "(I)LSortWorks$Gear;"⟩ ∈ sw_gw := p_mem (p_tb3 (List.mem_of_getElem? (i := 103) (by decide +kernel))) (by decide +kernel)
theorem tw_3_104 : Cond.instanceMethod ⟨"SortWorks$Works", "gearOf", "(I)LSortWorks$Gear;"⟩ ∈ sw_gw := p_mem (p_tb3 (List.mem_of_getElem? (i := 104) (by decide +kernel))) (by decide +kernel)
theorem tw_3_105 : Cond.selects "SortWorks$Works" ⟨"SortWorks$Works", "gearOf", "(I)LSortWorks$Gear;"⟩ ⟨"SortWorks$Works", "gearOf", "(I)LSortWorks$Gear;"⟩ ∈ sw_gw := p_mem (p_tb3 (List.mem_of_getElem? (i := 105) (by decide +kernel))) (by decide +kernel)
theorem tw_3_107 : Cond.methodLink "SortWorks" 105 ⟨"java/util/Arrays", "fill", "([II)V"⟩ ∈ sw_gw := p_mem (p_tb3 (List.mem_of_getElem? (i := 107) (by decide +kernel))) (by decide +kernel)
theorem tw_3_108 : Cond.static ⟨"java/util/Arrays", "fill", "([II)V"⟩ ∈ sw_gw := p_mem (p_tb3 (List.mem_of_getElem? (i := 108) (by decide +kernel))) (by decide +kernel)
theorem tw_3_110 : Cond.methodLink "SortWorksLaw" 27 ⟨"SortWorks", "link", "(III)I"⟩ ∈ sw_gw := p_mem (p_tb3 (List.mem_of_getElem? (i := 110) (by decide +kernel))) (by decide +kernel)
theorem tw_3_111 : Cond.instanceMethod ⟨"SortWorks", "link", "(III)I"⟩ ∈ sw_gw := p_mem (p_tb3 (List.mem_of_getElem? (i := 111) (by decide +kernel))) (by decide +kernel)
theorem tw_3_112 : Cond.selects "SortWorks" ⟨"SortWorks", "link", "(III)I"⟩ ⟨"SortWorks", "link", "(III)I"⟩ ∈ sw_gw := p_mem (p_tb3 (List.mem_of_getElem? (i := 112) (by decide +kernel))) (by decide +kernel)
theorem tw_3_114 : Cond.methodLink "SortWorksLaw" 32 ⟨"SortWorks", "aim", "(IIIZ)I"⟩ ∈ sw_gw := p_mem (p_tb3 (List.mem_of_getElem? (i := 114) (by decide +kernel))) (by decide +kernel)
theorem tw_3_115 : Cond.instanceMethod ⟨"SortWorks", "aim", "(IIIZ)I"⟩ ∈ sw_gw := p_mem (p_tb3 (List.mem_of_getElem? (i := 115) (by decide +kernel))) (by decide +kernel)
theorem tw_3_116 : Cond.selects "SortWorks" ⟨"SortWorks", "aim", "(IIIZ)I"⟩ ⟨"SortWorks", "aim", "(IIIZ)I"⟩ ∈ sw_gw := p_mem (p_tb3 (List.mem_of_getElem? (i := 116) (by decide +kernel))) (by decide +kernel)
theorem tw_3_118 : Cond.methodLink "SortWorks" 114 ⟨"SortWorks$Gear", "isDivert", "()Z"⟩ ∈ sw_gw := p_mem (p_tb3 (List.mem_of_getElem? (i := 118) (by decide +kernel))) (by decide +kernel)
theorem tw_3_119 : Cond.instanceMethod ⟨"SortWorks$Gear", "isDivert", "()Z"⟩ ∈ sw_gw := p_mem (p_tb3 (List.mem_of_getElem? (i := 119) (by decide +kernel))) (by decide +kernel)
theorem tw_3_120 : Cond.selects "SortWorks$Gear" ⟨"SortWorks$Gear", "isDivert", "()Z"⟩ ⟨"SortWorks$Gear", "isDivert", "()Z"⟩ ∈ sw_gw := p_mem (p_tb3 (List.mem_of_getElem? (i := 120) (by decide +kernel))) (by decide +kernel)
theorem tw_3_122 : Cond.methodLink "SortWorks" 118 ⟨"SortWorks$Gear", "hasSide", "(I)Z"⟩ ∈ sw_gw := p_mem (p_tb3 (List.mem_of_getElem? (i := 122) (by decide +kernel))) (by decide +kernel)
theorem tw_3_123 : Cond.instanceMethod ⟨"SortWorks$Gear", "hasSide", "(I)Z"⟩ ∈ sw_gw := p_mem (p_tb3 (List.mem_of_getElem? (i := 123) (by decide +kernel))) (by decide +kernel)
theorem tw_3_124 : Cond.selects "SortWorks$Gear" ⟨"SortWorks$Gear", "hasSide", "(I)Z"⟩ ⟨"SortWorks$Gear", "hasSide", "(I)Z"⟩ ∈ sw_gw := p_mem (p_tb3 (List.mem_of_getElem? (i := 124) (by decide +kernel))) (by decide +kernel)
theorem tw_3_128 : Cond.methodLink "SortWorks" 121 ⟨"SortWorks$Gear", "aims", "(II)Z"⟩ ∈ sw_gw := p_mem (p_tb3 (List.mem_of_getElem? (i := 128) (by decide +kernel))) (by decide +kernel)
theorem tw_3_129 : Cond.instanceMethod ⟨"SortWorks$Gear", "aims", "(II)Z"⟩ ∈ sw_gw := p_mem (p_tb3 (List.mem_of_getElem? (i := 129) (by decide +kernel))) (by decide +kernel)
theorem tw_3_130 : Cond.selects "SortWorks$Gear" ⟨"SortWorks$Gear", "aims", "(II)Z"⟩ ⟨"SortWorks$Gear", "aims", "(II)Z"⟩ ∈ sw_gw := p_mem (p_tb3 (List.mem_of_getElem? (i := 130) (by decide +kernel))) (by decide +kernel)
theorem tw_3_132 : Cond.methodLink "SortWorks" 125 ⟨"SortWorks$Gear", "aimAt", "(IIZ)V"⟩ ∈ sw_gw := p_mem (p_tb3 (List.mem_of_getElem? (i := 132) (by decide +kernel))) (by decide +kernel)
theorem tw_3_133 : Cond.instanceMethod ⟨"SortWorks$Gear", "aimAt", "(IIZ)V"⟩ ∈ sw_gw := p_mem (p_tb3 (List.mem_of_getElem? (i := 133) (by decide +kernel))) (by decide +kernel)
theorem tw_3_134 : Cond.selects "SortWorks$Gear" ⟨"SortWorks$Gear", "aimAt", "(IIZ)V"⟩ ⟨"SortWorks$Gear", "aimAt", "(IIZ)V"⟩ ∈ sw_gw := p_mem (p_tb3 (List.mem_of_getElem? (i := 134) (by decide +kernel))) (by decide +kernel)
theorem tw_3_136 : Cond.constantLong "SortWorks$Gear" 117 (-1 : Int64) ∈ sw_gw := p_mem (p_tb3 (List.mem_of_getElem? (i := 136) (by decide +kernel))) (by decide +kernel)
theorem tw_3_137 : Cond.methodLink "SortWorksLaw" 37 ⟨"SortWorks", "rank", "(II)I"⟩ ∈ sw_gw := p_mem (p_tb3 (List.mem_of_getElem? (i := 137) (by decide +kernel))) (by decide +kernel)
theorem tw_3_138 : Cond.instanceMethod ⟨"SortWorks", "rank", "(II)I"⟩ ∈ sw_gw := p_mem (p_tb3 (List.mem_of_getElem? (i := 138) (by decide +kernel))) (by decide +kernel)
theorem tw_3_139 : Cond.selects "SortWorks" ⟨"SortWorks", "rank", "(II)I"⟩ ⟨"SortWorks", "rank", "(II)I"⟩ ∈ sw_gw := p_mem (p_tb3 (List.mem_of_getElem? (i := 139) (by decide +kernel))) (by decide +kernel)
theorem tw_3_141 : Cond.methodLink "SortWorks" 129 ⟨"SortWorks$Gear", "isTaker", "()Z"⟩ ∈ sw_gw := p_mem (p_tb3 (List.mem_of_getElem? (i := 141) (by decide +kernel))) (by decide +kernel)
theorem tw_3_142 : Cond.instanceMethod ⟨"SortWorks$Gear", "isTaker", "()Z"⟩ ∈ sw_gw := p_mem (p_tb3 (List.mem_of_getElem? (i := 142) (by decide +kernel))) (by decide +kernel)
theorem tw_3_143 : Cond.selects "SortWorks$Gear" ⟨"SortWorks$Gear", "isTaker", "()Z"⟩ ⟨"SortWorks$Gear", "isTaker", "()Z"⟩ ∈ sw_gw := p_mem (p_tb3 (List.mem_of_getElem? (i := 143) (by decide +kernel))) (by decide +kernel)
theorem tw_3_146 : Cond.methodLink "SortWorksLaw" 41 ⟨"SortWorks", "refit", "(II)I"⟩ ∈ sw_gw := p_mem (p_tb3 (List.mem_of_getElem? (i := 146) (by decide +kernel))) (by decide +kernel)
theorem tw_3_147 : Cond.instanceMethod ⟨"SortWorks", "refit", "(II)I"⟩ ∈ sw_gw := p_mem (p_tb3 (List.mem_of_getElem? (i := 147) (by decide +kernel))) (by decide +kernel)
theorem tw_3_148 : Cond.selects "SortWorks" ⟨"SortWorks", "refit", "(II)I"⟩ ⟨"SortWorks", "refit", "(II)I"⟩ ∈ sw_gw := p_mem (p_tb3 (List.mem_of_getElem? (i := 148) (by decide +kernel))) (by decide +kernel)
theorem tw_3_150 : Cond.methodLink "SortWorks" 135 ⟨"SortWorks$Gear", "parcels", "()I"⟩ ∈ sw_gw := p_mem (p_tb3 (List.mem_of_getElem? (i := 150) (by decide +kernel))) (by decide +kernel)
theorem tw_3_151 : Cond.instanceMethod ⟨"SortWorks$Gear", "parcels", "()I"⟩ ∈ sw_gw := p_mem (p_tb3 (List.mem_of_getElem? (i := 151) (by decide +kernel))) (by decide +kernel)
theorem tw_3_152 : Cond.selects "SortWorks$Gear" ⟨"SortWorks$Gear", "parcels", "()I"⟩ ⟨"SortWorks$Gear", "parcels", "()I"⟩ ∈ sw_gw := p_mem (p_tb3 (List.mem_of_getElem? (i := 152) (by decide +kernel))) (by decide +kernel)
theorem tw_3_154 : Cond.methodLink "SortWorksLaw" 45 ⟨"SortWorks", "copy", "(I)I"⟩ ∈ sw_gw := p_mem (p_tb3 (List.mem_of_getElem? (i := 154) (by decide +kernel))) (by decide +kernel)
theorem tw_3_155 : Cond.instanceMethod ⟨"SortWorks", "copy", "(I)I"⟩ ∈ sw_gw := p_mem (p_tb3 (List.mem_of_getElem? (i := 155) (by decide +kernel))) (by decide +kernel)
theorem tw_3_156 : Cond.selects "SortWorks" ⟨"SortWorks", "copy", "(I)I"⟩ ⟨"SortWorks", "copy", "(I)I"⟩ ∈ sw_gw := p_mem (p_tb3 (List.mem_of_getElem? (i := 156) (by decide +kernel))) (by decide +kernel)
theorem tw_3_158 : Cond.methodLink "SortWorks" 142 ⟨"SortWorks$Works", "buildLike", "(LSortWorks$Works;)V"⟩ ∈ sw_gw := p_mem (p_tb3 (List.mem_of_getElem? (i := 158) (by decide +kernel))) (by decide +kernel)
theorem tw_3_159 : Cond.instanceMethod ⟨"SortWorks$Works", "buildLike", "(LSortWorks$Works;)V"⟩ ∈ sw_gw := p_mem (p_tb3 (List.mem_of_getElem? (i := 159) (by decide +kernel))) (by decide +kernel)
theorem tw_3_160 : Cond.selects "SortWorks$Works" ⟨"SortWorks$Works", "buildLike", "(LSortWorks$Works;)V"⟩ ⟨"SortWorks$Works", "buildLike", "(LSortWorks$Works;)V"⟩ ∈ sw_gw := p_mem (p_tb3 (List.mem_of_getElem? (i := 160) (by decide +kernel))) (by decide +kernel)
theorem tw_3_162 : Cond.methodLink "SortWorks$Works" 60 ⟨"SortWorks$Gear", "buildAs", "(LSortWorks$Gear;)V"⟩ ∈ sw_gw := p_mem (p_tb3 (List.mem_of_getElem? (i := 162) (by decide +kernel))) (by decide +kernel)
theorem tw_3_163 : Cond.instanceMethod ⟨"SortWorks$Gear", "buildAs", "(LSortWorks$Gear;)V"⟩ ∈ sw_gw := p_mem (p_tb3 (List.mem_of_getElem? (i := 163) (by decide +kernel))) (by decide +kernel)
theorem tw_3_164 : Cond.selects "SortWorks$Gear" ⟨"SortWorks$Gear", "buildAs", "(LSortWorks$Gear;)V"⟩ ⟨"SortWorks$Gear", "buildAs", "(LSortWorks$Gear;)V"⟩ ∈ sw_gw := p_mem (p_tb3 (List.mem_of_getElem? (i := 164) (by decide +kernel))) (by decide +kernel)
theorem tw_3_166 : Cond.methodLink "SortWorks$Gear" 81 ⟨"SortWorks$Gear", "begin", "(I)V"⟩ ∈ sw_gw := p_mem (p_tb3 (List.mem_of_getElem? (i := 166) (by decide +kernel))) (by decide +kernel)
theorem tw_3_167 : Cond.methodLink "SortWorks$Gear" 88 ⟨"java/lang/System", "arraycopy", "(Ljava/lang/Object;ILjava/lang/Object;II)V"⟩ ∈ sw_gw := p_mem (p_tb3 (List.mem_of_getElem? (i := 167) (by decide +kernel))) (by decide +kernel)
theorem tw_3_168 : Cond.static ⟨"java/lang/System", "arraycopy", "(Ljava/lang/Object;ILjava/lang/Object;II)V"⟩ ∈ sw_gw := p_mem (p_tb3 (List.mem_of_getElem? (i := 168) (by decide +kernel))) (by decide +kernel)
theorem tw_3_169 : Cond.native ⟨"java/lang/System", "arraycopy", "(Ljava/lang/Object;ILjava/lang/Object;II)V"⟩ ∈ sw_gw := p_mem (p_tb3 (List.mem_of_getElem? (i := 169) (by decide +kernel))) (by decide +kernel)
theorem tw_3_170 : Cond.methodLink "SortWorks$Works" 66 ⟨"SortWorks$Works", "ruleBy", "(LSortWorks$Rules;)V"⟩ ∈ sw_gw := p_mem (p_tb3 (List.mem_of_getElem? (i := 170) (by decide +kernel))) (by decide +kernel)
theorem tw_3_171 : Cond.instanceMethod ⟨"SortWorks$Works", "ruleBy", "(LSortWorks$Rules;)V"⟩ ∈ sw_gw := p_mem (p_tb3 (List.mem_of_getElem? (i := 171) (by decide +kernel))) (by decide +kernel)
theorem tw_3_172 : Cond.selects "SortWorks$Works" ⟨"SortWorks$Works", "ruleBy", "(LSortWorks$Rules;)V"⟩ ⟨"SortWorks$Works", "ruleBy", "(LSortWorks$Rules;)V"⟩ ∈ sw_gw := p_mem (p_tb3 (List.mem_of_getElem? (i := 172) (by decide +kernel))) (by decide +kernel)
theorem tw_3_174 : Cond.methodLink "SortWorks$Works" 79 ⟨"SortWorks$Rules", "becomeAs", "(LSortWorks$Rules;)V"⟩ ∈ sw_gw := p_mem (p_tb3 (List.mem_of_getElem? (i := 174) (by decide +kernel))) (by decide +kernel)
theorem tw_3_175 : Cond.instanceMethod ⟨"SortWorks$Rules", "becomeAs", "(LSortWorks$Rules;)V"⟩ ∈ sw_gw := p_mem (p_tb3 (List.mem_of_getElem? (i := 175) (by decide +kernel))) (by decide +kernel)
theorem tw_3_176 : Cond.selects "SortWorks$Rules" ⟨"SortWorks$Rules", "becomeAs", "(LSortWorks$Rules;)V"⟩ ⟨"SortWorks$Rules", "becomeAs", "(LSortWorks$Rules;)V"⟩ ∈ sw_gw := p_mem (p_tb3 (List.mem_of_getElem? (i := 176) (by decide +kernel))) (by decide +kernel)
theorem tw_3_178 : Cond.methodLink "SortWorks$Rules" 37 ⟨"java/lang/System", "arraycopy", "(Ljava/lang/Object;ILjava/lang/Object;II)V"⟩ ∈ sw_gw := p_mem (p_tb3 (List.mem_of_getElem? (i := 178) (by decide +kernel))) (by decide +kernel)
theorem tw_3_179 : Cond.methodLink "SortWorks$Works" 85 ⟨"java/util/Arrays", "fill", "([II)V"⟩ ∈ sw_gw := p_mem (p_tb3 (List.mem_of_getElem? (i := 179) (by decide +kernel))) (by decide +kernel)
theorem tw_3_180 : Cond.methodLink "SortWorks$Works" 73 ⟨"java/lang/System", "arraycopy", "(Ljava/lang/Object;ILjava/lang/Object;II)V"⟩ ∈ sw_gw := p_mem (p_tb3 (List.mem_of_getElem? (i := 180) (by decide +kernel))) (by decide +kernel)
theorem tw_3_181 : Cond.methodLink "SortWorksLaw" 49 ⟨"SortWorks", "letter", "(I)I"⟩ ∈ sw_gw := p_mem (p_tb3 (List.mem_of_getElem? (i := 181) (by decide +kernel))) (by decide +kernel)
theorem tw_3_182 : Cond.instanceMethod ⟨"SortWorks", "letter", "(I)I"⟩ ∈ sw_gw := p_mem (p_tb3 (List.mem_of_getElem? (i := 182) (by decide +kernel))) (by decide +kernel)
theorem tw_3_183 : Cond.selects "SortWorks" ⟨"SortWorks", "letter", "(I)I"⟩ ⟨"SortWorks", "letter", "(I)I"⟩ ∈ sw_gw := p_mem (p_tb3 (List.mem_of_getElem? (i := 183) (by decide +kernel))) (by decide +kernel)
theorem tw_3_185 : Cond.methodLink "SortWorksLaw" 53 ⟨"SortWorks", "load", "()I"⟩ ∈ sw_gw := p_mem (p_tb3 (List.mem_of_getElem? (i := 185) (by decide +kernel))) (by decide +kernel)
theorem tw_3_186 : Cond.instanceMethod ⟨"SortWorks", "load", "()I"⟩ ∈ sw_gw := p_mem (p_tb3 (List.mem_of_getElem? (i := 186) (by decide +kernel))) (by decide +kernel)
theorem tw_3_187 : Cond.selects "SortWorks" ⟨"SortWorks", "load", "()I"⟩ ⟨"SortWorks", "load", "()I"⟩ ∈ sw_gw := p_mem (p_tb3 (List.mem_of_getElem? (i := 187) (by decide +kernel))) (by decide +kernel)
theorem tw_3_189 : Cond.methodLink "SortWorks" 149 ⟨"SortWorks$Judge", "wrongPlace", "([II)I"⟩ ∈ sw_gw := p_mem (p_tb3 (List.mem_of_getElem? (i := 189) (by decide +kernel))) (by decide +kernel)
theorem tw_3_190 : Cond.instanceMethod ⟨"SortWorks$Judge", "wrongPlace", "([II)I"⟩ ∈ sw_gw := p_mem (p_tb3 (List.mem_of_getElem? (i := 190) (by decide +kernel))) (by decide +kernel)
theorem tw_3_191 : Cond.selects "SortWorks$Judge" ⟨"SortWorks$Judge", "wrongPlace", "([II)I"⟩ ⟨"SortWorks$Judge", "wrongPlace", "([II)I"⟩ ∈ sw_gw := p_mem (p_tb3 (List.mem_of_getElem? (i := 191) (by decide +kernel))) (by decide +kernel)
theorem tw_3_193 : Cond.methodLink "SortWorks$Judge" 32 ⟨"SortWorks$Judge", "takeRule", "(I)Z"⟩ ∈ sw_gw := p_mem (p_tb3 (List.mem_of_getElem? (i := 193) (by decide +kernel))) (by decide +kernel)
theorem tw_3_195 : Cond.instanceMethod ⟨"SortWorks$Judge", "takeRule", "(I)Z"⟩ ∈ sw_gw := p_mem (p_tb3 (List.mem_of_getElem? (i := 195) (by decide +kernel))) (by decide +kernel)
theorem tw_3_197 : Cond.methodLink "SortWorks$Judge" 42 ⟨"SortWorks$Judge", "next", "()I"⟩ ∈ sw_gw := p_mem (p_tb3 (List.mem_of_getElem? (i := 197) (by decide +kernel))) (by decide +kernel)
theorem tw_3_199 : Cond.instanceMethod ⟨"SortWorks$Judge", "next", "()I"⟩ ∈ sw_gw := p_mem (p_tb3 (List.mem_of_getElem? (i := 199) (by decide +kernel))) (by decide +kernel)
theorem tw_3_201 : Cond.methodLink "SortWorks$Judge" 46 ⟨"SortWorks$Judge", "takeTests", "(I)Z"⟩ ∈ sw_gw := p_mem (p_tb3 (List.mem_of_getElem? (i := 201) (by decide +kernel))) (by decide +kernel)
theorem tw_3_203 : Cond.instanceMethod ⟨"SortWorks$Judge", "takeTests", "(I)Z"⟩ ∈ sw_gw := p_mem (p_tb3 (List.mem_of_getElem? (i := 203) (by decide +kernel))) (by decide +kernel)
theorem tw_3_205 : Cond.methodLink "SortWorks$Judge" 55 ⟨"SortWorks$Judge", "takeTest", "(I)Z"⟩ ∈ sw_gw := p_mem (p_tb3 (List.mem_of_getElem? (i := 205) (by decide +kernel))) (by decide +kernel)
theorem tw_3_207 : Cond.instanceMethod ⟨"SortWorks$Judge", "takeTest", "(I)Z"⟩ ∈ sw_gw := p_mem (p_tb3 (List.mem_of_getElem? (i := 207) (by decide +kernel))) (by decide +kernel)
theorem tw_3_209 : Cond.methodLink "SortWorks$Judge" 49 ⟨"SortWorks$Judge", "take", "(I)Z"⟩ ∈ sw_gw := p_mem (p_tb3 (List.mem_of_getElem? (i := 209) (by decide +kernel))) (by decide +kernel)
theorem tw_3_211 : Cond.instanceMethod ⟨"SortWorks$Judge", "take", "(I)Z"⟩ ∈ sw_gw := p_mem (p_tb3 (List.mem_of_getElem? (i := 211) (by decide +kernel))) (by decide +kernel)
theorem tw_3_213 : Cond.methodLink "SortWorks$Judge" 64 ⟨"SortWorks$Judge", "takeNumber", "()I"⟩ ∈ sw_gw := p_mem (p_tb3 (List.mem_of_getElem? (i := 213) (by decide +kernel))) (by decide +kernel)
theorem tw_3_215 : Cond.instanceMethod ⟨"SortWorks$Judge", "takeNumber", "()I"⟩ ∈ sw_gw := p_mem (p_tb3 (List.mem_of_getElem? (i := 215) (by decide +kernel))) (by decide +kernel)
theorem tw_3_217 : Cond.methodLink "SortWorks$Judge" 52 ⟨"SortWorks$Judge", "takeTold", "(I)Z"⟩ ∈ sw_gw := p_mem (p_tb3 (List.mem_of_getElem? (i := 217) (by decide +kernel))) (by decide +kernel)
theorem tw_3_219 : Cond.instanceMethod ⟨"SortWorks$Judge", "takeTold", "(I)Z"⟩ ∈ sw_gw := p_mem (p_tb3 (List.mem_of_getElem? (i := 219) (by decide +kernel))) (by decide +kernel)
theorem tw_3_221 : Cond.methodLink "SortWorks" 157 ⟨"SortWorks$Works", "ruleBy", "(LSortWorks$Rules;)V"⟩ ∈ sw_gw := p_mem (p_tb3 (List.mem_of_getElem? (i := 221) (by decide +kernel))) (by decide +kernel)
theorem tw_3_222 : Cond.methodLink "SortWorksLaw" 58 ⟨"SortWorks", "plan", "(IIIII)I"⟩ ∈ sw_gw := p_mem (p_tb3 (List.mem_of_getElem? (i := 222) (by decide +kernel))) (by decide +kernel)
theorem tw_3_223 : Cond.instanceMethod ⟨"SortWorks", "plan", "(IIIII)I"⟩ ∈ sw_gw := p_mem (p_tb3 (List.mem_of_getElem? (i := 223) (by decide +kernel))) (by decide +kernel)
theorem tw_3_224 : Cond.selects "SortWorks" ⟨"SortWorks", "plan", "(IIIII)I"⟩ ⟨"SortWorks", "plan", "(IIIII)I"⟩ ∈ sw_gw := p_mem (p_tb3 (List.mem_of_getElem? (i := 224) (by decide +kernel))) (by decide +kernel)
theorem tw_3_226 : Cond.methodLink "SortWorksLaw" 63 ⟨"SortWorks", "come", "(III)I"⟩ ∈ sw_gw := p_mem (p_tb3 (List.mem_of_getElem? (i := 226) (by decide +kernel))) (by decide +kernel)
theorem tw_3_227 : Cond.instanceMethod ⟨"SortWorks", "come", "(III)I"⟩ ∈ sw_gw := p_mem (p_tb3 (List.mem_of_getElem? (i := 227) (by decide +kernel))) (by decide +kernel)
theorem tw_3_228 : Cond.selects "SortWorks" ⟨"SortWorks", "come", "(III)I"⟩ ⟨"SortWorks", "come", "(III)I"⟩ ∈ sw_gw := p_mem (p_tb3 (List.mem_of_getElem? (i := 228) (by decide +kernel))) (by decide +kernel)
theorem tw_3_230 : Cond.methodLink "SortWorks" 177 ⟨"SortWorks$Gear", "isChute", "()Z"⟩ ∈ sw_gw := p_mem (p_tb3 (List.mem_of_getElem? (i := 230) (by decide +kernel))) (by decide +kernel)
theorem tw_3_231 : Cond.instanceMethod ⟨"SortWorks$Gear", "isChute", "()Z"⟩ ∈ sw_gw := p_mem (p_tb3 (List.mem_of_getElem? (i := 231) (by decide +kernel))) (by decide +kernel)
theorem tw_3_232 : Cond.selects "SortWorks$Gear" ⟨"SortWorks$Gear", "isChute", "()Z"⟩ ⟨"SortWorks$Gear", "isChute", "()Z"⟩ ∈ sw_gw := p_mem (p_tb3 (List.mem_of_getElem? (i := 232) (by decide +kernel))) (by decide +kernel)
theorem tw_3_234 : Cond.methodLink "SortWorks" 180 ⟨"SortWorks$Gear", "isFreeAtStart", "()Z"⟩ ∈ sw_gw := p_mem (p_tb3 (List.mem_of_getElem? (i := 234) (by decide +kernel))) (by decide +kernel)
theorem tw_3_235 : Cond.instanceMethod ⟨"SortWorks$Gear", "isFreeAtStart", "()Z"⟩ ∈ sw_gw := p_mem (p_tb3 (List.mem_of_getElem? (i := 235) (by decide +kernel))) (by decide +kernel)
theorem tw_3_236 : Cond.selects "SortWorks$Gear" ⟨"SortWorks$Gear", "isFreeAtStart", "()Z"⟩ ⟨"SortWorks$Gear", "isFreeAtStart", "()Z"⟩ ∈ sw_gw := p_mem (p_tb3 (List.mem_of_getElem? (i := 236) (by decide +kernel))) (by decide +kernel)
theorem tw_3_238 : Cond.methodLink "SortWorks" 183 ⟨"SortWorks", "newParcel", "()LSortWorks$Parcel;"⟩ ∈ sw_gw := p_mem (p_tb3 (List.mem_of_getElem? (i := 238) (by decide +kernel))) (by decide +kernel)
theorem tw_4_0 : Cond.instanceMethod ⟨"SortWorks", "newParcel", "()LSortWorks$Parcel;"⟩ ∈ sw_gw := p_mem (p_tb4 (List.mem_of_getElem? (i := 0) (by decide +kernel))) (by decide +kernel)
theorem tw_4_2 : Cond.methodLink "SortWorks" 194 ⟨"SortWorks$State", "freeParcel", "()LSortWorks$Parcel;"⟩ ∈ sw_gw := p_mem (p_tb4 (List.mem_of_getElem? (i := 2) (by decide +kernel))) (by decide +kernel)
theorem tw_4_3 : Cond.instanceMethod ⟨"SortWorks$State", "freeParcel", "()LSortWorks$Parcel;"⟩ ∈ sw_gw := p_mem (p_tb4 (List.mem_of_getElem? (i := 3) (by decide +kernel))) (by decide +kernel)
theorem tw_4_4 : Cond.selects "SortWorks$State" ⟨"SortWorks$State", "freeParcel", "()LSortWorks$Parcel;"⟩ ⟨"SortWorks$State", "freeParcel", "()LSortWorks$Parcel;"⟩ ∈ sw_gw := p_mem (p_tb4 (List.mem_of_getElem? (i := 4) (by decide +kernel))) (by decide +kernel)
theorem tw_4_6 : Cond.methodLink "SortWorks" 200 ⟨"SortWorks$Numbers", "giveTo", "(I)I"⟩ ∈ sw_gw := p_mem (p_tb4 (List.mem_of_getElem? (i := 6) (by decide +kernel))) (by decide +kernel)
theorem tw_4_7 : Cond.instanceMethod ⟨"SortWorks$Numbers", "giveTo", "(I)I"⟩ ∈ sw_gw := p_mem (p_tb4 (List.mem_of_getElem? (i := 7) (by decide +kernel))) (by decide +kernel)
theorem tw_4_8 : Cond.selects "SortWorks$Numbers" ⟨"SortWorks$Numbers", "giveTo", "(I)I"⟩ ⟨"SortWorks$Numbers", "giveTo", "(I)I"⟩ ∈ sw_gw := p_mem (p_tb4 (List.mem_of_getElem? (i := 8) (by decide +kernel))) (by decide +kernel)
theorem tw_4_10 : Cond.methodLink "SortWorks$Numbers" 19 ⟨"SortWorks$Numbers", "insideOf", "(I)I"⟩ ∈ sw_gw := p_mem (p_tb4 (List.mem_of_getElem? (i := 10) (by decide +kernel))) (by decide +kernel)
theorem tw_4_11 : Cond.static ⟨"SortWorks$Numbers", "insideOf", "(I)I"⟩ ∈ sw_gw := p_mem (p_tb4 (List.mem_of_getElem? (i := 11) (by decide +kernel))) (by decide +kernel)
theorem tw_4_13 : Cond.methodLink "SortWorks" 187 ⟨"SortWorks$State", "bringIn", "(LSortWorks$Parcel;III)V"⟩ ∈ sw_gw := p_mem (p_tb4 (List.mem_of_getElem? (i := 13) (by decide +kernel))) (by decide +kernel)
theorem tw_4_14 : Cond.instanceMethod ⟨"SortWorks$State", "bringIn", "(LSortWorks$Parcel;III)V"⟩ ∈ sw_gw := p_mem (p_tb4 (List.mem_of_getElem? (i := 14) (by decide +kernel))) (by decide +kernel)
theorem tw_4_15 : Cond.selects "SortWorks$State" ⟨"SortWorks$State", "bringIn", "(LSortWorks$Parcel;III)V"⟩ ⟨"SortWorks$State", "bringIn", "(LSortWorks$Parcel;III)V"⟩ ∈ sw_gw := p_mem (p_tb4 (List.mem_of_getElem? (i := 15) (by decide +kernel))) (by decide +kernel)
theorem tw_4_17 : Cond.methodLink "SortWorks$State" 108 ⟨"SortWorks$State", "setDown", "(LSortWorks$Parcel;I)V"⟩ ∈ sw_gw := p_mem (p_tb4 (List.mem_of_getElem? (i := 17) (by decide +kernel))) (by decide +kernel)
theorem tw_4_19 : Cond.instanceMethod ⟨"SortWorks$State", "setDown", "(LSortWorks$Parcel;I)V"⟩ ∈ sw_gw := p_mem (p_tb4 (List.mem_of_getElem? (i := 19) (by decide +kernel))) (by decide +kernel)
theorem tw_4_21 : Cond.methodLink "SortWorksLaw" 67 ⟨"SortWorks", "label", "(II)I"⟩ ∈ sw_gw := p_mem (p_tb4 (List.mem_of_getElem? (i := 21) (by decide +kernel))) (by decide +kernel)
theorem tw_4_22 : Cond.instanceMethod ⟨"SortWorks", "label", "(II)I"⟩ ∈ sw_gw := p_mem (p_tb4 (List.mem_of_getElem? (i := 22) (by decide +kernel))) (by decide +kernel)
theorem tw_4_23 : Cond.selects "SortWorks" ⟨"SortWorks", "label", "(II)I"⟩ ⟨"SortWorks", "label", "(II)I"⟩ ∈ sw_gw := p_mem (p_tb4 (List.mem_of_getElem? (i := 23) (by decide +kernel))) (by decide +kernel)
theorem tw_4_25 : Cond.methodLink "SortWorks" 203 ⟨"SortWorks$State", "find", "(I)LSortWorks$Parcel;"⟩ ∈ sw_gw := p_mem (p_tb4 (List.mem_of_getElem? (i := 25) (by decide +kernel))) (by decide +kernel)
theorem tw_4_26 : Cond.instanceMethod ⟨"SortWorks$State", "find", "(I)LSortWorks$Parcel;"⟩ ∈ sw_gw := p_mem (p_tb4 (List.mem_of_getElem? (i := 26) (by decide +kernel))) (by decide +kernel)
theorem tw_4_27 : Cond.selects "SortWorks$State" ⟨"SortWorks$State", "find", "(I)LSortWorks$Parcel;"⟩ ⟨"SortWorks$State", "find", "(I)LSortWorks$Parcel;"⟩ ∈ sw_gw := p_mem (p_tb4 (List.mem_of_getElem? (i := 27) (by decide +kernel))) (by decide +kernel)
theorem tw_4_29 : Cond.methodLink "SortWorksLaw" 71 ⟨"SortWorks", "put", "(III)I"⟩ ∈ sw_gw := p_mem (p_tb4 (List.mem_of_getElem? (i := 29) (by decide +kernel))) (by decide +kernel)
theorem tw_4_30 : Cond.instanceMethod ⟨"SortWorks", "put", "(III)I"⟩ ∈ sw_gw := p_mem (p_tb4 (List.mem_of_getElem? (i := 30) (by decide +kernel))) (by decide +kernel)
theorem tw_4_31 : Cond.selects "SortWorks" ⟨"SortWorks", "put", "(III)I"⟩ ⟨"SortWorks", "put", "(III)I"⟩ ∈ sw_gw := p_mem (p_tb4 (List.mem_of_getElem? (i := 31) (by decide +kernel))) (by decide +kernel)
theorem tw_4_33 : Cond.methodLink "SortWorksLaw" 75 ⟨"SortWorks", "tag", "(III)I"⟩ ∈ sw_gw := p_mem (p_tb4 (List.mem_of_getElem? (i := 33) (by decide +kernel))) (by decide +kernel)
theorem tw_4_34 : Cond.instanceMethod ⟨"SortWorks", "tag", "(III)I"⟩ ∈ sw_gw := p_mem (p_tb4 (List.mem_of_getElem? (i := 34) (by decide +kernel))) (by decide +kernel)
theorem tw_4_35 : Cond.selects "SortWorks" ⟨"SortWorks", "tag", "(III)I"⟩ ⟨"SortWorks", "tag", "(III)I"⟩ ∈ sw_gw := p_mem (p_tb4 (List.mem_of_getElem? (i := 35) (by decide +kernel))) (by decide +kernel)
theorem tw_4_37 : Cond.methodLink "SortWorks" 213 ⟨"SortWorks$Parcel", "write", "(II)V"⟩ ∈ sw_gw := p_mem (p_tb4 (List.mem_of_getElem? (i := 37) (by decide +kernel))) (by decide +kernel)
theorem tw_4_38 : Cond.instanceMethod ⟨"SortWorks$Parcel", "write", "(II)V"⟩ ∈ sw_gw := p_mem (p_tb4 (List.mem_of_getElem? (i := 38) (by decide +kernel))) (by decide +kernel)
theorem tw_4_39 : Cond.selects "SortWorks$Parcel" ⟨"SortWorks$Parcel", "write", "(II)V"⟩ ⟨"SortWorks$Parcel", "write", "(II)V"⟩ ∈ sw_gw := p_mem (p_tb4 (List.mem_of_getElem? (i := 39) (by decide +kernel))) (by decide +kernel)
theorem tw_4_41 : Cond.methodLink "SortWorks$Parcel" 59 ⟨"SortWorks$Parcel", "writeFormA", "(I)V"⟩ ∈ sw_gw := p_mem (p_tb4 (List.mem_of_getElem? (i := 41) (by decide +kernel))) (by decide +kernel)
theorem tw_4_43 : Cond.instanceMethod ⟨"SortWorks$Parcel", "writeFormA", "(I)V"⟩ ∈ sw_gw := p_mem (p_tb4 (List.mem_of_getElem? (i := 43) (by decide +kernel))) (by decide +kernel)
theorem tw_4_45 : Cond.methodLink "SortWorks$Parcel" 63 ⟨"SortWorks$Parcel", "writeFormB", "(I)V"⟩ ∈ sw_gw := p_mem (p_tb4 (List.mem_of_getElem? (i := 45) (by decide +kernel))) (by decide +kernel)
theorem tw_4_47 : Cond.instanceMethod ⟨"SortWorks$Parcel", "writeFormB", "(I)V"⟩ ∈ sw_gw := p_mem (p_tb4 (List.mem_of_getElem? (i := 47) (by decide +kernel))) (by decide +kernel)
theorem tw_4_49 : Cond.methodLink "SortWorksLaw" 79 ⟨"SortWorks", "door", "(IZ)I"⟩ ∈ sw_gw := p_mem (p_tb4 (List.mem_of_getElem? (i := 49) (by decide +kernel))) (by decide +kernel)
theorem tw_4_50 : Cond.instanceMethod ⟨"SortWorks", "door", "(IZ)I"⟩ ∈ sw_gw := p_mem (p_tb4 (List.mem_of_getElem? (i := 50) (by decide +kernel))) (by decide +kernel)
theorem tw_4_51 : Cond.selects "SortWorks" ⟨"SortWorks", "door", "(IZ)I"⟩ ⟨"SortWorks", "door", "(IZ)I"⟩ ∈ sw_gw := p_mem (p_tb4 (List.mem_of_getElem? (i := 51) (by decide +kernel))) (by decide +kernel)
theorem tw_4_53 : Cond.methodLink "SortWorksLaw" 84 ⟨"SortWorks", "turn", "(II)I"⟩ ∈ sw_gw := p_mem (p_tb4 (List.mem_of_getElem? (i := 53) (by decide +kernel))) (by decide +kernel)
theorem tw_4_54 : Cond.instanceMethod ⟨"SortWorks", "turn", "(II)I"⟩ ∈ sw_gw := p_mem (p_tb4 (List.mem_of_getElem? (i := 54) (by decide +kernel))) (by decide +kernel)
theorem tw_4_55 : Cond.selects "SortWorks" ⟨"SortWorks", "turn", "(II)I"⟩ ⟨"SortWorks", "turn", "(II)I"⟩ ∈ sw_gw := p_mem (p_tb4 (List.mem_of_getElem? (i := 55) (by decide +kernel))) (by decide +kernel)
theorem tw_4_57 : Cond.methodLink "SortWorksLaw" 88 ⟨"SortWorks", "release", "(II)I"⟩ ∈ sw_gw := p_mem (p_tb4 (List.mem_of_getElem? (i := 57) (by decide +kernel))) (by decide +kernel)
theorem tw_4_58 : Cond.instanceMethod ⟨"SortWorks", "release", "(II)I"⟩ ∈ sw_gw := p_mem (p_tb4 (List.mem_of_getElem? (i := 58) (by decide +kernel))) (by decide +kernel)
theorem tw_4_59 : Cond.selects "SortWorks" ⟨"SortWorks", "release", "(II)I"⟩ ⟨"SortWorks", "release", "(II)I"⟩ ∈ sw_gw := p_mem (p_tb4 (List.mem_of_getElem? (i := 59) (by decide +kernel))) (by decide +kernel)
theorem tw_4_61 : Cond.methodLink "SortWorksLaw" 92 ⟨"SortWorks", "clear", "(I)I"⟩ ∈ sw_gw := p_mem (p_tb4 (List.mem_of_getElem? (i := 61) (by decide +kernel))) (by decide +kernel)
theorem tw_4_62 : Cond.instanceMethod ⟨"SortWorks", "clear", "(I)I"⟩ ∈ sw_gw := p_mem (p_tb4 (List.mem_of_getElem? (i := 62) (by decide +kernel))) (by decide +kernel)
theorem tw_4_63 : Cond.selects "SortWorks" ⟨"SortWorks", "clear", "(I)I"⟩ ⟨"SortWorks", "clear", "(I)I"⟩ ∈ sw_gw := p_mem (p_tb4 (List.mem_of_getElem? (i := 63) (by decide +kernel))) (by decide +kernel)
theorem tw_4_65 : Cond.methodLink "SortWorks" 227 ⟨"SortWorks$State", "inLastSlot", "(LSortWorks$Gear;)LSortWorks$Parcel;"⟩ ∈ sw_gw := p_mem (p_tb4 (List.mem_of_getElem? (i := 65) (by decide +kernel))) (by decide +kernel)
theorem tw_4_66 : Cond.instanceMethod ⟨"SortWorks$State", "inLastSlot", "(LSortWorks$Gear;)LSortWorks$Parcel;"⟩ ∈ sw_gw := p_mem (p_tb4 (List.mem_of_getElem? (i := 66) (by decide +kernel))) (by decide +kernel)
theorem tw_4_67 : Cond.selects "SortWorks$State" ⟨"SortWorks$State", "inLastSlot", "(LSortWorks$Gear;)LSortWorks$Parcel;"⟩ ⟨"SortWorks$State", "inLastSlot", "(LSortWorks$Gear;)LSortWorks$Parcel;"⟩ ∈ sw_gw := p_mem (p_tb4 (List.mem_of_getElem? (i := 67) (by decide +kernel))) (by decide +kernel)
theorem tw_4_69 : Cond.methodLink "SortWorks$State" 89 ⟨"SortWorks$State", "inSlot", "(LSortWorks$Gear;I)LSortWorks$Parcel;"⟩ ∈ sw_gw := p_mem (p_tb4 (List.mem_of_getElem? (i := 69) (by decide +kernel))) (by decide +kernel)
theorem tw_4_70 : Cond.instanceMethod ⟨"SortWorks$State", "inSlot", "(LSortWorks$Gear;I)LSortWorks$Parcel;"⟩ ∈ sw_gw := p_mem (p_tb4 (List.mem_of_getElem? (i := 70) (by decide +kernel))) (by decide +kernel)
theorem tw_4_71 : Cond.selects "SortWorks$State" ⟨"SortWorks$State", "inSlot", "(LSortWorks$Gear;I)LSortWorks$Parcel;"⟩ ⟨"SortWorks$State", "inSlot", "(LSortWorks$Gear;I)LSortWorks$Parcel;"⟩ ∈ sw_gw := p_mem (p_tb4 (List.mem_of_getElem? (i := 71) (by decide +kernel))) (by decide +kernel)
theorem tw_4_73 : Cond.methodLink "SortWorks" 231 ⟨"SortWorks$Gear", "isJammed", "()Z"⟩ ∈ sw_gw := p_mem (p_tb4 (List.mem_of_getElem? (i := 73) (by decide +kernel))) (by decide +kernel)
theorem tw_4_74 : Cond.instanceMethod ⟨"SortWorks$Gear", "isJammed", "()Z"⟩ ∈ sw_gw := p_mem (p_tb4 (List.mem_of_getElem? (i := 74) (by decide +kernel))) (by decide +kernel)
theorem tw_4_75 : Cond.selects "SortWorks$Gear" ⟨"SortWorks$Gear", "isJammed", "()Z"⟩ ⟨"SortWorks$Gear", "isJammed", "()Z"⟩ ∈ sw_gw := p_mem (p_tb4 (List.mem_of_getElem? (i := 75) (by decide +kernel))) (by decide +kernel)
theorem tw_4_77 : Cond.methodLink "SortWorks$Gear" 111 ⟨"SortWorks$Gear", "isTaker", "()Z"⟩ ∈ sw_gw := p_mem (p_tb4 (List.mem_of_getElem? (i := 77) (by decide +kernel))) (by decide +kernel)
theorem tw_4_78 : Cond.methodLink "SortWorks" 234 ⟨"SortWorks$Works", "freeHoldBut", "(I)I"⟩ ∈ sw_gw := p_mem (p_tb4 (List.mem_of_getElem? (i := 78) (by decide +kernel))) (by decide +kernel)
theorem tw_4_79 : Cond.instanceMethod ⟨"SortWorks$Works", "freeHoldBut", "(I)I"⟩ ∈ sw_gw := p_mem (p_tb4 (List.mem_of_getElem? (i := 79) (by decide +kernel))) (by decide +kernel)
theorem tw_4_80 : Cond.selects "SortWorks$Works" ⟨"SortWorks$Works", "freeHoldBut", "(I)I"⟩ ⟨"SortWorks$Works", "freeHoldBut", "(I)I"⟩ ∈ sw_gw := p_mem (p_tb4 (List.mem_of_getElem? (i := 80) (by decide +kernel))) (by decide +kernel)
theorem tw_4_82 : Cond.methodLink "SortWorks$Works" 122 ⟨"SortWorks$Gear", "isFreeAtStart", "()Z"⟩ ∈ sw_gw := p_mem (p_tb4 (List.mem_of_getElem? (i := 82) (by decide +kernel))) (by decide +kernel)
theorem tw_4_83 : Cond.methodLink "SortWorks" 237 ⟨"SortWorks$State", "carryOver", "(LSortWorks$Parcel;I)V"⟩ ∈ sw_gw := p_mem (p_tb4 (List.mem_of_getElem? (i := 83) (by decide +kernel))) (by decide +kernel)
theorem tw_4_84 : Cond.instanceMethod ⟨"SortWorks$State", "carryOver", "(LSortWorks$Parcel;I)V"⟩ ∈ sw_gw := p_mem (p_tb4 (List.mem_of_getElem? (i := 84) (by decide +kernel))) (by decide +kernel)
theorem tw_4_85 : Cond.selects "SortWorks$State" ⟨"SortWorks$State", "carryOver", "(LSortWorks$Parcel;I)V"⟩ ⟨"SortWorks$State", "carryOver", "(LSortWorks$Parcel;I)V"⟩ ∈ sw_gw := p_mem (p_tb4 (List.mem_of_getElem? (i := 85) (by decide +kernel))) (by decide +kernel)
theorem tw_4_87 : Cond.methodLink "SortWorks$State" 112 ⟨"SortWorks$State", "lift", "(LSortWorks$Parcel;)V"⟩ ∈ sw_gw := p_mem (p_tb4 (List.mem_of_getElem? (i := 87) (by decide +kernel))) (by decide +kernel)
theorem tw_4_88 : Cond.instanceMethod ⟨"SortWorks$State", "lift", "(LSortWorks$Parcel;)V"⟩ ∈ sw_gw := p_mem (p_tb4 (List.mem_of_getElem? (i := 88) (by decide +kernel))) (by decide +kernel)
theorem tw_4_89 : Cond.selects "SortWorks$State" ⟨"SortWorks$State", "lift", "(LSortWorks$Parcel;)V"⟩ ⟨"SortWorks$State", "lift", "(LSortWorks$Parcel;)V"⟩ ∈ sw_gw := p_mem (p_tb4 (List.mem_of_getElem? (i := 89) (by decide +kernel))) (by decide +kernel)
theorem tw_4_91 : Cond.methodLink "SortWorksLaw" 96 ⟨"SortWorks", "carry", "(II)I"⟩ ∈ sw_gw := p_mem (p_tb4 (List.mem_of_getElem? (i := 91) (by decide +kernel))) (by decide +kernel)
theorem tw_4_92 : Cond.instanceMethod ⟨"SortWorks", "carry", "(II)I"⟩ ∈ sw_gw := p_mem (p_tb4 (List.mem_of_getElem? (i := 92) (by decide +kernel))) (by decide +kernel)
theorem tw_4_93 : Cond.selects "SortWorks" ⟨"SortWorks", "carry", "(II)I"⟩ ⟨"SortWorks", "carry", "(II)I"⟩ ∈ sw_gw := p_mem (p_tb4 (List.mem_of_getElem? (i := 93) (by decide +kernel))) (by decide +kernel)
theorem tw_4_95 : Cond.methodLink "SortWorks" 247 ⟨"SortWorks$Gear", "isChuteFor", "(II)Z"⟩ ∈ sw_gw := p_mem (p_tb4 (List.mem_of_getElem? (i := 95) (by decide +kernel))) (by decide +kernel)
theorem tw_4_96 : Cond.instanceMethod ⟨"SortWorks$Gear", "isChuteFor", "(II)Z"⟩ ∈ sw_gw := p_mem (p_tb4 (List.mem_of_getElem? (i := 96) (by decide +kernel))) (by decide +kernel)
theorem tw_4_97 : Cond.selects "SortWorks$Gear" ⟨"SortWorks$Gear", "isChuteFor", "(II)Z"⟩ ⟨"SortWorks$Gear", "isChuteFor", "(II)Z"⟩ ∈ sw_gw := p_mem (p_tb4 (List.mem_of_getElem? (i := 97) (by decide +kernel))) (by decide +kernel)
theorem tw_4_99 : Cond.methodLink "SortWorksLaw" 100 ⟨"SortWorks", "group", "(III)I"⟩ ∈ sw_gw := p_mem (p_tb4 (List.mem_of_getElem? (i := 99) (by decide +kernel))) (by decide +kernel)
theorem tw_4_100 : Cond.instanceMethod ⟨"SortWorks", "group", "(III)I"⟩ ∈ sw_gw := p_mem (p_tb4 (List.mem_of_getElem? (i := 100) (by decide +kernel))) (by decide +kernel)
theorem tw_4_101 : Cond.selects "SortWorks" ⟨"SortWorks", "group", "(III)I"⟩ ⟨"SortWorks", "group", "(III)I"⟩ ∈ sw_gw := p_mem (p_tb4 (List.mem_of_getElem? (i := 101) (by decide +kernel))) (by decide +kernel)
theorem tw_4_103 : Cond.methodLink "SortWorks" 252 ⟨"SortWorks", "isGroup", "(I)Z"⟩ ∈ sw_gw := p_mem (p_tb4 (List.mem_of_getElem? (i := 103) (by decide +kernel))) (by decide +kernel)
theorem tw_4_104 : Cond.static ⟨"SortWorks", "isGroup", "(I)Z"⟩ ∈ sw_gw := p_mem (p_tb4 (List.mem_of_getElem? (i := 104) (by decide +kernel))) (by decide +kernel)
theorem tw_4_106 : Cond.methodLink "SortWorksLaw" 104 ⟨"SortWorks", "enter", "(III)I"⟩ ∈ sw_gw := p_mem (p_tb4 (List.mem_of_getElem? (i := 106) (by decide +kernel))) (by decide +kernel)
theorem tw_4_107 : Cond.instanceMethod ⟨"SortWorks", "enter", "(III)I"⟩ ∈ sw_gw := p_mem (p_tb4 (List.mem_of_getElem? (i := 107) (by decide +kernel))) (by decide +kernel)
theorem tw_4_108 : Cond.selects "SortWorks" ⟨"SortWorks", "enter", "(III)I"⟩ ⟨"SortWorks", "enter", "(III)I"⟩ ∈ sw_gw := p_mem (p_tb4 (List.mem_of_getElem? (i := 108) (by decide +kernel))) (by decide +kernel)
theorem tw_4_110 : Cond.methodLink "SortWorks" 264 ⟨"SortWorks$Gear", "isOfType", "(I)Z"⟩ ∈ sw_gw := p_mem (p_tb4 (List.mem_of_getElem? (i := 110) (by decide +kernel))) (by decide +kernel)
theorem tw_4_111 : Cond.instanceMethod ⟨"SortWorks$Gear", "isOfType", "(I)Z"⟩ ∈ sw_gw := p_mem (p_tb4 (List.mem_of_getElem? (i := 111) (by decide +kernel))) (by decide +kernel)
theorem tw_4_112 : Cond.selects "SortWorks$Gear" ⟨"SortWorks$Gear", "isOfType", "(I)Z"⟩ ⟨"SortWorks$Gear", "isOfType", "(I)Z"⟩ ∈ sw_gw := p_mem (p_tb4 (List.mem_of_getElem? (i := 112) (by decide +kernel))) (by decide +kernel)
theorem tw_4_114 : Cond.methodLink "SortWorks$Gear" 101 ⟨"SortWorks$Gear", "isBelt", "()Z"⟩ ∈ sw_gw := p_mem (p_tb4 (List.mem_of_getElem? (i := 114) (by decide +kernel))) (by decide +kernel)
theorem tw_4_115 : Cond.instanceMethod ⟨"SortWorks$Gear", "isBelt", "()Z"⟩ ∈ sw_gw := p_mem (p_tb4 (List.mem_of_getElem? (i := 115) (by decide +kernel))) (by decide +kernel)
theorem tw_4_116 : Cond.selects "SortWorks$Gear" ⟨"SortWorks$Gear", "isBelt", "()Z"⟩ ⟨"SortWorks$Gear", "isBelt", "()Z"⟩ ∈ sw_gw := p_mem (p_tb4 (List.mem_of_getElem? (i := 116) (by decide +kernel))) (by decide +kernel)
theorem tw_4_118 : Cond.methodLink "SortWorks$Gear" 105 ⟨"SortWorks$Gear", "isScanner", "()Z"⟩ ∈ sw_gw := p_mem (p_tb4 (List.mem_of_getElem? (i := 118) (by decide +kernel))) (by decide +kernel)
theorem tw_4_119 : Cond.instanceMethod ⟨"SortWorks$Gear", "isScanner", "()Z"⟩ ∈ sw_gw := p_mem (p_tb4 (List.mem_of_getElem? (i := 119) (by decide +kernel))) (by decide +kernel)
theorem tw_4_120 : Cond.selects "SortWorks$Gear" ⟨"SortWorks$Gear", "isScanner", "()Z"⟩ ⟨"SortWorks$Gear", "isScanner", "()Z"⟩ ∈ sw_gw := p_mem (p_tb4 (List.mem_of_getElem? (i := 120) (by decide +kernel))) (by decide +kernel)
theorem tw_4_122 : Cond.methodLink "SortWorks$Gear" 108 ⟨"SortWorks$Gear", "isChute", "()Z"⟩ ∈ sw_gw := p_mem (p_tb4 (List.mem_of_getElem? (i := 122) (by decide +kernel))) (by decide +kernel)
theorem tw_4_123 : Cond.methodLink "SortWorksLaw" 108 ⟨"SortWorks", "tally", "(II)I"⟩ ∈ sw_gw := p_mem (p_tb4 (List.mem_of_getElem? (i := 123) (by decide +kernel))) (by decide +kernel)
theorem tw_4_124 : Cond.instanceMethod ⟨"SortWorks", "tally", "(II)I"⟩ ∈ sw_gw := p_mem (p_tb4 (List.mem_of_getElem? (i := 124) (by decide +kernel))) (by decide +kernel)
theorem tw_4_125 : Cond.selects "SortWorks" ⟨"SortWorks", "tally", "(II)I"⟩ ⟨"SortWorks", "tally", "(II)I"⟩ ∈ sw_gw := p_mem (p_tb4 (List.mem_of_getElem? (i := 125) (by decide +kernel))) (by decide +kernel)
theorem tw_4_127 : Cond.methodLink "SortWorksLaw" 112 ⟨"SortWorks", "step", "()I"⟩ ∈ sw_gw := p_mem (p_tb4 (List.mem_of_getElem? (i := 127) (by decide +kernel))) (by decide +kernel)
theorem tw_4_128 : Cond.instanceMethod ⟨"SortWorks", "step", "()I"⟩ ∈ sw_gw := p_mem (p_tb4 (List.mem_of_getElem? (i := 128) (by decide +kernel))) (by decide +kernel)
theorem tw_4_129 : Cond.selects "SortWorks" ⟨"SortWorks", "step", "()I"⟩ ⟨"SortWorks", "step", "()I"⟩ ∈ sw_gw := p_mem (p_tb4 (List.mem_of_getElem? (i := 129) (by decide +kernel))) (by decide +kernel)
theorem tw_4_131 : Cond.methodLink "SortWorks" 273 ⟨"SortWorks$Step", "run", "(LSortWorks$Works;LSortWorks$Numbers;)I"⟩ ∈ sw_gw := p_mem (p_tb4 (List.mem_of_getElem? (i := 131) (by decide +kernel))) (by decide +kernel)
theorem tw_4_132 : Cond.instanceMethod ⟨"SortWorks$Step", "run", "(LSortWorks$Works;LSortWorks$Numbers;)I"⟩ ∈ sw_gw := p_mem (p_tb4 (List.mem_of_getElem? (i := 132) (by decide +kernel))) (by decide +kernel)
theorem tw_4_133 : Cond.selects "SortWorks$Step" ⟨"SortWorks$Step", "run", "(LSortWorks$Works;LSortWorks$Numbers;)I"⟩ ⟨"SortWorks$Step", "run", "(LSortWorks$Works;LSortWorks$Numbers;)I"⟩ ∈ sw_gw := p_mem (p_tb4 (List.mem_of_getElem? (i := 133) (by decide +kernel))) (by decide +kernel)
theorem tw_4_135 : Cond.methodLink "SortWorks$Step" 50 ⟨"SortWorks$Works", "keep", "(I)V"⟩ ∈ sw_gw := p_mem (p_tb4 (List.mem_of_getElem? (i := 135) (by decide +kernel))) (by decide +kernel)
theorem tw_4_136 : Cond.instanceMethod ⟨"SortWorks$Works", "keep", "(I)V"⟩ ∈ sw_gw := p_mem (p_tb4 (List.mem_of_getElem? (i := 136) (by decide +kernel))) (by decide +kernel)
theorem tw_4_137 : Cond.selects "SortWorks$Works" ⟨"SortWorks$Works", "keep", "(I)V"⟩ ⟨"SortWorks$Works", "keep", "(I)V"⟩ ∈ sw_gw := p_mem (p_tb4 (List.mem_of_getElem? (i := 137) (by decide +kernel))) (by decide +kernel)
theorem tw_4_139 : Cond.methodLink "SortWorks$Works" 97 ⟨"SortWorks$State", "keep", "(II)V"⟩ ∈ sw_gw := p_mem (p_tb4 (List.mem_of_getElem? (i := 139) (by decide +kernel))) (by decide +kernel)
theorem tw_4_140 : Cond.instanceMethod ⟨"SortWorks$State", "keep", "(II)V"⟩ ∈ sw_gw := p_mem (p_tb4 (List.mem_of_getElem? (i := 140) (by decide +kernel))) (by decide +kernel)
theorem tw_4_141 : Cond.selects "SortWorks$State" ⟨"SortWorks$State", "keep", "(II)V"⟩ ⟨"SortWorks$State", "keep", "(II)V"⟩ ∈ sw_gw := p_mem (p_tb4 (List.mem_of_getElem? (i := 141) (by decide +kernel))) (by decide +kernel)
theorem tw_4_143 : Cond.methodLink "SortWorks$State" 59 ⟨"java/lang/System", "arraycopy", "(Ljava/lang/Object;ILjava/lang/Object;II)V"⟩ ∈ sw_gw := p_mem (p_tb4 (List.mem_of_getElem? (i := 143) (by decide +kernel))) (by decide +kernel)
theorem tw_4_144 : Cond.methodLink "SortWorks$State" 65 ⟨"SortWorks$Gear", "keep", "(I)V"⟩ ∈ sw_gw := p_mem (p_tb4 (List.mem_of_getElem? (i := 144) (by decide +kernel))) (by decide +kernel)
theorem tw_4_145 : Cond.instanceMethod ⟨"SortWorks$Gear", "keep", "(I)V"⟩ ∈ sw_gw := p_mem (p_tb4 (List.mem_of_getElem? (i := 145) (by decide +kernel))) (by decide +kernel)
theorem tw_4_146 : Cond.selects "SortWorks$Gear" ⟨"SortWorks$Gear", "keep", "(I)V"⟩ ⟨"SortWorks$Gear", "keep", "(I)V"⟩ ∈ sw_gw := p_mem (p_tb4 (List.mem_of_getElem? (i := 146) (by decide +kernel))) (by decide +kernel)
theorem tw_4_148 : Cond.methodLink "SortWorks$State" 68 ⟨"SortWorks$Parcel", "keep", "(I)V"⟩ ∈ sw_gw := p_mem (p_tb4 (List.mem_of_getElem? (i := 148) (by decide +kernel))) (by decide +kernel)
theorem tw_4_149 : Cond.instanceMethod ⟨"SortWorks$Parcel", "keep", "(I)V"⟩ ∈ sw_gw := p_mem (p_tb4 (List.mem_of_getElem? (i := 149) (by decide +kernel))) (by decide +kernel)
theorem tw_4_150 : Cond.selects "SortWorks$Parcel" ⟨"SortWorks$Parcel", "keep", "(I)V"⟩ ⟨"SortWorks$Parcel", "keep", "(I)V"⟩ ∈ sw_gw := p_mem (p_tb4 (List.mem_of_getElem? (i := 150) (by decide +kernel))) (by decide +kernel)
theorem tw_4_152 : Cond.methodLink "SortWorks$Parcel" 53 ⟨"java/lang/System", "arraycopy", "(Ljava/lang/Object;ILjava/lang/Object;II)V"⟩ ∈ sw_gw := p_mem (p_tb4 (List.mem_of_getElem? (i := 152) (by decide +kernel))) (by decide +kernel)
theorem tw_4_153 : Cond.methodLink "SortWorks$State" 69 ⟨"SortWorks$Log", "keep", "(I)V"⟩ ∈ sw_gw := p_mem (p_tb4 (List.mem_of_getElem? (i := 153) (by decide +kernel))) (by decide +kernel)
theorem tw_4_154 : Cond.instanceMethod ⟨"SortWorks$Log", "keep", "(I)V"⟩ ∈ sw_gw := p_mem (p_tb4 (List.mem_of_getElem? (i := 154) (by decide +kernel))) (by decide +kernel)
theorem tw_4_155 : Cond.selects "SortWorks$Log" ⟨"SortWorks$Log", "keep", "(I)V"⟩ ⟨"SortWorks$Log", "keep", "(I)V"⟩ ∈ sw_gw := p_mem (p_tb4 (List.mem_of_getElem? (i := 155) (by decide +kernel))) (by decide +kernel)
theorem tw_4_157 : Cond.methodLink "SortWorks$Log" 31 ⟨"java/lang/System", "arraycopy", "(Ljava/lang/Object;ILjava/lang/Object;II)V"⟩ ∈ sw_gw := p_mem (p_tb4 (List.mem_of_getElem? (i := 157) (by decide +kernel))) (by decide +kernel)
theorem tw_4_158 : Cond.methodLink "SortWorks$Works" 104 ⟨"java/lang/Math", "min", "(II)I"⟩ ∈ sw_gw := p_mem (p_tb4 (List.mem_of_getElem? (i := 158) (by decide +kernel))) (by decide +kernel)
theorem tw_4_159 : Cond.static ⟨"java/lang/Math", "min", "(II)I"⟩ ∈ sw_gw := p_mem (p_tb4 (List.mem_of_getElem? (i := 159) (by decide +kernel))) (by decide +kernel)
theorem tw_4_161 : Cond.methodLink "SortWorks$Step" 73 ⟨"SortWorks$Step", "doPlan", "(I)V"⟩ ∈ sw_gw := p_mem (p_tb4 (List.mem_of_getElem? (i := 161) (by decide +kernel))) (by decide +kernel)
theorem tw_4_163 : Cond.instanceMethod ⟨"SortWorks$Step", "doPlan", "(I)V"⟩ ∈ sw_gw := p_mem (p_tb4 (List.mem_of_getElem? (i := 163) (by decide +kernel))) (by decide +kernel)
theorem tw_4_165 : Cond.methodLink "SortWorks$Step" 121 ⟨"SortWorks$Step", "planFault", "([II)I"⟩ ∈ sw_gw := p_mem (p_tb4 (List.mem_of_getElem? (i := 165) (by decide +kernel))) (by decide +kernel)
theorem tw_4_167 : Cond.instanceMethod ⟨"SortWorks$Step", "planFault", "([II)I"⟩ ∈ sw_gw := p_mem (p_tb4 (List.mem_of_getElem? (i := 167) (by decide +kernel))) (by decide +kernel)
theorem tw_4_169 : Cond.methodLink "SortWorks$Step" 129 ⟨"SortWorks$Works", "gearOf", "(I)LSortWorks$Gear;"⟩ ∈ sw_gw := p_mem (p_tb4 (List.mem_of_getElem? (i := 169) (by decide +kernel))) (by decide +kernel)
theorem tw_4_170 : Cond.methodLink "SortWorks$Step" 133 ⟨"SortWorks$Step", "isForPlan", "(LSortWorks$Gear;I)Z"⟩ ∈ sw_gw := p_mem (p_tb4 (List.mem_of_getElem? (i := 170) (by decide +kernel))) (by decide +kernel)
theorem tw_4_171 : Cond.static ⟨"SortWorks$Step", "isForPlan", "(LSortWorks$Gear;I)Z"⟩ ∈ sw_gw := p_mem (p_tb4 (List.mem_of_getElem? (i := 171) (by decide +kernel))) (by decide +kernel)
theorem tw_4_173 : Cond.methodLink "SortWorks$Step" 141 ⟨"SortWorks$Gear", "isDivert", "()Z"⟩ ∈ sw_gw := p_mem (p_tb4 (List.mem_of_getElem? (i := 173) (by decide +kernel))) (by decide +kernel)
theorem tw_4_174 : Cond.methodLink "SortWorks$Step" 137 ⟨"SortWorks$Step", "planByNumber", "(LSortWorks$Gear;II)I"⟩ ∈ sw_gw := p_mem (p_tb4 (List.mem_of_getElem? (i := 174) (by decide +kernel))) (by decide +kernel)
theorem tw_4_175 : Cond.static ⟨"SortWorks$Step", "planByNumber", "(LSortWorks$Gear;II)I"⟩ ∈ sw_gw := p_mem (p_tb4 (List.mem_of_getElem? (i := 175) (by decide +kernel))) (by decide +kernel)
theorem tw_4_177 : Cond.methodLink "SortWorks$Step" 148 ⟨"SortWorks$Gear", "parcels", "()I"⟩ ∈ sw_gw := p_mem (p_tb4 (List.mem_of_getElem? (i := 177) (by decide +kernel))) (by decide +kernel)
theorem tw_4_178 : Cond.methodLink "SortWorks$Step" 151 ⟨"SortWorks$Gear", "hasSide", "(I)Z"⟩ ∈ sw_gw := p_mem (p_tb4 (List.mem_of_getElem? (i := 178) (by decide +kernel))) (by decide +kernel)
theorem tw_4_179 : Cond.methodLink "SortWorks$Step" 125 ⟨"SortWorks$Step", "addFinding", "(IIII)V"⟩ ∈ sw_gw := p_mem (p_tb4 (List.mem_of_getElem? (i := 179) (by decide +kernel))) (by decide +kernel)
theorem tw_4_181 : Cond.instanceMethod ⟨"SortWorks$Step", "addFinding", "(IIII)V"⟩ ∈ sw_gw := p_mem (p_tb4 (List.mem_of_getElem? (i := 181) (by decide +kernel))) (by decide +kernel)
theorem tw_4_183 : Cond.methodLink "SortWorks$Step" 102 ⟨"SortWorks$Log", "add", "(IIIII)V"⟩ ∈ sw_gw := p_mem (p_tb4 (List.mem_of_getElem? (i := 183) (by decide +kernel))) (by decide +kernel)
theorem tw_4_184 : Cond.instanceMethod ⟨"SortWorks$Log", "add", "(IIIII)V"⟩ ∈ sw_gw := p_mem (p_tb4 (List.mem_of_getElem? (i := 184) (by decide +kernel))) (by decide +kernel)
theorem tw_4_185 : Cond.selects "SortWorks$Log" ⟨"SortWorks$Log", "add", "(IIIII)V"⟩ ⟨"SortWorks$Log", "add", "(IIIII)V"⟩ ∈ sw_gw := p_mem (p_tb4 (List.mem_of_getElem? (i := 185) (by decide +kernel))) (by decide +kernel)
theorem tw_4_187 : Cond.methodLink "SortWorks$Step" 76 ⟨"SortWorks$Step", "letMergesChoose", "()V"⟩ ∈ sw_gw := p_mem (p_tb4 (List.mem_of_getElem? (i := 187) (by decide +kernel))) (by decide +kernel)
theorem tw_4_189 : Cond.instanceMethod ⟨"SortWorks$Step", "letMergesChoose", "()V"⟩ ∈ sw_gw := p_mem (p_tb4 (List.mem_of_getElem? (i := 189) (by decide +kernel))) (by decide +kernel)
theorem tw_4_191 : Cond.methodLink "SortWorks$Step" 164 ⟨"SortWorks$Step", "isReadyToGive", "(LSortWorks$Gear;)Z"⟩ ∈ sw_gw := p_mem (p_tb4 (List.mem_of_getElem? (i := 191) (by decide +kernel))) (by decide +kernel)
theorem tw_4_193 : Cond.instanceMethod ⟨"SortWorks$Step", "isReadyToGive", "(LSortWorks$Gear;)Z"⟩ ∈ sw_gw := p_mem (p_tb4 (List.mem_of_getElem? (i := 193) (by decide +kernel))) (by decide +kernel)
theorem tw_4_195 : Cond.methodLink "SortWorks$Step" 178 ⟨"SortWorks$Gear", "isTaker", "()Z"⟩ ∈ sw_gw := p_mem (p_tb4 (List.mem_of_getElem? (i := 195) (by decide +kernel))) (by decide +kernel)
theorem tw_4_196 : Cond.methodLink "SortWorks$Step" 86 ⟨"SortWorks$Step", "isInStep", "(LSortWorks$Gear;)Z"⟩ ∈ sw_gw := p_mem (p_tb4 (List.mem_of_getElem? (i := 196) (by decide +kernel))) (by decide +kernel)
theorem tw_4_198 : Cond.instanceMethod ⟨"SortWorks$Step", "isInStep", "(LSortWorks$Gear;)Z"⟩ ∈ sw_gw := p_mem (p_tb4 (List.mem_of_getElem? (i := 198) (by decide +kernel))) (by decide +kernel)
theorem tw_4_202 : Cond.methodLink "SortWorks$Step" 181 ⟨"SortWorks$State", "inLastSlot", "(LSortWorks$Gear;)LSortWorks$Parcel;"⟩ ∈ sw_gw := p_mem (p_tb4 (List.mem_of_getElem? (i := 202) (by decide +kernel))) (by decide +kernel)
theorem tw_4_203 : Cond.methodLink "SortWorks$Step" 185 ⟨"SortWorks$Gear", "isHeld", "()Z"⟩ ∈ sw_gw := p_mem (p_tb4 (List.mem_of_getElem? (i := 203) (by decide +kernel))) (by decide +kernel)
theorem tw_4_204 : Cond.instanceMethod ⟨"SortWorks$Gear", "isHeld", "()Z"⟩ ∈ sw_gw := p_mem (p_tb4 (List.mem_of_getElem? (i := 204) (by decide +kernel))) (by decide +kernel)
theorem tw_4_205 : Cond.selects "SortWorks$Gear" ⟨"SortWorks$Gear", "isHeld", "()Z"⟩ ⟨"SortWorks$Gear", "isHeld", "()Z"⟩ ∈ sw_gw := p_mem (p_tb4 (List.mem_of_getElem? (i := 205) (by decide +kernel))) (by decide +kernel)
theorem tw_4_207 : Cond.methodLink "SortWorks$Step" 167 ⟨"SortWorks$Gear", "linkAhead", "()I"⟩ ∈ sw_gw := p_mem (p_tb4 (List.mem_of_getElem? (i := 207) (by decide +kernel))) (by decide +kernel)
theorem tw_4_208 : Cond.instanceMethod ⟨"SortWorks$Gear", "linkAhead", "()I"⟩ ∈ sw_gw := p_mem (p_tb4 (List.mem_of_getElem? (i := 208) (by decide +kernel))) (by decide +kernel)
theorem tw_4_209 : Cond.selects "SortWorks$Gear" ⟨"SortWorks$Gear", "linkAhead", "()I"⟩ ⟨"SortWorks$Gear", "linkAhead", "()I"⟩ ∈ sw_gw := p_mem (p_tb4 (List.mem_of_getElem? (i := 209) (by decide +kernel))) (by decide +kernel)
theorem tw_4_211 : Cond.methodLink "SortWorks$Gear" 123 ⟨"SortWorks$Gear", "isDivert", "()Z"⟩ ∈ sw_gw := p_mem (p_tb4 (List.mem_of_getElem? (i := 211) (by decide +kernel))) (by decide +kernel)
theorem tw_4_212 : Cond.methodLink "SortWorks$Step" 170 ⟨"SortWorks$Works", "follow", "(LSortWorks$Gear;I)I"⟩ ∈ sw_gw := p_mem (p_tb4 (List.mem_of_getElem? (i := 212) (by decide +kernel))) (by decide +kernel)
theorem tw_4_213 : Cond.instanceMethod ⟨"SortWorks$Works", "follow", "(LSortWorks$Gear;I)I"⟩ ∈ sw_gw := p_mem (p_tb4 (List.mem_of_getElem? (i := 213) (by decide +kernel))) (by decide +kernel)
theorem tw_4_214 : Cond.selects "SortWorks$Works" ⟨"SortWorks$Works", "follow", "(LSortWorks$Gear;I)I"⟩ ⟨"SortWorks$Works", "follow", "(LSortWorks$Gear;I)I"⟩ ∈ sw_gw := p_mem (p_tb4 (List.mem_of_getElem? (i := 214) (by decide +kernel))) (by decide +kernel)
theorem tw_4_216 : Cond.methodLink "SortWorks$Step" 174 ⟨"SortWorks$Step", "isBetter", "(ILSortWorks$Gear;)Z"⟩ ∈ sw_gw := p_mem (p_tb4 (List.mem_of_getElem? (i := 216) (by decide +kernel))) (by decide +kernel)
theorem tw_4_218 : Cond.instanceMethod ⟨"SortWorks$Step", "isBetter", "(ILSortWorks$Gear;)Z"⟩ ∈ sw_gw := p_mem (p_tb4 (List.mem_of_getElem? (i := 218) (by decide +kernel))) (by decide +kernel)
theorem tw_4_220 : Cond.methodLink "SortWorks$Step" 90 ⟨"SortWorks$Step", "act", "(I)V"⟩ ∈ sw_gw := p_mem (p_tb4 (List.mem_of_getElem? (i := 220) (by decide +kernel))) (by decide +kernel)
theorem tw_4_222 : Cond.instanceMethod ⟨"SortWorks$Step", "act", "(I)V"⟩ ∈ sw_gw := p_mem (p_tb4 (List.mem_of_getElem? (i := 222) (by decide +kernel))) (by decide +kernel)
theorem tw_4_226 : Cond.methodLink "SortWorks$Step" 197 ⟨"SortWorks$Step", "addTrace", "(I)V"⟩ ∈ sw_gw := p_mem (p_tb4 (List.mem_of_getElem? (i := 226) (by decide +kernel))) (by decide +kernel)
theorem tw_4_228 : Cond.instanceMethod ⟨"SortWorks$Step", "addTrace", "(I)V"⟩ ∈ sw_gw := p_mem (p_tb4 (List.mem_of_getElem? (i := 228) (by decide +kernel))) (by decide +kernel)
theorem tw_4_230 : Cond.methodLink "SortWorks$Step" 200 ⟨"SortWorks$Gear", "isScanner", "()Z"⟩ ∈ sw_gw := p_mem (p_tb4 (List.mem_of_getElem? (i := 230) (by decide +kernel))) (by decide +kernel)
theorem tw_4_231 : Cond.methodLink "SortWorks$Step" 203 ⟨"SortWorks$Step", "scan", "(ILSortWorks$Gear;)Z"⟩ ∈ sw_gw := p_mem (p_tb4 (List.mem_of_getElem? (i := 231) (by decide +kernel))) (by decide +kernel)
theorem tw_4_233 : Cond.instanceMethod ⟨"SortWorks$Step", "scan", "(ILSortWorks$Gear;)Z"⟩ ∈ sw_gw := p_mem (p_tb4 (List.mem_of_getElem? (i := 233) (by decide +kernel))) (by decide +kernel)
theorem tw_4_235 : Cond.methodLink "SortWorks$Step" 259 ⟨"SortWorks$Reading", "read", "(LSortWorks$Parcel;)I"⟩ ∈ sw_gw := p_mem (p_tb4 (List.mem_of_getElem? (i := 235) (by decide +kernel))) (by decide +kernel)
theorem tw_4_236 : Cond.instanceMethod ⟨"SortWorks$Reading", "read", "(LSortWorks$Parcel;)I"⟩ ∈ sw_gw := p_mem (p_tb4 (List.mem_of_getElem? (i := 236) (by decide +kernel))) (by decide +kernel)
theorem tw_4_237 : Cond.selects "SortWorks$Reading" ⟨"SortWorks$Reading", "read", "(LSortWorks$Parcel;)I"⟩ ⟨"SortWorks$Reading", "read", "(LSortWorks$Parcel;)I"⟩ ∈ sw_gw := p_mem (p_tb4 (List.mem_of_getElem? (i := 237) (by decide +kernel))) (by decide +kernel)
theorem tw_4_239 : Cond.methodLink "SortWorks$Reading" 24 ⟨"SortWorks$Reading", "readFormA", "(LSortWorks$Parcel;)I"⟩ ∈ sw_gw := p_mem (p_tb4 (List.mem_of_getElem? (i := 239) (by decide +kernel))) (by decide +kernel)
theorem tw_5_1 : Cond.instanceMethod ⟨"SortWorks$Reading", "readFormA", "(LSortWorks$Parcel;)I"⟩ ∈ sw_gw := p_mem (p_tb5 (List.mem_of_getElem? (i := 1) (by decide +kernel))) (by decide +kernel)
theorem tw_5_3 : Cond.methodLink "SortWorks$Reading" 28 ⟨"SortWorks$Reading", "readFormB", "(LSortWorks$Parcel;)I"⟩ ∈ sw_gw := p_mem (p_tb5 (List.mem_of_getElem? (i := 3) (by decide +kernel))) (by decide +kernel)
theorem tw_5_5 : Cond.instanceMethod ⟨"SortWorks$Reading", "readFormB", "(LSortWorks$Parcel;)I"⟩ ∈ sw_gw := p_mem (p_tb5 (List.mem_of_getElem? (i := 5) (by decide +kernel))) (by decide +kernel)
theorem tw_5_7 : Cond.methodLink "SortWorks$Step" 273 ⟨"SortWorks$Step", "targetByRules", "(I)I"⟩ ∈ sw_gw := p_mem (p_tb5 (List.mem_of_getElem? (i := 7) (by decide +kernel))) (by decide +kernel)
theorem tw_5_9 : Cond.instanceMethod ⟨"SortWorks$Step", "targetByRules", "(I)I"⟩ ∈ sw_gw := p_mem (p_tb5 (List.mem_of_getElem? (i := 9) (by decide +kernel))) (by decide +kernel)
theorem tw_5_11 : Cond.methodLink "SortWorks$Step" 284 ⟨"SortWorks$Step", "holds", "(I)I"⟩ ∈ sw_gw := p_mem (p_tb5 (List.mem_of_getElem? (i := 11) (by decide +kernel))) (by decide +kernel)
theorem tw_5_13 : Cond.instanceMethod ⟨"SortWorks$Step", "holds", "(I)I"⟩ ∈ sw_gw := p_mem (p_tb5 (List.mem_of_getElem? (i := 13) (by decide +kernel))) (by decide +kernel)
theorem tw_5_15 : Cond.methodLink "SortWorks$Step" 302 ⟨"SortWorks$Step", "quotient", "(I)I"⟩ ∈ sw_gw := p_mem (p_tb5 (List.mem_of_getElem? (i := 15) (by decide +kernel))) (by decide +kernel)
theorem tw_5_17 : Cond.instanceMethod ⟨"SortWorks$Step", "quotient", "(I)I"⟩ ∈ sw_gw := p_mem (p_tb5 (List.mem_of_getElem? (i := 17) (by decide +kernel))) (by decide +kernel)
theorem tw_5_19 : Cond.methodLink "SortWorks$Step" 324 ⟨"SortWorks$Gear", "isChute", "()Z"⟩ ∈ sw_gw := p_mem (p_tb5 (List.mem_of_getElem? (i := 19) (by decide +kernel))) (by decide +kernel)
theorem tw_5_20 : Cond.methodLink "SortWorks$Step" 305 ⟨"SortWorks$Step", "plainValue", "(I)I"⟩ ∈ sw_gw := p_mem (p_tb5 (List.mem_of_getElem? (i := 20) (by decide +kernel))) (by decide +kernel)
theorem tw_5_22 : Cond.instanceMethod ⟨"SortWorks$Step", "plainValue", "(I)I"⟩ ∈ sw_gw := p_mem (p_tb5 (List.mem_of_getElem? (i := 22) (by decide +kernel))) (by decide +kernel)
theorem tw_5_24 : Cond.methodLink "SortWorks$Step" 311 ⟨"java/lang/Integer", "compare", "(II)I"⟩ ∈ sw_gw := p_mem (p_tb5 (List.mem_of_getElem? (i := 24) (by decide +kernel))) (by decide +kernel)
theorem tw_5_25 : Cond.static ⟨"java/lang/Integer", "compare", "(II)I"⟩ ∈ sw_gw := p_mem (p_tb5 (List.mem_of_getElem? (i := 25) (by decide +kernel))) (by decide +kernel)
theorem tw_5_27 : Cond.methodLink "SortWorks$Step" 206 ⟨"SortWorks$Step", "passOn", "(ILSortWorks$Gear;Z)V"⟩ ∈ sw_gw := p_mem (p_tb5 (List.mem_of_getElem? (i := 27) (by decide +kernel))) (by decide +kernel)
theorem tw_5_29 : Cond.instanceMethod ⟨"SortWorks$Step", "passOn", "(ILSortWorks$Gear;Z)V"⟩ ∈ sw_gw := p_mem (p_tb5 (List.mem_of_getElem? (i := 29) (by decide +kernel))) (by decide +kernel)
theorem tw_5_31 : Cond.methodLink "SortWorks$Step" 327 ⟨"SortWorks$Step", "giveOut", "(ILSortWorks$Gear;LSortWorks$Parcel;)Z"⟩ ∈ sw_gw := p_mem (p_tb5 (List.mem_of_getElem? (i := 31) (by decide +kernel))) (by decide +kernel)
theorem tw_5_33 : Cond.instanceMethod ⟨"SortWorks$Step", "giveOut", "(ILSortWorks$Gear;LSortWorks$Parcel;)Z"⟩ ∈ sw_gw := p_mem (p_tb5 (List.mem_of_getElem? (i := 33) (by decide +kernel))) (by decide +kernel)
theorem tw_5_35 : Cond.methodLink "SortWorks$Step" 334 ⟨"SortWorks$Step", "leaveBy", "(IILSortWorks$Parcel;)V"⟩ ∈ sw_gw := p_mem (p_tb5 (List.mem_of_getElem? (i := 35) (by decide +kernel))) (by decide +kernel)
theorem tw_5_37 : Cond.instanceMethod ⟨"SortWorks$Step", "leaveBy", "(IILSortWorks$Parcel;)V"⟩ ∈ sw_gw := p_mem (p_tb5 (List.mem_of_getElem? (i := 37) (by decide +kernel))) (by decide +kernel)
theorem tw_5_39 : Cond.methodLink "SortWorks$Step" 338 ⟨"SortWorks$State", "lift", "(LSortWorks$Parcel;)V"⟩ ∈ sw_gw := p_mem (p_tb5 (List.mem_of_getElem? (i := 39) (by decide +kernel))) (by decide +kernel)
theorem tw_5_40 : Cond.methodLink "SortWorks$Step" 352 ⟨"SortWorks$Numbers", "takeOut", "(III)V"⟩ ∈ sw_gw := p_mem (p_tb5 (List.mem_of_getElem? (i := 40) (by decide +kernel))) (by decide +kernel)
theorem tw_5_41 : Cond.instanceMethod ⟨"SortWorks$Numbers", "takeOut", "(III)V"⟩ ∈ sw_gw := p_mem (p_tb5 (List.mem_of_getElem? (i := 41) (by decide +kernel))) (by decide +kernel)
theorem tw_5_42 : Cond.selects "SortWorks$Numbers" ⟨"SortWorks$Numbers", "takeOut", "(III)V"⟩ ⟨"SortWorks$Numbers", "takeOut", "(III)V"⟩ ∈ sw_gw := p_mem (p_tb5 (List.mem_of_getElem? (i := 42) (by decide +kernel))) (by decide +kernel)
theorem tw_5_44 : Cond.methodLink "SortWorks$Step" 331 ⟨"SortWorks$Step", "giveOn", "(ILSortWorks$Gear;LSortWorks$Parcel;)Z"⟩ ∈ sw_gw := p_mem (p_tb5 (List.mem_of_getElem? (i := 44) (by decide +kernel))) (by decide +kernel)
theorem tw_5_46 : Cond.instanceMethod ⟨"SortWorks$Step", "giveOn", "(ILSortWorks$Gear;LSortWorks$Parcel;)Z"⟩ ∈ sw_gw := p_mem (p_tb5 (List.mem_of_getElem? (i := 46) (by decide +kernel))) (by decide +kernel)
theorem tw_5_48 : Cond.methodLink "SortWorks$Step" 359 ⟨"SortWorks$Step", "takes", "(III)Z"⟩ ∈ sw_gw := p_mem (p_tb5 (List.mem_of_getElem? (i := 48) (by decide +kernel))) (by decide +kernel)
theorem tw_5_50 : Cond.instanceMethod ⟨"SortWorks$Step", "takes", "(III)Z"⟩ ∈ sw_gw := p_mem (p_tb5 (List.mem_of_getElem? (i := 50) (by decide +kernel))) (by decide +kernel)
theorem tw_5_52 : Cond.methodLink "SortWorks$Step" 367 ⟨"SortWorks$Step", "mergeTakes", "(LSortWorks$Gear;I)Z"⟩ ∈ sw_gw := p_mem (p_tb5 (List.mem_of_getElem? (i := 52) (by decide +kernel))) (by decide +kernel)
theorem tw_5_54 : Cond.instanceMethod ⟨"SortWorks$Step", "mergeTakes", "(LSortWorks$Gear;I)Z"⟩ ∈ sw_gw := p_mem (p_tb5 (List.mem_of_getElem? (i := 54) (by decide +kernel))) (by decide +kernel)
theorem tw_5_56 : Cond.methodLink "SortWorks$Step" 380 ⟨"SortWorks$Gear", "isFreeAtStart", "()Z"⟩ ∈ sw_gw := p_mem (p_tb5 (List.mem_of_getElem? (i := 56) (by decide +kernel))) (by decide +kernel)
theorem tw_5_57 : Cond.methodLink "SortWorks$Step" 370 ⟨"SortWorks$Gear", "wantedSide", "(I)I"⟩ ∈ sw_gw := p_mem (p_tb5 (List.mem_of_getElem? (i := 57) (by decide +kernel))) (by decide +kernel)
theorem tw_5_58 : Cond.instanceMethod ⟨"SortWorks$Gear", "wantedSide", "(I)I"⟩ ∈ sw_gw := p_mem (p_tb5 (List.mem_of_getElem? (i := 58) (by decide +kernel))) (by decide +kernel)
theorem tw_5_59 : Cond.selects "SortWorks$Gear" ⟨"SortWorks$Gear", "wantedSide", "(I)I"⟩ ⟨"SortWorks$Gear", "wantedSide", "(I)I"⟩ ∈ sw_gw := p_mem (p_tb5 (List.mem_of_getElem? (i := 59) (by decide +kernel))) (by decide +kernel)
theorem tw_5_61 : Cond.methodLink "SortWorks$Gear" 119 ⟨"SortWorks$Gear", "aims", "(II)Z"⟩ ∈ sw_gw := p_mem (p_tb5 (List.mem_of_getElem? (i := 61) (by decide +kernel))) (by decide +kernel)
theorem tw_5_62 : Cond.methodLink "SortWorks$Step" 373 ⟨"SortWorks$Step", "divertTakes", "(LSortWorks$Gear;I)Z"⟩ ∈ sw_gw := p_mem (p_tb5 (List.mem_of_getElem? (i := 62) (by decide +kernel))) (by decide +kernel)
theorem tw_5_63 : Cond.static ⟨"SortWorks$Step", "divertTakes", "(LSortWorks$Gear;I)Z"⟩ ∈ sw_gw := p_mem (p_tb5 (List.mem_of_getElem? (i := 63) (by decide +kernel))) (by decide +kernel)
theorem tw_5_65 : Cond.methodLink "SortWorks$Step" 376 ⟨"SortWorks$Gear", "isChuteFor", "(II)Z"⟩ ∈ sw_gw := p_mem (p_tb5 (List.mem_of_getElem? (i := 65) (by decide +kernel))) (by decide +kernel)
theorem tw_5_66 : Cond.methodLink "SortWorks$Step" 363 ⟨"SortWorks$State", "carryOver", "(LSortWorks$Parcel;I)V"⟩ ∈ sw_gw := p_mem (p_tb5 (List.mem_of_getElem? (i := 66) (by decide +kernel))) (by decide +kernel)
theorem tw_5_67 : Cond.methodLink "SortWorks$Step" 210 ⟨"SortWorks$Step", "moveUp", "(LSortWorks$Gear;)V"⟩ ∈ sw_gw := p_mem (p_tb5 (List.mem_of_getElem? (i := 67) (by decide +kernel))) (by decide +kernel)
theorem tw_5_69 : Cond.instanceMethod ⟨"SortWorks$Step", "moveUp", "(LSortWorks$Gear;)V"⟩ ∈ sw_gw := p_mem (p_tb5 (List.mem_of_getElem? (i := 69) (by decide +kernel))) (by decide +kernel)
theorem tw_5_71 : Cond.methodLink "SortWorks$Step" 234 ⟨"SortWorks$State", "inSlot", "(LSortWorks$Gear;I)LSortWorks$Parcel;"⟩ ∈ sw_gw := p_mem (p_tb5 (List.mem_of_getElem? (i := 71) (by decide +kernel))) (by decide +kernel)
theorem tw_5_72 : Cond.methodLink "SortWorks$Step" 214 ⟨"SortWorks$Step", "setDial", "(ILSortWorks$Gear;)V"⟩ ∈ sw_gw := p_mem (p_tb5 (List.mem_of_getElem? (i := 72) (by decide +kernel))) (by decide +kernel)
theorem tw_5_74 : Cond.instanceMethod ⟨"SortWorks$Step", "setDial", "(ILSortWorks$Gear;)V"⟩ ∈ sw_gw := p_mem (p_tb5 (List.mem_of_getElem? (i := 74) (by decide +kernel))) (by decide +kernel)
theorem tw_5_76 : Cond.methodLink "SortWorks$Step" 221 ⟨"SortWorks$Step", "lampOf", "(LSortWorks$Gear;)I"⟩ ∈ sw_gw := p_mem (p_tb5 (List.mem_of_getElem? (i := 76) (by decide +kernel))) (by decide +kernel)
theorem tw_5_78 : Cond.instanceMethod ⟨"SortWorks$Step", "lampOf", "(LSortWorks$Gear;)I"⟩ ∈ sw_gw := p_mem (p_tb5 (List.mem_of_getElem? (i := 78) (by decide +kernel))) (by decide +kernel)
theorem tw_5_80 : Cond.methodLink "SortWorksLaw" 116 ⟨"SortWorks", "night", "(II)I"⟩ ∈ sw_gw := p_mem (p_tb5 (List.mem_of_getElem? (i := 80) (by decide +kernel))) (by decide +kernel)
theorem tw_5_81 : Cond.instanceMethod ⟨"SortWorks", "night", "(II)I"⟩ ∈ sw_gw := p_mem (p_tb5 (List.mem_of_getElem? (i := 81) (by decide +kernel))) (by decide +kernel)
theorem tw_5_82 : Cond.selects "SortWorks" ⟨"SortWorks", "night", "(II)I"⟩ ⟨"SortWorks", "night", "(II)I"⟩ ∈ sw_gw := p_mem (p_tb5 (List.mem_of_getElem? (i := 82) (by decide +kernel))) (by decide +kernel)
theorem tw_5_84 : Cond.methodLink "SortWorks" 280 ⟨"SortWorks", "drawnAfter", "(I)I"⟩ ∈ sw_gw := p_mem (p_tb5 (List.mem_of_getElem? (i := 84) (by decide +kernel))) (by decide +kernel)
theorem tw_5_85 : Cond.static ⟨"SortWorks", "drawnAfter", "(I)I"⟩ ∈ sw_gw := p_mem (p_tb5 (List.mem_of_getElem? (i := 85) (by decide +kernel))) (by decide +kernel)
theorem tw_5_87 : Cond.constant "SortWorks" 287 (1103515245 : Int32) ∈ sw_gw := p_mem (p_tb5 (List.mem_of_getElem? (i := 87) (by decide +kernel))) (by decide +kernel)
theorem tw_5_88 : Cond.methodLink "SortWorks" 283 ⟨"SortWorks", "comeByNight", "(III)I"⟩ ∈ sw_gw := p_mem (p_tb5 (List.mem_of_getElem? (i := 88) (by decide +kernel))) (by decide +kernel)
theorem tw_5_90 : Cond.instanceMethod ⟨"SortWorks", "comeByNight", "(III)I"⟩ ∈ sw_gw := p_mem (p_tb5 (List.mem_of_getElem? (i := 90) (by decide +kernel))) (by decide +kernel)
theorem tw_5_92 : Cond.methodLink "SortWorks" 288 ⟨"SortWorks$Parcel", "spoil", "(I)V"⟩ ∈ sw_gw := p_mem (p_tb5 (List.mem_of_getElem? (i := 92) (by decide +kernel))) (by decide +kernel)
theorem tw_5_93 : Cond.instanceMethod ⟨"SortWorks$Parcel", "spoil", "(I)V"⟩ ∈ sw_gw := p_mem (p_tb5 (List.mem_of_getElem? (i := 93) (by decide +kernel))) (by decide +kernel)
theorem tw_5_94 : Cond.selects "SortWorks$Parcel" ⟨"SortWorks$Parcel", "spoil", "(I)V"⟩ ⟨"SortWorks$Parcel", "spoil", "(I)V"⟩ ∈ sw_gw := p_mem (p_tb5 (List.mem_of_getElem? (i := 94) (by decide +kernel))) (by decide +kernel)
theorem tw_5_96 : Cond.methodLink "SortWorks$Parcel" 66 ⟨"SortWorks$Parcel", "raiseLastByte", "()V"⟩ ∈ sw_gw := p_mem (p_tb5 (List.mem_of_getElem? (i := 96) (by decide +kernel))) (by decide +kernel)
theorem tw_5_98 : Cond.instanceMethod ⟨"SortWorks$Parcel", "raiseLastByte", "()V"⟩ ∈ sw_gw := p_mem (p_tb5 (List.mem_of_getElem? (i := 98) (by decide +kernel))) (by decide +kernel)
theorem tw_5_100 : Cond.methodLink "SortWorksLaw" 120 ⟨"SortWorks", "back", "(I)I"⟩ ∈ sw_gw := p_mem (p_tb5 (List.mem_of_getElem? (i := 100) (by decide +kernel))) (by decide +kernel)
theorem tw_5_101 : Cond.instanceMethod ⟨"SortWorks", "back", "(I)I"⟩ ∈ sw_gw := p_mem (p_tb5 (List.mem_of_getElem? (i := 101) (by decide +kernel))) (by decide +kernel)
theorem tw_5_102 : Cond.selects "SortWorks" ⟨"SortWorks", "back", "(I)I"⟩ ⟨"SortWorks", "back", "(I)I"⟩ ∈ sw_gw := p_mem (p_tb5 (List.mem_of_getElem? (i := 102) (by decide +kernel))) (by decide +kernel)
theorem tw_5_104 : Cond.methodLink "SortWorks" 294 ⟨"SortWorks$Works", "goBack", "(I)V"⟩ ∈ sw_gw := p_mem (p_tb5 (List.mem_of_getElem? (i := 104) (by decide +kernel))) (by decide +kernel)
theorem tw_5_105 : Cond.instanceMethod ⟨"SortWorks$Works", "goBack", "(I)V"⟩ ∈ sw_gw := p_mem (p_tb5 (List.mem_of_getElem? (i := 105) (by decide +kernel))) (by decide +kernel)
theorem tw_5_106 : Cond.selects "SortWorks$Works" ⟨"SortWorks$Works", "goBack", "(I)V"⟩ ⟨"SortWorks$Works", "goBack", "(I)V"⟩ ∈ sw_gw := p_mem (p_tb5 (List.mem_of_getElem? (i := 106) (by decide +kernel))) (by decide +kernel)
theorem tw_5_108 : Cond.methodLink "SortWorks$Works" 110 ⟨"java/lang/Math", "floorMod", "(II)I"⟩ ∈ sw_gw := p_mem (p_tb5 (List.mem_of_getElem? (i := 108) (by decide +kernel))) (by decide +kernel)
theorem tw_5_109 : Cond.static ⟨"java/lang/Math", "floorMod", "(II)I"⟩ ∈ sw_gw := p_mem (p_tb5 (List.mem_of_getElem? (i := 109) (by decide +kernel))) (by decide +kernel)
theorem tw_5_111 : Cond.methodLink "SortWorks$Works" 116 ⟨"SortWorks$State", "goBack", "(II)V"⟩ ∈ sw_gw := p_mem (p_tb5 (List.mem_of_getElem? (i := 111) (by decide +kernel))) (by decide +kernel)
theorem tw_5_112 : Cond.instanceMethod ⟨"SortWorks$State", "goBack", "(II)V"⟩ ∈ sw_gw := p_mem (p_tb5 (List.mem_of_getElem? (i := 112) (by decide +kernel))) (by decide +kernel)
theorem tw_5_113 : Cond.selects "SortWorks$State" ⟨"SortWorks$State", "goBack", "(II)V"⟩ ⟨"SortWorks$State", "goBack", "(II)V"⟩ ∈ sw_gw := p_mem (p_tb5 (List.mem_of_getElem? (i := 113) (by decide +kernel))) (by decide +kernel)
theorem tw_5_115 : Cond.methodLink "SortWorks$State" 70 ⟨"SortWorks$Gear", "goBack", "(I)V"⟩ ∈ sw_gw := p_mem (p_tb5 (List.mem_of_getElem? (i := 115) (by decide +kernel))) (by decide +kernel)
theorem tw_5_116 : Cond.instanceMethod ⟨"SortWorks$Gear", "goBack", "(I)V"⟩ ∈ sw_gw := p_mem (p_tb5 (List.mem_of_getElem? (i := 116) (by decide +kernel))) (by decide +kernel)
theorem tw_5_117 : Cond.selects "SortWorks$Gear" ⟨"SortWorks$Gear", "goBack", "(I)V"⟩ ⟨"SortWorks$Gear", "goBack", "(I)V"⟩ ∈ sw_gw := p_mem (p_tb5 (List.mem_of_getElem? (i := 117) (by decide +kernel))) (by decide +kernel)
theorem tw_5_119 : Cond.methodLink "SortWorks$Gear" 94 ⟨"java/util/Arrays", "fill", "([II)V"⟩ ∈ sw_gw := p_mem (p_tb5 (List.mem_of_getElem? (i := 119) (by decide +kernel))) (by decide +kernel)
theorem tw_5_120 : Cond.methodLink "SortWorks$State" 73 ⟨"SortWorks$Parcel", "goBack", "(I)V"⟩ ∈ sw_gw := p_mem (p_tb5 (List.mem_of_getElem? (i := 120) (by decide +kernel))) (by decide +kernel)
theorem tw_5_121 : Cond.instanceMethod ⟨"SortWorks$Parcel", "goBack", "(I)V"⟩ ∈ sw_gw := p_mem (p_tb5 (List.mem_of_getElem? (i := 121) (by decide +kernel))) (by decide +kernel)
theorem tw_5_122 : Cond.selects "SortWorks$Parcel" ⟨"SortWorks$Parcel", "goBack", "(I)V"⟩ ⟨"SortWorks$Parcel", "goBack", "(I)V"⟩ ∈ sw_gw := p_mem (p_tb5 (List.mem_of_getElem? (i := 122) (by decide +kernel))) (by decide +kernel)
theorem tw_5_124 : Cond.methodLink "SortWorks$State" 85 ⟨"SortWorks$Log", "goBack", "(I)V"⟩ ∈ sw_gw := p_mem (p_tb5 (List.mem_of_getElem? (i := 124) (by decide +kernel))) (by decide +kernel)
theorem tw_5_125 : Cond.instanceMethod ⟨"SortWorks$Log", "goBack", "(I)V"⟩ ∈ sw_gw := p_mem (p_tb5 (List.mem_of_getElem? (i := 125) (by decide +kernel))) (by decide +kernel)
theorem tw_5_126 : Cond.selects "SortWorks$Log" ⟨"SortWorks$Log", "goBack", "(I)V"⟩ ⟨"SortWorks$Log", "goBack", "(I)V"⟩ ∈ sw_gw := p_mem (p_tb5 (List.mem_of_getElem? (i := 126) (by decide +kernel))) (by decide +kernel)
theorem tw_5_128 : Cond.methodLink "SortWorks" 297 ⟨"SortWorks$Numbers", "undoSince", "(ILSortWorks$State;)V"⟩ ∈ sw_gw := p_mem (p_tb5 (List.mem_of_getElem? (i := 128) (by decide +kernel))) (by decide +kernel)
theorem tw_5_129 : Cond.instanceMethod ⟨"SortWorks$Numbers", "undoSince", "(ILSortWorks$State;)V"⟩ ∈ sw_gw := p_mem (p_tb5 (List.mem_of_getElem? (i := 129) (by decide +kernel))) (by decide +kernel)
theorem tw_5_130 : Cond.selects "SortWorks$Numbers" ⟨"SortWorks$Numbers", "undoSince", "(ILSortWorks$State;)V"⟩ ⟨"SortWorks$Numbers", "undoSince", "(ILSortWorks$State;)V"⟩ ∈ sw_gw := p_mem (p_tb5 (List.mem_of_getElem? (i := 130) (by decide +kernel))) (by decide +kernel)
theorem tw_5_132 : Cond.methodLink "SortWorksLaw" 124 ⟨"SortWorks", "status", "()I"⟩ ∈ sw_gw := p_mem (p_tb5 (List.mem_of_getElem? (i := 132) (by decide +kernel))) (by decide +kernel)
theorem tw_5_133 : Cond.instanceMethod ⟨"SortWorks", "status", "()I"⟩ ∈ sw_gw := p_mem (p_tb5 (List.mem_of_getElem? (i := 133) (by decide +kernel))) (by decide +kernel)
theorem tw_5_134 : Cond.selects "SortWorks" ⟨"SortWorks", "status", "()I"⟩ ⟨"SortWorks", "status", "()I"⟩ ∈ sw_gw := p_mem (p_tb5 (List.mem_of_getElem? (i := 134) (by decide +kernel))) (by decide +kernel)
theorem tw_5_136 : Cond.methodLink "SortWorksLaw" 128 ⟨"SortWorks", "told", "(II)I"⟩ ∈ sw_gw := p_mem (p_tb5 (List.mem_of_getElem? (i := 136) (by decide +kernel))) (by decide +kernel)
theorem tw_5_137 : Cond.instanceMethod ⟨"SortWorks", "told", "(II)I"⟩ ∈ sw_gw := p_mem (p_tb5 (List.mem_of_getElem? (i := 137) (by decide +kernel))) (by decide +kernel)
theorem tw_5_138 : Cond.selects "SortWorks" ⟨"SortWorks", "told", "(II)I"⟩ ⟨"SortWorks", "told", "(II)I"⟩ ∈ sw_gw := p_mem (p_tb5 (List.mem_of_getElem? (i := 138) (by decide +kernel))) (by decide +kernel)
theorem tw_5_140 : Cond.methodLink "SortWorks" 301 ⟨"SortWorks$Gear", "tell", "(I)I"⟩ ∈ sw_gw := p_mem (p_tb5 (List.mem_of_getElem? (i := 140) (by decide +kernel))) (by decide +kernel)
theorem tw_5_141 : Cond.instanceMethod ⟨"SortWorks$Gear", "tell", "(I)I"⟩ ∈ sw_gw := p_mem (p_tb5 (List.mem_of_getElem? (i := 141) (by decide +kernel))) (by decide +kernel)
theorem tw_5_142 : Cond.selects "SortWorks$Gear" ⟨"SortWorks$Gear", "tell", "(I)I"⟩ ⟨"SortWorks$Gear", "tell", "(I)I"⟩ ∈ sw_gw := p_mem (p_tb5 (List.mem_of_getElem? (i := 142) (by decide +kernel))) (by decide +kernel)
theorem tw_5_144 : Cond.methodLink "SortWorks$Gear" 126 ⟨"SortWorks$Gear", "parcels", "()I"⟩ ∈ sw_gw := p_mem (p_tb5 (List.mem_of_getElem? (i := 144) (by decide +kernel))) (by decide +kernel)
theorem tw_5_146 : Cond.methodLink "SortWorksLaw" 132 ⟨"SortWorks", "slot", "(II)I"⟩ ∈ sw_gw := p_mem (p_tb5 (List.mem_of_getElem? (i := 146) (by decide +kernel))) (by decide +kernel)
theorem tw_5_147 : Cond.instanceMethod ⟨"SortWorks", "slot", "(II)I"⟩ ∈ sw_gw := p_mem (p_tb5 (List.mem_of_getElem? (i := 147) (by decide +kernel))) (by decide +kernel)
theorem tw_5_148 : Cond.selects "SortWorks" ⟨"SortWorks", "slot", "(II)I"⟩ ⟨"SortWorks", "slot", "(II)I"⟩ ∈ sw_gw := p_mem (p_tb5 (List.mem_of_getElem? (i := 148) (by decide +kernel))) (by decide +kernel)
theorem tw_5_150 : Cond.methodLink "SortWorks" 304 ⟨"SortWorks$State", "inSlot", "(LSortWorks$Gear;I)LSortWorks$Parcel;"⟩ ∈ sw_gw := p_mem (p_tb5 (List.mem_of_getElem? (i := 150) (by decide +kernel))) (by decide +kernel)
theorem tw_5_151 : Cond.methodLink "SortWorksLaw" 136 ⟨"SortWorks", "linkOf", "(II)I"⟩ ∈ sw_gw := p_mem (p_tb5 (List.mem_of_getElem? (i := 151) (by decide +kernel))) (by decide +kernel)
theorem tw_5_152 : Cond.instanceMethod ⟨"SortWorks", "linkOf", "(II)I"⟩ ∈ sw_gw := p_mem (p_tb5 (List.mem_of_getElem? (i := 152) (by decide +kernel))) (by decide +kernel)
theorem tw_5_153 : Cond.selects "SortWorks" ⟨"SortWorks", "linkOf", "(II)I"⟩ ⟨"SortWorks", "linkOf", "(II)I"⟩ ∈ sw_gw := p_mem (p_tb5 (List.mem_of_getElem? (i := 153) (by decide +kernel))) (by decide +kernel)
theorem tw_5_155 : Cond.methodLink "SortWorksLaw" 140 ⟨"SortWorks", "parcel", "(II)I"⟩ ∈ sw_gw := p_mem (p_tb5 (List.mem_of_getElem? (i := 155) (by decide +kernel))) (by decide +kernel)
theorem tw_5_156 : Cond.instanceMethod ⟨"SortWorks", "parcel", "(II)I"⟩ ∈ sw_gw := p_mem (p_tb5 (List.mem_of_getElem? (i := 156) (by decide +kernel))) (by decide +kernel)
theorem tw_5_157 : Cond.selects "SortWorks" ⟨"SortWorks", "parcel", "(II)I"⟩ ⟨"SortWorks", "parcel", "(II)I"⟩ ∈ sw_gw := p_mem (p_tb5 (List.mem_of_getElem? (i := 157) (by decide +kernel))) (by decide +kernel)
theorem tw_5_159 : Cond.methodLink "SortWorks" 308 ⟨"SortWorks$Parcel", "tell", "(I)I"⟩ ∈ sw_gw := p_mem (p_tb5 (List.mem_of_getElem? (i := 159) (by decide +kernel))) (by decide +kernel)
theorem tw_5_160 : Cond.instanceMethod ⟨"SortWorks$Parcel", "tell", "(I)I"⟩ ∈ sw_gw := p_mem (p_tb5 (List.mem_of_getElem? (i := 160) (by decide +kernel))) (by decide +kernel)
theorem tw_5_161 : Cond.selects "SortWorks$Parcel" ⟨"SortWorks$Parcel", "tell", "(I)I"⟩ ⟨"SortWorks$Parcel", "tell", "(I)I"⟩ ∈ sw_gw := p_mem (p_tb5 (List.mem_of_getElem? (i := 161) (by decide +kernel))) (by decide +kernel)
theorem tw_5_163 : Cond.methodLink "SortWorksLaw" 144 ⟨"SortWorks", "way", "(II)I"⟩ ∈ sw_gw := p_mem (p_tb5 (List.mem_of_getElem? (i := 163) (by decide +kernel))) (by decide +kernel)
theorem tw_5_164 : Cond.instanceMethod ⟨"SortWorks", "way", "(II)I"⟩ ∈ sw_gw := p_mem (p_tb5 (List.mem_of_getElem? (i := 164) (by decide +kernel))) (by decide +kernel)
theorem tw_5_165 : Cond.selects "SortWorks" ⟨"SortWorks", "way", "(II)I"⟩ ⟨"SortWorks", "way", "(II)I"⟩ ∈ sw_gw := p_mem (p_tb5 (List.mem_of_getElem? (i := 165) (by decide +kernel))) (by decide +kernel)
theorem tw_5_167 : Cond.methodLink "SortWorksLaw" 148 ⟨"SortWorks", "byteOf", "(II)I"⟩ ∈ sw_gw := p_mem (p_tb5 (List.mem_of_getElem? (i := 167) (by decide +kernel))) (by decide +kernel)
theorem tw_5_168 : Cond.instanceMethod ⟨"SortWorks", "byteOf", "(II)I"⟩ ∈ sw_gw := p_mem (p_tb5 (List.mem_of_getElem? (i := 168) (by decide +kernel))) (by decide +kernel)
theorem tw_5_169 : Cond.selects "SortWorks" ⟨"SortWorks", "byteOf", "(II)I"⟩ ⟨"SortWorks", "byteOf", "(II)I"⟩ ∈ sw_gw := p_mem (p_tb5 (List.mem_of_getElem? (i := 169) (by decide +kernel))) (by decide +kernel)
theorem tw_5_171 : Cond.methodLink "SortWorksLaw" 152 ⟨"SortWorks", "left", "(I)I"⟩ ∈ sw_gw := p_mem (p_tb5 (List.mem_of_getElem? (i := 171) (by decide +kernel))) (by decide +kernel)
theorem tw_5_172 : Cond.instanceMethod ⟨"SortWorks", "left", "(I)I"⟩ ∈ sw_gw := p_mem (p_tb5 (List.mem_of_getElem? (i := 172) (by decide +kernel))) (by decide +kernel)
theorem tw_5_173 : Cond.selects "SortWorks" ⟨"SortWorks", "left", "(I)I"⟩ ⟨"SortWorks", "left", "(I)I"⟩ ∈ sw_gw := p_mem (p_tb5 (List.mem_of_getElem? (i := 173) (by decide +kernel))) (by decide +kernel)
theorem tw_5_175 : Cond.methodLink "SortWorksLaw" 156 ⟨"SortWorks", "out", "(II)I"⟩ ∈ sw_gw := p_mem (p_tb5 (List.mem_of_getElem? (i := 175) (by decide +kernel))) (by decide +kernel)
theorem tw_5_176 : Cond.instanceMethod ⟨"SortWorks", "out", "(II)I"⟩ ∈ sw_gw := p_mem (p_tb5 (List.mem_of_getElem? (i := 176) (by decide +kernel))) (by decide +kernel)
theorem tw_5_177 : Cond.selects "SortWorks" ⟨"SortWorks", "out", "(II)I"⟩ ⟨"SortWorks", "out", "(II)I"⟩ ∈ sw_gw := p_mem (p_tb5 (List.mem_of_getElem? (i := 177) (by decide +kernel))) (by decide +kernel)
theorem tw_5_179 : Cond.methodLink "SortWorks" 322 ⟨"SortWorks$Log", "tell", "(II)I"⟩ ∈ sw_gw := p_mem (p_tb5 (List.mem_of_getElem? (i := 179) (by decide +kernel))) (by decide +kernel)
theorem tw_5_180 : Cond.instanceMethod ⟨"SortWorks$Log", "tell", "(II)I"⟩ ∈ sw_gw := p_mem (p_tb5 (List.mem_of_getElem? (i := 180) (by decide +kernel))) (by decide +kernel)
theorem tw_5_181 : Cond.selects "SortWorks$Log" ⟨"SortWorks$Log", "tell", "(II)I"⟩ ⟨"SortWorks$Log", "tell", "(II)I"⟩ ∈ sw_gw := p_mem (p_tb5 (List.mem_of_getElem? (i := 181) (by decide +kernel))) (by decide +kernel)
theorem tw_5_183 : Cond.methodLink "SortWorksLaw" 160 ⟨"SortWorks", "rule", "(II)I"⟩ ∈ sw_gw := p_mem (p_tb5 (List.mem_of_getElem? (i := 183) (by decide +kernel))) (by decide +kernel)
theorem tw_5_184 : Cond.instanceMethod ⟨"SortWorks", "rule", "(II)I"⟩ ∈ sw_gw := p_mem (p_tb5 (List.mem_of_getElem? (i := 184) (by decide +kernel))) (by decide +kernel)
theorem tw_5_185 : Cond.selects "SortWorks" ⟨"SortWorks", "rule", "(II)I"⟩ ⟨"SortWorks", "rule", "(II)I"⟩ ∈ sw_gw := p_mem (p_tb5 (List.mem_of_getElem? (i := 185) (by decide +kernel))) (by decide +kernel)
theorem tw_5_187 : Cond.methodLink "SortWorksLaw" 164 ⟨"SortWorks", "said", "(I)I"⟩ ∈ sw_gw := p_mem (p_tb5 (List.mem_of_getElem? (i := 187) (by decide +kernel))) (by decide +kernel)
theorem tw_5_188 : Cond.instanceMethod ⟨"SortWorks", "said", "(I)I"⟩ ∈ sw_gw := p_mem (p_tb5 (List.mem_of_getElem? (i := 188) (by decide +kernel))) (by decide +kernel)
theorem tw_5_189 : Cond.selects "SortWorks" ⟨"SortWorks", "said", "(I)I"⟩ ⟨"SortWorks", "said", "(I)I"⟩ ∈ sw_gw := p_mem (p_tb5 (List.mem_of_getElem? (i := 189) (by decide +kernel))) (by decide +kernel)
theorem tw_5_191 : Cond.methodLink "SortWorksLaw" 168 ⟨"SortWorks", "unused", "(I)I"⟩ ∈ sw_gw := p_mem (p_tb5 (List.mem_of_getElem? (i := 191) (by decide +kernel))) (by decide +kernel)
theorem tw_5_192 : Cond.instanceMethod ⟨"SortWorks", "unused", "(I)I"⟩ ∈ sw_gw := p_mem (p_tb5 (List.mem_of_getElem? (i := 192) (by decide +kernel))) (by decide +kernel)
theorem tw_5_193 : Cond.selects "SortWorks" ⟨"SortWorks", "unused", "(I)I"⟩ ⟨"SortWorks", "unused", "(I)I"⟩ ∈ sw_gw := p_mem (p_tb5 (List.mem_of_getElem? (i := 193) (by decide +kernel))) (by decide +kernel)
theorem tw_5_195 : Cond.methodLink "SortWorksLaw" 172 ⟨"SortWorks", "finding", "(II)I"⟩ ∈ sw_gw := p_mem (p_tb5 (List.mem_of_getElem? (i := 195) (by decide +kernel))) (by decide +kernel)
theorem tw_5_196 : Cond.instanceMethod ⟨"SortWorks", "finding", "(II)I"⟩ ∈ sw_gw := p_mem (p_tb5 (List.mem_of_getElem? (i := 196) (by decide +kernel))) (by decide +kernel)
theorem tw_5_197 : Cond.selects "SortWorks" ⟨"SortWorks", "finding", "(II)I"⟩ ⟨"SortWorks", "finding", "(II)I"⟩ ∈ sw_gw := p_mem (p_tb5 (List.mem_of_getElem? (i := 197) (by decide +kernel))) (by decide +kernel)
theorem tw_5_199 : Cond.methodLink "SortWorksLaw" 176 ⟨"SortWorks", "trace", "(I)I"⟩ ∈ sw_gw := p_mem (p_tb5 (List.mem_of_getElem? (i := 199) (by decide +kernel))) (by decide +kernel)
theorem tw_5_200 : Cond.instanceMethod ⟨"SortWorks", "trace", "(I)I"⟩ ∈ sw_gw := p_mem (p_tb5 (List.mem_of_getElem? (i := 200) (by decide +kernel))) (by decide +kernel)
theorem tw_5_201 : Cond.selects "SortWorks" ⟨"SortWorks", "trace", "(I)I"⟩ ⟨"SortWorks", "trace", "(I)I"⟩ ∈ sw_gw := p_mem (p_tb5 (List.mem_of_getElem? (i := 201) (by decide +kernel))) (by decide +kernel)
theorem tw_5_203 : Cond.methodLink "SortWorksLaw" 180 ⟨"SortWorks", "jam", "(I)I"⟩ ∈ sw_gw := p_mem (p_tb5 (List.mem_of_getElem? (i := 203) (by decide +kernel))) (by decide +kernel)
theorem tw_5_204 : Cond.instanceMethod ⟨"SortWorks", "jam", "(I)I"⟩ ∈ sw_gw := p_mem (p_tb5 (List.mem_of_getElem? (i := 204) (by decide +kernel))) (by decide +kernel)
theorem tw_5_205 : Cond.selects "SortWorks" ⟨"SortWorks", "jam", "(I)I"⟩ ⟨"SortWorks", "jam", "(I)I"⟩ ∈ sw_gw := p_mem (p_tb5 (List.mem_of_getElem? (i := 205) (by decide +kernel))) (by decide +kernel)
theorem tw_5_207 : Cond.methodLink "SortWorksLaw" 184 ⟨"SortWorks", "far", "(II)I"⟩ ∈ sw_gw := p_mem (p_tb5 (List.mem_of_getElem? (i := 207) (by decide +kernel))) (by decide +kernel)
theorem tw_5_208 : Cond.instanceMethod ⟨"SortWorks", "far", "(II)I"⟩ ∈ sw_gw := p_mem (p_tb5 (List.mem_of_getElem? (i := 208) (by decide +kernel))) (by decide +kernel)
theorem tw_5_209 : Cond.selects "SortWorks" ⟨"SortWorks", "far", "(II)I"⟩ ⟨"SortWorks", "far", "(II)I"⟩ ∈ sw_gw := p_mem (p_tb5 (List.mem_of_getElem? (i := 209) (by decide +kernel))) (by decide +kernel)
theorem tw_5_211 : Cond.methodLink "SortWorks" 351 ⟨"SortWorks$Works", "fewestSlots", "(II)I"⟩ ∈ sw_gw := p_mem (p_tb5 (List.mem_of_getElem? (i := 211) (by decide +kernel))) (by decide +kernel)
theorem tw_5_212 : Cond.instanceMethod ⟨"SortWorks$Works", "fewestSlots", "(II)I"⟩ ∈ sw_gw := p_mem (p_tb5 (List.mem_of_getElem? (i := 212) (by decide +kernel))) (by decide +kernel)
theorem tw_5_213 : Cond.selects "SortWorks$Works" ⟨"SortWorks$Works", "fewestSlots", "(II)I"⟩ ⟨"SortWorks$Works", "fewestSlots", "(II)I"⟩ ∈ sw_gw := p_mem (p_tb5 (List.mem_of_getElem? (i := 213) (by decide +kernel))) (by decide +kernel)
theorem tw_5_215 : Cond.methodLink "SortWorks$Works" 132 ⟨"SortWorks$Works", "measureWays", "(I)V"⟩ ∈ sw_gw := p_mem (p_tb5 (List.mem_of_getElem? (i := 215) (by decide +kernel))) (by decide +kernel)
theorem tw_5_216 : Cond.instanceMethod ⟨"SortWorks$Works", "measureWays", "(I)V"⟩ ∈ sw_gw := p_mem (p_tb5 (List.mem_of_getElem? (i := 216) (by decide +kernel))) (by decide +kernel)
theorem tw_5_217 : Cond.selects "SortWorks$Works" ⟨"SortWorks$Works", "measureWays", "(I)V"⟩ ⟨"SortWorks$Works", "measureWays", "(I)V"⟩ ∈ sw_gw := p_mem (p_tb5 (List.mem_of_getElem? (i := 217) (by decide +kernel))) (by decide +kernel)
theorem tw_5_219 : Cond.constant "SortWorks$Works" 136 (1000000 : Int32) ∈ sw_gw := p_mem (p_tb5 (List.mem_of_getElem? (i := 219) (by decide +kernel))) (by decide +kernel)
theorem tw_5_220 : Cond.methodLink "SortWorks$Works" 137 ⟨"SortWorks$Works", "goAhead", "(II)Z"⟩ ∈ sw_gw := p_mem (p_tb5 (List.mem_of_getElem? (i := 220) (by decide +kernel))) (by decide +kernel)
theorem tw_5_222 : Cond.instanceMethod ⟨"SortWorks$Works", "goAhead", "(II)Z"⟩ ∈ sw_gw := p_mem (p_tb5 (List.mem_of_getElem? (i := 222) (by decide +kernel))) (by decide +kernel)
theorem tw_5_225 : Cond.methodLink "SortWorks$Works" 144 ⟨"SortWorks$Works", "follow", "(LSortWorks$Gear;I)I"⟩ ∈ sw_gw := p_mem (p_tb5 (List.mem_of_getElem? (i := 225) (by decide +kernel))) (by decide +kernel)
theorem tw_5_226 : Cond.methodLink "SortWorks$Works" 148 ⟨"SortWorks$Gear", "isTaker", "()Z"⟩ ∈ sw_gw := p_mem (p_tb5 (List.mem_of_getElem? (i := 226) (by decide +kernel))) (by decide +kernel)
theorem tw_5_227 : Cond.methodLink "SortWorksLaw" 188 ⟨"SortWorks", "reach", "(I)J"⟩ ∈ sw_gw := p_mem (p_tb5 (List.mem_of_getElem? (i := 227) (by decide +kernel))) (by decide +kernel)
theorem tw_5_228 : Cond.instanceMethod ⟨"SortWorks", "reach", "(I)J"⟩ ∈ sw_gw := p_mem (p_tb5 (List.mem_of_getElem? (i := 228) (by decide +kernel))) (by decide +kernel)
theorem tw_5_229 : Cond.selects "SortWorks" ⟨"SortWorks", "reach", "(I)J"⟩ ⟨"SortWorks", "reach", "(I)J"⟩ ∈ sw_gw := p_mem (p_tb5 (List.mem_of_getElem? (i := 229) (by decide +kernel))) (by decide +kernel)
theorem tw_5_231 : Cond.methodLink "SortWorks" 354 ⟨"SortWorks$Works", "measureWays", "(I)V"⟩ ∈ sw_gw := p_mem (p_tb5 (List.mem_of_getElem? (i := 231) (by decide +kernel))) (by decide +kernel)
theorem tw_5_232 : Cond.constant "SortWorks" 360 (1000000 : Int32) ∈ sw_gw := p_mem (p_tb5 (List.mem_of_getElem? (i := 232) (by decide +kernel))) (by decide +kernel)
theorem tw_5_233 : Cond.methodLink "SortWorksLaw" 193 ⟨"SortWorks", "ring", "(I)I"⟩ ∈ sw_gw := p_mem (p_tb5 (List.mem_of_getElem? (i := 233) (by decide +kernel))) (by decide +kernel)
theorem tw_5_234 : Cond.instanceMethod ⟨"SortWorks", "ring", "(I)I"⟩ ∈ sw_gw := p_mem (p_tb5 (List.mem_of_getElem? (i := 234) (by decide +kernel))) (by decide +kernel)
theorem tw_5_235 : Cond.selects "SortWorks" ⟨"SortWorks", "ring", "(I)I"⟩ ⟨"SortWorks", "ring", "(I)I"⟩ ∈ sw_gw := p_mem (p_tb5 (List.mem_of_getElem? (i := 235) (by decide +kernel))) (by decide +kernel)
theorem tw_5_237 : Cond.methodLink "SortWorksLaw" 197 ⟨"SortWorks", "audit", "()I"⟩ ∈ sw_gw := p_mem (p_tb5 (List.mem_of_getElem? (i := 237) (by decide +kernel))) (by decide +kernel)
theorem tw_5_238 : Cond.instanceMethod ⟨"SortWorks", "audit", "()I"⟩ ∈ sw_gw := p_mem (p_tb5 (List.mem_of_getElem? (i := 238) (by decide +kernel))) (by decide +kernel)
theorem tw_5_239 : Cond.selects "SortWorks" ⟨"SortWorks", "audit", "()I"⟩ ⟨"SortWorks", "audit", "()I"⟩ ∈ sw_gw := p_mem (p_tb5 (List.mem_of_getElem? (i := 239) (by decide +kernel))) (by decide +kernel)
theorem tw_6_1 : Cond.methodLink "SortWorksLaw" 201 ⟨"SortWorks", "count", "(I)I"⟩ ∈ sw_gw := p_mem (p_tb6 (List.mem_of_getElem? (i := 1) (by decide +kernel))) (by decide +kernel)
theorem tw_6_2 : Cond.instanceMethod ⟨"SortWorks", "count", "(I)I"⟩ ∈ sw_gw := p_mem (p_tb6 (List.mem_of_getElem? (i := 2) (by decide +kernel))) (by decide +kernel)
theorem tw_6_3 : Cond.selects "SortWorks" ⟨"SortWorks", "count", "(I)I"⟩ ⟨"SortWorks", "count", "(I)I"⟩ ∈ sw_gw := p_mem (p_tb6 (List.mem_of_getElem? (i := 3) (by decide +kernel))) (by decide +kernel)
theorem tw_6_5 : Cond.methodLink "SortWorksLaw" 205 ⟨"SortWorks", "digest", "()J"⟩ ∈ sw_gw := p_mem (p_tb6 (List.mem_of_getElem? (i := 5) (by decide +kernel))) (by decide +kernel)
theorem tw_6_6 : Cond.instanceMethod ⟨"SortWorks", "digest", "()J"⟩ ∈ sw_gw := p_mem (p_tb6 (List.mem_of_getElem? (i := 6) (by decide +kernel))) (by decide +kernel)
theorem tw_6_7 : Cond.selects "SortWorks" ⟨"SortWorks", "digest", "()J"⟩ ⟨"SortWorks", "digest", "()J"⟩ ∈ sw_gw := p_mem (p_tb6 (List.mem_of_getElem? (i := 7) (by decide +kernel))) (by decide +kernel)
theorem tw_6_9 : Cond.constantLong "SortWorks" 366 (17 : Int64) ∈ sw_gw := p_mem (p_tb6 (List.mem_of_getElem? (i := 9) (by decide +kernel))) (by decide +kernel)
theorem tw_6_10 : Cond.methodLink "SortWorks" 368 ⟨"SortWorks", "mixed", "(JI)J"⟩ ∈ sw_gw := p_mem (p_tb6 (List.mem_of_getElem? (i := 10) (by decide +kernel))) (by decide +kernel)
theorem tw_6_11 : Cond.static ⟨"SortWorks", "mixed", "(JI)J"⟩ ∈ sw_gw := p_mem (p_tb6 (List.mem_of_getElem? (i := 11) (by decide +kernel))) (by decide +kernel)
theorem tw_6_13 : Cond.constantLong "SortWorks" 376 (31 : Int64) ∈ sw_gw := p_mem (p_tb6 (List.mem_of_getElem? (i := 13) (by decide +kernel))) (by decide +kernel)
theorem tw_6_14 : Cond.methodLink "SortWorks" 372 ⟨"SortWorks", "mixedGear", "(JLSortWorks$Gear;)J"⟩ ∈ sw_gw := p_mem (p_tb6 (List.mem_of_getElem? (i := 14) (by decide +kernel))) (by decide +kernel)
theorem tw_6_16 : Cond.instanceMethod ⟨"SortWorks", "mixedGear", "(JLSortWorks$Gear;)J"⟩ ∈ sw_gw := p_mem (p_tb6 (List.mem_of_getElem? (i := 16) (by decide +kernel))) (by decide +kernel)
theorem tw_6_18 : Cond.classLink "SortWorksLaw" 10 "SortWorksModel" ∈ sw_gw := p_mem (p_tb6 (List.mem_of_getElem? (i := 18) (by decide +kernel))) (by decide +kernel)
theorem tw_6_19 : Cond.instantiable "SortWorksModel" 90 ∈ sw_gw := p_mem (p_tb6 (List.mem_of_getElem? (i := 19) (by decide +kernel))) (by decide +kernel)
theorem tw_6_20 : Cond.methodLink "SortWorksLaw" 12 ⟨"SortWorksModel", "<init>", "()V"⟩ ∈ sw_gw := p_mem (p_tb6 (List.mem_of_getElem? (i := 20) (by decide +kernel))) (by decide +kernel)
theorem tw_6_21 : Cond.instanceMethod ⟨"SortWorksModel", "<init>", "()V"⟩ ∈ sw_gw := p_mem (p_tb6 (List.mem_of_getElem? (i := 21) (by decide +kernel))) (by decide +kernel)
theorem tw_6_23 : Cond.methodLink "SortWorksModel" 1 ⟨"java/lang/Object", "<init>", "()V"⟩ ∈ sw_gw := p_mem (p_tb6 (List.mem_of_getElem? (i := 23) (by decide +kernel))) (by decide +kernel)
theorem tw_6_24 : Cond.constant "SortWorksModel" 213 (234000 : Int32) ∈ sw_gw := p_mem (p_tb6 (List.mem_of_getElem? (i := 24) (by decide +kernel))) (by decide +kernel)
theorem tw_6_25 : Cond.fieldLink "SortWorksModel" 227 "SortWorksModel" "w" "I" ∈ sw_gw := p_mem (p_tb6 (List.mem_of_getElem? (i := 25) (by decide +kernel))) (by decide +kernel)
theorem tw_6_26 : Cond.fieldLink "SortWorksModel" 220 "SortWorksModel" "status" "I" ∈ sw_gw := p_mem (p_tb6 (List.mem_of_getElem? (i := 26) (by decide +kernel))) (by decide +kernel)
theorem tw_6_27 : Cond.fieldLink "SortWorksModel" 224 "SortWorksModel" "houseFaults" "I" ∈ sw_gw := p_mem (p_tb6 (List.mem_of_getElem? (i := 27) (by decide +kernel))) (by decide +kernel)
theorem tw_6_28 : Cond.fieldLink "SortWorksModel" 7 "SortWorksModel" "gears" "[I" ∈ sw_gw := p_mem (p_tb6 (List.mem_of_getElem? (i := 28) (by decide +kernel))) (by decide +kernel)
theorem tw_6_29 : Cond.fieldLink "SortWorksModel" 13 "SortWorksModel" "time" "[I" ∈ sw_gw := p_mem (p_tb6 (List.mem_of_getElem? (i := 29) (by decide +kernel))) (by decide +kernel)
theorem tw_6_30 : Cond.fieldLink "SortWorksModel" 16 "SortWorksModel" "kind" "[I" ∈ sw_gw := p_mem (p_tb6 (List.mem_of_getElem? (i := 30) (by decide +kernel))) (by decide +kernel)
theorem tw_6_31 : Cond.fieldLink "SortWorksModel" 19 "SortWorksModel" "length" "[I" ∈ sw_gw := p_mem (p_tb6 (List.mem_of_getElem? (i := 31) (by decide +kernel))) (by decide +kernel)
theorem tw_6_32 : Cond.fieldLink "SortWorksModel" 22 "SortWorksModel" "linkMany" "[I" ∈ sw_gw := p_mem (p_tb6 (List.mem_of_getElem? (i := 32) (by decide +kernel))) (by decide +kernel)
theorem tw_6_33 : Cond.fieldLink "SortWorksModel" 25 "SortWorksModel" "link" "[I" ∈ sw_gw := p_mem (p_tb6 (List.mem_of_getElem? (i := 33) (by decide +kernel))) (by decide +kernel)
theorem tw_6_34 : Cond.fieldLink "SortWorksModel" 28 "SortWorksModel" "rank" "[I" ∈ sw_gw := p_mem (p_tb6 (List.mem_of_getElem? (i := 34) (by decide +kernel))) (by decide +kernel)
theorem tw_6_35 : Cond.fieldLink "SortWorksModel" 31 "SortWorksModel" "side" "[I" ∈ sw_gw := p_mem (p_tb6 (List.mem_of_getElem? (i := 35) (by decide +kernel))) (by decide +kernel)
theorem tw_6_36 : Cond.fieldLink "SortWorksModel" 34 "SortWorksModel" "sets" "[J" ∈ sw_gw := p_mem (p_tb6 (List.mem_of_getElem? (i := 36) (by decide +kernel))) (by decide +kernel)
theorem tw_6_37 : Cond.fieldLink "SortWorksModel" 38 "SortWorksModel" "last" "[I" ∈ sw_gw := p_mem (p_tb6 (List.mem_of_getElem? (i := 37) (by decide +kernel))) (by decide +kernel)
theorem tw_6_38 : Cond.fieldLink "SortWorksModel" 41 "SortWorksModel" "releases" "[I" ∈ sw_gw := p_mem (p_tb6 (List.mem_of_getElem? (i := 38) (by decide +kernel))) (by decide +kernel)
theorem tw_6_39 : Cond.fieldLink "SortWorksModel" 44 "SortWorksModel" "open" "[Z" ∈ sw_gw := p_mem (p_tb6 (List.mem_of_getElem? (i := 39) (by decide +kernel))) (by decide +kernel)
theorem tw_6_40 : Cond.fieldLink "SortWorksModel" 48 "SortWorksModel" "dial" "[I" ∈ sw_gw := p_mem (p_tb6 (List.mem_of_getElem? (i := 40) (by decide +kernel))) (by decide +kernel)
theorem tw_6_41 : Cond.fieldLink "SortWorksModel" 51 "SortWorksModel" "wait" "[I" ∈ sw_gw := p_mem (p_tb6 (List.mem_of_getElem? (i := 41) (by decide +kernel))) (by decide +kernel)
theorem tw_6_42 : Cond.fieldLink "SortWorksModel" 54 "SortWorksModel" "lamp" "[I" ∈ sw_gw := p_mem (p_tb6 (List.mem_of_getElem? (i := 42) (by decide +kernel))) (by decide +kernel)
theorem tw_6_43 : Cond.fieldLink "SortWorksModel" 57 "SortWorksModel" "came" "[I" ∈ sw_gw := p_mem (p_tb6 (List.mem_of_getElem? (i := 43) (by decide +kernel))) (by decide +kernel)
theorem tw_6_44 : Cond.fieldLink "SortWorksModel" 60 "SortWorksModel" "went" "[I" ∈ sw_gw := p_mem (p_tb6 (List.mem_of_getElem? (i := 44) (by decide +kernel))) (by decide +kernel)
theorem tw_6_45 : Cond.fieldLink "SortWorksModel" 63 "SortWorksModel" "found" "[I" ∈ sw_gw := p_mem (p_tb6 (List.mem_of_getElem? (i := 45) (by decide +kernel))) (by decide +kernel)
theorem tw_6_46 : Cond.fieldLink "SortWorksModel" 66 "SortWorksModel" "acts" "[I" ∈ sw_gw := p_mem (p_tb6 (List.mem_of_getElem? (i := 46) (by decide +kernel))) (by decide +kernel)
theorem tw_6_47 : Cond.fieldLink "SortWorksModel" 69 "SortWorksModel" "slots" "[I" ∈ sw_gw := p_mem (p_tb6 (List.mem_of_getElem? (i := 47) (by decide +kernel))) (by decide +kernel)
theorem tw_6_48 : Cond.fieldLink "SortWorksModel" 334 "SortWorksModel" "numbers" "I" ∈ sw_gw := p_mem (p_tb6 (List.mem_of_getElem? (i := 48) (by decide +kernel))) (by decide +kernel)
theorem tw_6_49 : Cond.fieldLink "SortWorksModel" 72 "SortWorksModel" "pWorks" "[I" ∈ sw_gw := p_mem (p_tb6 (List.mem_of_getElem? (i := 49) (by decide +kernel))) (by decide +kernel)
theorem tw_6_50 : Cond.fieldLink "SortWorksModel" 75 "SortWorksModel" "pWhere" "[I" ∈ sw_gw := p_mem (p_tb6 (List.mem_of_getElem? (i := 50) (by decide +kernel))) (by decide +kernel)
theorem tw_6_51 : Cond.fieldLink "SortWorksModel" 78 "SortWorksModel" "pGear" "[I" ∈ sw_gw := p_mem (p_tb6 (List.mem_of_getElem? (i := 51) (by decide +kernel))) (by decide +kernel)
theorem tw_6_52 : Cond.fieldLink "SortWorksModel" 81 "SortWorksModel" "pSlot" "[I" ∈ sw_gw := p_mem (p_tb6 (List.mem_of_getElem? (i := 52) (by decide +kernel))) (by decide +kernel)
theorem tw_6_53 : Cond.fieldLink "SortWorksModel" 84 "SortWorksModel" "pWeight" "[I" ∈ sw_gw := p_mem (p_tb6 (List.mem_of_getElem? (i := 53) (by decide +kernel))) (by decide +kernel)
theorem tw_6_54 : Cond.fieldLink "SortWorksModel" 87 "SortWorksModel" "pSize" "[I" ∈ sw_gw := p_mem (p_tb6 (List.mem_of_getElem? (i := 54) (by decide +kernel))) (by decide +kernel)
theorem tw_6_55 : Cond.fieldLink "SortWorksModel" 90 "SortWorksModel" "pTarget" "[I" ∈ sw_gw := p_mem (p_tb6 (List.mem_of_getElem? (i := 55) (by decide +kernel))) (by decide +kernel)
theorem tw_6_56 : Cond.fieldLink "SortWorksModel" 93 "SortWorksModel" "pLabel" "[I" ∈ sw_gw := p_mem (p_tb6 (List.mem_of_getElem? (i := 56) (by decide +kernel))) (by decide +kernel)
theorem tw_6_57 : Cond.fieldLink "SortWorksModel" 96 "SortWorksModel" "pByte" "[I" ∈ sw_gw := p_mem (p_tb6 (List.mem_of_getElem? (i := 57) (by decide +kernel))) (by decide +kernel)
theorem tw_6_58 : Cond.fieldLink "SortWorksModel" 99 "SortWorksModel" "pWays" "[I" ∈ sw_gw := p_mem (p_tb6 (List.mem_of_getElem? (i := 58) (by decide +kernel))) (by decide +kernel)
theorem tw_6_59 : Cond.fieldLink "SortWorksModel" 102 "SortWorksModel" "pWay" "[I" ∈ sw_gw := p_mem (p_tb6 (List.mem_of_getElem? (i := 59) (by decide +kernel))) (by decide +kernel)
theorem tw_6_60 : Cond.fieldLink "SortWorksModel" 105 "SortWorksModel" "pScanned" "[Z" ∈ sw_gw := p_mem (p_tb6 (List.mem_of_getElem? (i := 60) (by decide +kernel))) (by decide +kernel)
theorem tw_6_61 : Cond.fieldLink "SortWorksModel" 108 "SortWorksModel" "pMoved" "[Z" ∈ sw_gw := p_mem (p_tb6 (List.mem_of_getElem? (i := 61) (by decide +kernel))) (by decide +kernel)
theorem tw_6_62 : Cond.fieldLink "SortWorksModel" 111 "SortWorksModel" "pDoor" "[I" ∈ sw_gw := p_mem (p_tb6 (List.mem_of_getElem? (i := 62) (by decide +kernel))) (by decide +kernel)
theorem tw_6_63 : Cond.fieldLink "SortWorksModel" 114 "SortWorksModel" "inside" "[I" ∈ sw_gw := p_mem (p_tb6 (List.mem_of_getElem? (i := 63) (by decide +kernel))) (by decide +kernel)
theorem tw_6_64 : Cond.fieldLink "SortWorksModel" 117 "SortWorksModel" "arrived" "[I" ∈ sw_gw := p_mem (p_tb6 (List.mem_of_getElem? (i := 64) (by decide +kernel))) (by decide +kernel)
theorem tw_6_65 : Cond.fieldLink "SortWorksModel" 120 "SortWorksModel" "outMany" "[I" ∈ sw_gw := p_mem (p_tb6 (List.mem_of_getElem? (i := 65) (by decide +kernel))) (by decide +kernel)
theorem tw_6_66 : Cond.fieldLink "SortWorksModel" 123 "SortWorksModel" "outs" "[I" ∈ sw_gw := p_mem (p_tb6 (List.mem_of_getElem? (i := 66) (by decide +kernel))) (by decide +kernel)
theorem tw_6_67 : Cond.fieldLink "SortWorksModel" 126 "SortWorksModel" "findings" "[I" ∈ sw_gw := p_mem (p_tb6 (List.mem_of_getElem? (i := 67) (by decide +kernel))) (by decide +kernel)
theorem tw_6_68 : Cond.fieldLink "SortWorksModel" 129 "SortWorksModel" "finding" "[I" ∈ sw_gw := p_mem (p_tb6 (List.mem_of_getElem? (i := 68) (by decide +kernel))) (by decide +kernel)
theorem tw_6_69 : Cond.fieldLink "SortWorksModel" 132 "SortWorksModel" "traced" "[I" ∈ sw_gw := p_mem (p_tb6 (List.mem_of_getElem? (i := 69) (by decide +kernel))) (by decide +kernel)
theorem tw_6_70 : Cond.fieldLink "SortWorksModel" 135 "SortWorksModel" "traces" "[I" ∈ sw_gw := p_mem (p_tb6 (List.mem_of_getElem? (i := 70) (by decide +kernel))) (by decide +kernel)
theorem tw_6_71 : Cond.fieldLink "SortWorksModel" 138 "SortWorksModel" "letters" "[I" ∈ sw_gw := p_mem (p_tb6 (List.mem_of_getElem? (i := 71) (by decide +kernel))) (by decide +kernel)
theorem tw_6_72 : Cond.fieldLink "SortWorksModel" 295 "SortWorksModel" "typed" "I" ∈ sw_gw := p_mem (p_tb6 (List.mem_of_getElem? (i := 72) (by decide +kernel))) (by decide +kernel)
theorem tw_6_73 : Cond.fieldLink "SortWorksModel" 141 "SortWorksModel" "rules" "[I" ∈ sw_gw := p_mem (p_tb6 (List.mem_of_getElem? (i := 73) (by decide +kernel))) (by decide +kernel)
theorem tw_6_74 : Cond.fieldLink "SortWorksModel" 144 "SortWorksModel" "ruleTo" "[I" ∈ sw_gw := p_mem (p_tb6 (List.mem_of_getElem? (i := 74) (by decide +kernel))) (by decide +kernel)
theorem tw_6_75 : Cond.fieldLink "SortWorksModel" 147 "SortWorksModel" "ruleTests" "[I" ∈ sw_gw := p_mem (p_tb6 (List.mem_of_getElem? (i := 75) (by decide +kernel))) (by decide +kernel)
theorem tw_6_76 : Cond.fieldLink "SortWorksModel" 150 "SortWorksModel" "ruleUsed" "[I" ∈ sw_gw := p_mem (p_tb6 (List.mem_of_getElem? (i := 76) (by decide +kernel))) (by decide +kernel)
theorem tw_6_77 : Cond.fieldLink "SortWorksModel" 153 "SortWorksModel" "testWhat" "[I" ∈ sw_gw := p_mem (p_tb6 (List.mem_of_getElem? (i := 77) (by decide +kernel))) (by decide +kernel)
theorem tw_6_78 : Cond.fieldLink "SortWorksModel" 156 "SortWorksModel" "testGear" "[I" ∈ sw_gw := p_mem (p_tb6 (List.mem_of_getElem? (i := 78) (by decide +kernel))) (by decide +kernel)
theorem tw_6_79 : Cond.fieldLink "SortWorksModel" 159 "SortWorksModel" "testSign" "[I" ∈ sw_gw := p_mem (p_tb6 (List.mem_of_getElem? (i := 79) (by decide +kernel))) (by decide +kernel)
theorem tw_6_80 : Cond.fieldLink "SortWorksModel" 162 "SortWorksModel" "testNumber" "[I" ∈ sw_gw := p_mem (p_tb6 (List.mem_of_getElem? (i := 80) (by decide +kernel))) (by decide +kernel)
theorem tw_6_81 : Cond.fieldLink "SortWorksModel" 165 "SortWorksModel" "plans" "[I" ∈ sw_gw := p_mem (p_tb6 (List.mem_of_getElem? (i := 81) (by decide +kernel))) (by decide +kernel)
theorem tw_6_82 : Cond.fieldLink "SortWorksModel" 168 "SortWorksModel" "planMany" "[I" ∈ sw_gw := p_mem (p_tb6 (List.mem_of_getElem? (i := 82) (by decide +kernel))) (by decide +kernel)
theorem tw_6_83 : Cond.fieldLink "SortWorksModel" 171 "SortWorksModel" "planRow" "[I" ∈ sw_gw := p_mem (p_tb6 (List.mem_of_getElem? (i := 83) (by decide +kernel))) (by decide +kernel)
theorem tw_6_84 : Cond.fieldLink "SortWorksModel" 174 "SortWorksModel" "groupMany" "[I" ∈ sw_gw := p_mem (p_tb6 (List.mem_of_getElem? (i := 84) (by decide +kernel))) (by decide +kernel)
theorem tw_6_85 : Cond.fieldLink "SortWorksModel" 177 "SortWorksModel" "groupType" "[I" ∈ sw_gw := p_mem (p_tb6 (List.mem_of_getElem? (i := 85) (by decide +kernel))) (by decide +kernel)
theorem tw_6_86 : Cond.fieldLink "SortWorksModel" 180 "SortWorksModel" "groupGear" "[I" ∈ sw_gw := p_mem (p_tb6 (List.mem_of_getElem? (i := 86) (by decide +kernel))) (by decide +kernel)
theorem tw_6_87 : Cond.fieldLink "SortWorksModel" 183 "SortWorksModel" "newTo" "[I" ∈ sw_gw := p_mem (p_tb6 (List.mem_of_getElem? (i := 87) (by decide +kernel))) (by decide +kernel)
theorem tw_6_88 : Cond.fieldLink "SortWorksModel" 186 "SortWorksModel" "newTests" "[I" ∈ sw_gw := p_mem (p_tb6 (List.mem_of_getElem? (i := 88) (by decide +kernel))) (by decide +kernel)
theorem tw_6_89 : Cond.fieldLink "SortWorksModel" 189 "SortWorksModel" "newWhat" "[I" ∈ sw_gw := p_mem (p_tb6 (List.mem_of_getElem? (i := 89) (by decide +kernel))) (by decide +kernel)
theorem tw_6_90 : Cond.fieldLink "SortWorksModel" 192 "SortWorksModel" "newGear" "[I" ∈ sw_gw := p_mem (p_tb6 (List.mem_of_getElem? (i := 90) (by decide +kernel))) (by decide +kernel)
theorem tw_6_91 : Cond.fieldLink "SortWorksModel" 195 "SortWorksModel" "newSign" "[I" ∈ sw_gw := p_mem (p_tb6 (List.mem_of_getElem? (i := 91) (by decide +kernel))) (by decide +kernel)
theorem tw_6_92 : Cond.fieldLink "SortWorksModel" 198 "SortWorksModel" "newNumber" "[I" ∈ sw_gw := p_mem (p_tb6 (List.mem_of_getElem? (i := 92) (by decide +kernel))) (by decide +kernel)
theorem tw_6_93 : Cond.fieldLink "SortWorksModel" 298 "SortWorksModel" "at" "I" ∈ sw_gw := p_mem (p_tb6 (List.mem_of_getElem? (i := 93) (by decide +kernel))) (by decide +kernel)
theorem tw_6_94 : Cond.fieldLink "SortWorksModel" 301 "SortWorksModel" "wrongAt" "I" ∈ sw_gw := p_mem (p_tb6 (List.mem_of_getElem? (i := 94) (by decide +kernel))) (by decide +kernel)
theorem tw_6_95 : Cond.fieldLink "SortWorksModel" 314 "SortWorksModel" "read" "I" ∈ sw_gw := p_mem (p_tb6 (List.mem_of_getElem? (i := 95) (by decide +kernel))) (by decide +kernel)
theorem tw_6_96 : Cond.fieldLink "SortWorksModel" 379 "SortWorksModel" "actGear" "I" ∈ sw_gw := p_mem (p_tb6 (List.mem_of_getElem? (i := 96) (by decide +kernel))) (by decide +kernel)
theorem tw_6_97 : Cond.fieldLink "SortWorksModel" 382 "SortWorksModel" "actFound" "I" ∈ sw_gw := p_mem (p_tb6 (List.mem_of_getElem? (i := 97) (by decide +kernel))) (by decide +kernel)
theorem tw_6_98 : Cond.fieldLink "SortWorksModel" 385 "SortWorksModel" "reached" "I" ∈ sw_gw := p_mem (p_tb6 (List.mem_of_getElem? (i := 98) (by decide +kernel))) (by decide +kernel)
theorem tw_6_99 : Cond.fieldLink "SortWorksModel" 201 "SortWorksModel" "chosen" "[I" ∈ sw_gw := p_mem (p_tb6 (List.mem_of_getElem? (i := 99) (by decide +kernel))) (by decide +kernel)
theorem tw_6_100 : Cond.fieldLink "SortWorksModel" 420 "SortWorksModel" "place" "I" ∈ sw_gw := p_mem (p_tb6 (List.mem_of_getElem? (i := 100) (by decide +kernel))) (by decide +kernel)
theorem tw_6_101 : Cond.fieldLink "SortWorksModel" 423 "SortWorksModel" "weight" "I" ∈ sw_gw := p_mem (p_tb6 (List.mem_of_getElem? (i := 101) (by decide +kernel))) (by decide +kernel)
theorem tw_6_102 : Cond.fieldLink "SortWorksModel" 426 "SortWorksModel" "size" "I" ∈ sw_gw := p_mem (p_tb6 (List.mem_of_getElem? (i := 102) (by decide +kernel))) (by decide +kernel)
theorem tw_6_103 : Cond.fieldLink "SortWorksModel" 414 "SortWorksModel" "readFault" "I" ∈ sw_gw := p_mem (p_tb6 (List.mem_of_getElem? (i := 103) (by decide +kernel))) (by decide +kernel)
theorem tw_6_104 : Cond.fieldLink "SortWorksModel" 204 "SortWorksModel" "six" "[I" ∈ sw_gw := p_mem (p_tb6 (List.mem_of_getElem? (i := 104) (by decide +kernel))) (by decide +kernel)
theorem tw_6_105 : Cond.fieldLink "SortWorksModel" 429 "SortWorksModel" "quotient" "I" ∈ sw_gw := p_mem (p_tb6 (List.mem_of_getElem? (i := 105) (by decide +kernel))) (by decide +kernel)
theorem tw_6_106 : Cond.fieldLink "SortWorksModel" 207 "SortWorksModel" "kept" "[I" ∈ sw_gw := p_mem (p_tb6 (List.mem_of_getElem? (i := 106) (by decide +kernel))) (by decide +kernel)
theorem tw_6_107 : Cond.fieldLink "SortWorksModel" 210 "SortWorksModel" "keptFirst" "[I" ∈ sw_gw := p_mem (p_tb6 (List.mem_of_getElem? (i := 107) (by decide +kernel))) (by decide +kernel)
theorem tw_6_108 : Cond.fieldLink "SortWorksModel" 214 "SortWorksModel" "rows" "[I" ∈ sw_gw := p_mem (p_tb6 (List.mem_of_getElem? (i := 108) (by decide +kernel))) (by decide +kernel)
theorem tw_6_109 : Cond.fieldLink "SortWorksModel" 500 "SortWorksModel" "to" "I" ∈ sw_gw := p_mem (p_tb6 (List.mem_of_getElem? (i := 109) (by decide +kernel))) (by decide +kernel)
theorem tw_6_110 : Cond.fieldLink "SortWorksModel" 496 "SortWorksModel" "isPutting" "Z" ∈ sw_gw := p_mem (p_tb6 (List.mem_of_getElem? (i := 110) (by decide +kernel))) (by decide +kernel)
theorem tw_6_111 : Cond.fieldLink "SortWorksModel" 520 "SortWorksModel" "saidAt" "I" ∈ sw_gw := p_mem (p_tb6 (List.mem_of_getElem? (i := 111) (by decide +kernel))) (by decide +kernel)
theorem tw_6_112 : Cond.fieldLink "SortWorksModel" 523 "SortWorksModel" "saidLetter" "I" ∈ sw_gw := p_mem (p_tb6 (List.mem_of_getElem? (i := 112) (by decide +kernel))) (by decide +kernel)
theorem tw_6_113 : Cond.fieldLink "SortWorksModel" 217 "SortWorksModel" "away" "[I" ∈ sw_gw := p_mem (p_tb6 (List.mem_of_getElem? (i := 113) (by decide +kernel))) (by decide +kernel)
theorem tw_6_114 : Cond.fieldLink "SortWorksModel" 540 "SortWorksModel" "sum" "J" ∈ sw_gw := p_mem (p_tb6 (List.mem_of_getElem? (i := 114) (by decide +kernel))) (by decide +kernel)
theorem tw_7_56 : Cond.arrayClass .boolean ∈ sw_gw := p_mem (p_tb7 (List.mem_of_getElem? (i := 56) (by decide +kernel))) (by decide +kernel)
theorem tw_7_57 : Cond.methodLink "SortWorksLaw" 17 ⟨"SortWorksModel", "works", "(I)I"⟩ ∈ sw_gw := p_mem (p_tb7 (List.mem_of_getElem? (i := 57) (by decide +kernel))) (by decide +kernel)
theorem tw_7_58 : Cond.instanceMethod ⟨"SortWorksModel", "works", "(I)I"⟩ ∈ sw_gw := p_mem (p_tb7 (List.mem_of_getElem? (i := 58) (by decide +kernel))) (by decide +kernel)
theorem tw_7_59 : Cond.selects "SortWorksModel" ⟨"SortWorksModel", "works", "(I)I"⟩ ⟨"SortWorksModel", "works", "(I)I"⟩ ∈ sw_gw := p_mem (p_tb7 (List.mem_of_getElem? (i := 59) (by decide +kernel))) (by decide +kernel)
theorem tw_7_61 : Cond.constantLong "SortWorksModel" 238 (2 : Int64) ∈ sw_gw := p_mem (p_tb7 (List.mem_of_getElem? (i := 61) (by decide +kernel))) (by decide +kernel)
theorem tw_7_62 : Cond.methodLink "SortWorksModel" 230 ⟨"SortWorksModel", "beyond", "(JJJ)Z"⟩ ∈ sw_gw := p_mem (p_tb7 (List.mem_of_getElem? (i := 62) (by decide +kernel))) (by decide +kernel)
theorem tw_7_63 : Cond.static ⟨"SortWorksModel", "beyond", "(JJJ)Z"⟩ ∈ sw_gw := p_mem (p_tb7 (List.mem_of_getElem? (i := 63) (by decide +kernel))) (by decide +kernel)
theorem tw_7_65 : Cond.methodLink "SortWorksModel" 240 ⟨"SortWorksModel", "refused", "(I)I"⟩ ∈ sw_gw := p_mem (p_tb7 (List.mem_of_getElem? (i := 65) (by decide +kernel))) (by decide +kernel)
theorem tw_7_67 : Cond.instanceMethod ⟨"SortWorksModel", "refused", "(I)I"⟩ ∈ sw_gw := p_mem (p_tb7 (List.mem_of_getElem? (i := 67) (by decide +kernel))) (by decide +kernel)
theorem tw_7_69 : Cond.methodLink "SortWorksModel" 244 ⟨"SortWorksModel", "well", "(I)I"⟩ ∈ sw_gw := p_mem (p_tb7 (List.mem_of_getElem? (i := 69) (by decide +kernel))) (by decide +kernel)
theorem tw_7_71 : Cond.instanceMethod ⟨"SortWorksModel", "well", "(I)I"⟩ ∈ sw_gw := p_mem (p_tb7 (List.mem_of_getElem? (i := 71) (by decide +kernel))) (by decide +kernel)
theorem tw_7_73 : Cond.methodLink "SortWorksLaw" 22 ⟨"SortWorksModel", "gear", "(II)I"⟩ ∈ sw_gw := p_mem (p_tb7 (List.mem_of_getElem? (i := 73) (by decide +kernel))) (by decide +kernel)
theorem tw_7_74 : Cond.instanceMethod ⟨"SortWorksModel", "gear", "(II)I"⟩ ∈ sw_gw := p_mem (p_tb7 (List.mem_of_getElem? (i := 74) (by decide +kernel))) (by decide +kernel)
theorem tw_7_75 : Cond.selects "SortWorksModel" ⟨"SortWorksModel", "gear", "(II)I"⟩ ⟨"SortWorksModel", "gear", "(II)I"⟩ ∈ sw_gw := p_mem (p_tb7 (List.mem_of_getElem? (i := 75) (by decide +kernel))) (by decide +kernel)
theorem tw_7_77 : Cond.constantLong "SortWorksModel" 250 (10 : Int64) ∈ sw_gw := p_mem (p_tb7 (List.mem_of_getElem? (i := 77) (by decide +kernel))) (by decide +kernel)
theorem tw_7_78 : Cond.methodLink "SortWorksModel" 252 ⟨"SortWorksModel", "isTaker", "(I)Z"⟩ ∈ sw_gw := p_mem (p_tb7 (List.mem_of_getElem? (i := 78) (by decide +kernel))) (by decide +kernel)
theorem tw_7_79 : Cond.static ⟨"SortWorksModel", "isTaker", "(I)Z"⟩ ∈ sw_gw := p_mem (p_tb7 (List.mem_of_getElem? (i := 79) (by decide +kernel))) (by decide +kernel)
theorem tw_7_81 : Cond.constantLong "SortWorksModel" 255 (8 : Int64) ∈ sw_gw := p_mem (p_tb7 (List.mem_of_getElem? (i := 81) (by decide +kernel))) (by decide +kernel)
theorem tw_7_82 : Cond.methodLink "SortWorksModel" 257 ⟨"SortWorksModel", "g", "(I)I"⟩ ∈ sw_gw := p_mem (p_tb7 (List.mem_of_getElem? (i := 82) (by decide +kernel))) (by decide +kernel)
theorem tw_7_84 : Cond.instanceMethod ⟨"SortWorksModel", "g", "(I)I"⟩ ∈ sw_gw := p_mem (p_tb7 (List.mem_of_getElem? (i := 84) (by decide +kernel))) (by decide +kernel)
theorem tw_7_86 : Cond.methodLink "SortWorksModel" 260 ⟨"SortWorksModel", "fresh", "(II)V"⟩ ∈ sw_gw := p_mem (p_tb7 (List.mem_of_getElem? (i := 86) (by decide +kernel))) (by decide +kernel)
theorem tw_7_88 : Cond.instanceMethod ⟨"SortWorksModel", "fresh", "(II)V"⟩ ∈ sw_gw := p_mem (p_tb7 (List.mem_of_getElem? (i := 88) (by decide +kernel))) (by decide +kernel)
theorem tw_7_90 : Cond.methodLink "SortWorksModel" 247 ⟨"SortWorksModel", "rankOf", "(I)I"⟩ ∈ sw_gw := p_mem (p_tb7 (List.mem_of_getElem? (i := 90) (by decide +kernel))) (by decide +kernel)
theorem tw_7_91 : Cond.static ⟨"SortWorksModel", "rankOf", "(I)I"⟩ ∈ sw_gw := p_mem (p_tb7 (List.mem_of_getElem? (i := 91) (by decide +kernel))) (by decide +kernel)
theorem tw_7_93 : Cond.methodLink "SortWorksModel" 234 ⟨"SortWorksModel", "isDivert", "(I)Z"⟩ ∈ sw_gw := p_mem (p_tb7 (List.mem_of_getElem? (i := 93) (by decide +kernel))) (by decide +kernel)
theorem tw_7_94 : Cond.static ⟨"SortWorksModel", "isDivert", "(I)Z"⟩ ∈ sw_gw := p_mem (p_tb7 (List.mem_of_getElem? (i := 94) (by decide +kernel))) (by decide +kernel)
theorem tw_7_96 : Cond.methodLink "SortWorksModel" 264 ⟨"SortWorksModel", "built", "(I)I"⟩ ∈ sw_gw := p_mem (p_tb7 (List.mem_of_getElem? (i := 96) (by decide +kernel))) (by decide +kernel)
theorem tw_7_98 : Cond.instanceMethod ⟨"SortWorksModel", "built", "(I)I"⟩ ∈ sw_gw := p_mem (p_tb7 (List.mem_of_getElem? (i := 98) (by decide +kernel))) (by decide +kernel)
theorem tw_7_100 : Cond.methodLink "SortWorksLaw" 26 ⟨"SortWorksModel", "links", "(II)I"⟩ ∈ sw_gw := p_mem (p_tb7 (List.mem_of_getElem? (i := 100) (by decide +kernel))) (by decide +kernel)
theorem tw_7_101 : Cond.instanceMethod ⟨"SortWorksModel", "links", "(II)I"⟩ ∈ sw_gw := p_mem (p_tb7 (List.mem_of_getElem? (i := 101) (by decide +kernel))) (by decide +kernel)
theorem tw_7_102 : Cond.selects "SortWorksModel" ⟨"SortWorksModel", "links", "(II)I"⟩ ⟨"SortWorksModel", "links", "(II)I"⟩ ∈ sw_gw := p_mem (p_tb7 (List.mem_of_getElem? (i := 102) (by decide +kernel))) (by decide +kernel)
theorem tw_7_104 : Cond.methodLink "SortWorksModel" 267 ⟨"SortWorksModel", "noGear", "(I)Z"⟩ ∈ sw_gw := p_mem (p_tb7 (List.mem_of_getElem? (i := 104) (by decide +kernel))) (by decide +kernel)
theorem tw_7_106 : Cond.instanceMethod ⟨"SortWorksModel", "noGear", "(I)Z"⟩ ∈ sw_gw := p_mem (p_tb7 (List.mem_of_getElem? (i := 106) (by decide +kernel))) (by decide +kernel)
theorem tw_7_108 : Cond.methodLink "SortWorksModel" 270 ⟨"SortWorksModel", "faulted", "(I)I"⟩ ∈ sw_gw := p_mem (p_tb7 (List.mem_of_getElem? (i := 108) (by decide +kernel))) (by decide +kernel)
theorem tw_7_110 : Cond.instanceMethod ⟨"SortWorksModel", "faulted", "(I)I"⟩ ∈ sw_gw := p_mem (p_tb7 (List.mem_of_getElem? (i := 110) (by decide +kernel))) (by decide +kernel)
theorem tw_7_112 : Cond.methodLink "SortWorksLaw" 31 ⟨"SortWorksModel", "link", "(III)I"⟩ ∈ sw_gw := p_mem (p_tb7 (List.mem_of_getElem? (i := 112) (by decide +kernel))) (by decide +kernel)
theorem tw_7_113 : Cond.instanceMethod ⟨"SortWorksModel", "link", "(III)I"⟩ ∈ sw_gw := p_mem (p_tb7 (List.mem_of_getElem? (i := 113) (by decide +kernel))) (by decide +kernel)
theorem tw_7_114 : Cond.selects "SortWorksModel" ⟨"SortWorksModel", "link", "(III)I"⟩ ⟨"SortWorksModel", "link", "(III)I"⟩ ∈ sw_gw := p_mem (p_tb7 (List.mem_of_getElem? (i := 114) (by decide +kernel))) (by decide +kernel)
theorem tw_7_116 : Cond.constantLong "SortWorksModel" 273 (-1 : Int64) ∈ sw_gw := p_mem (p_tb7 (List.mem_of_getElem? (i := 116) (by decide +kernel))) (by decide +kernel)
theorem tw_7_117 : Cond.constantLong "SortWorksModel" 275 (39 : Int64) ∈ sw_gw := p_mem (p_tb7 (List.mem_of_getElem? (i := 117) (by decide +kernel))) (by decide +kernel)
theorem tw_7_118 : Cond.methodLink "SortWorksLaw" 36 ⟨"SortWorksModel", "aim", "(IIIZ)I"⟩ ∈ sw_gw := p_mem (p_tb7 (List.mem_of_getElem? (i := 118) (by decide +kernel))) (by decide +kernel)
theorem tw_7_119 : Cond.instanceMethod ⟨"SortWorksModel", "aim", "(IIIZ)I"⟩ ∈ sw_gw := p_mem (p_tb7 (List.mem_of_getElem? (i := 119) (by decide +kernel))) (by decide +kernel)
theorem tw_7_120 : Cond.selects "SortWorksModel" ⟨"SortWorksModel", "aim", "(IIIZ)I"⟩ ⟨"SortWorksModel", "aim", "(IIIZ)I"⟩ ∈ sw_gw := p_mem (p_tb7 (List.mem_of_getElem? (i := 120) (by decide +kernel))) (by decide +kernel)
theorem tw_7_122 : Cond.methodLink "SortWorksModel" 277 ⟨"SortWorksModel", "sidesOf", "(I)I"⟩ ∈ sw_gw := p_mem (p_tb7 (List.mem_of_getElem? (i := 122) (by decide +kernel))) (by decide +kernel)
theorem tw_7_123 : Cond.static ⟨"SortWorksModel", "sidesOf", "(I)I"⟩ ∈ sw_gw := p_mem (p_tb7 (List.mem_of_getElem? (i := 123) (by decide +kernel))) (by decide +kernel)
theorem tw_7_125 : Cond.methodLink "SortWorksLaw" 40 ⟨"SortWorksModel", "rank", "(II)I"⟩ ∈ sw_gw := p_mem (p_tb7 (List.mem_of_getElem? (i := 125) (by decide +kernel))) (by decide +kernel)
theorem tw_7_126 : Cond.instanceMethod ⟨"SortWorksModel", "rank", "(II)I"⟩ ∈ sw_gw := p_mem (p_tb7 (List.mem_of_getElem? (i := 126) (by decide +kernel))) (by decide +kernel)
theorem tw_7_127 : Cond.selects "SortWorksModel" ⟨"SortWorksModel", "rank", "(II)I"⟩ ⟨"SortWorksModel", "rank", "(II)I"⟩ ∈ sw_gw := p_mem (p_tb7 (List.mem_of_getElem? (i := 127) (by decide +kernel))) (by decide +kernel)
theorem tw_7_129 : Cond.constantLong "SortWorksModel" 280 (9 : Int64) ∈ sw_gw := p_mem (p_tb7 (List.mem_of_getElem? (i := 129) (by decide +kernel))) (by decide +kernel)
theorem tw_7_130 : Cond.methodLink "SortWorksLaw" 44 ⟨"SortWorksModel", "refit", "(II)I"⟩ ∈ sw_gw := p_mem (p_tb7 (List.mem_of_getElem? (i := 130) (by decide +kernel))) (by decide +kernel)
theorem tw_7_131 : Cond.instanceMethod ⟨"SortWorksModel", "refit", "(II)I"⟩ ∈ sw_gw := p_mem (p_tb7 (List.mem_of_getElem? (i := 131) (by decide +kernel))) (by decide +kernel)
theorem tw_7_132 : Cond.selects "SortWorksModel" ⟨"SortWorksModel", "refit", "(II)I"⟩ ⟨"SortWorksModel", "refit", "(II)I"⟩ ∈ sw_gw := p_mem (p_tb7 (List.mem_of_getElem? (i := 132) (by decide +kernel))) (by decide +kernel)
theorem tw_7_134 : Cond.methodLink "SortWorksModel" 282 ⟨"SortWorksModel", "loadOf", "(I)I"⟩ ∈ sw_gw := p_mem (p_tb7 (List.mem_of_getElem? (i := 134) (by decide +kernel))) (by decide +kernel)
theorem tw_7_136 : Cond.instanceMethod ⟨"SortWorksModel", "loadOf", "(I)I"⟩ ∈ sw_gw := p_mem (p_tb7 (List.mem_of_getElem? (i := 136) (by decide +kernel))) (by decide +kernel)
theorem tw_7_138 : Cond.methodLink "SortWorksLaw" 48 ⟨"SortWorksModel", "copy", "(I)I"⟩ ∈ sw_gw := p_mem (p_tb7 (List.mem_of_getElem? (i := 138) (by decide +kernel))) (by decide +kernel)
theorem tw_7_139 : Cond.instanceMethod ⟨"SortWorksModel", "copy", "(I)I"⟩ ∈ sw_gw := p_mem (p_tb7 (List.mem_of_getElem? (i := 139) (by decide +kernel))) (by decide +kernel)
theorem tw_7_140 : Cond.selects "SortWorksModel" ⟨"SortWorksModel", "copy", "(I)I"⟩ ⟨"SortWorksModel", "copy", "(I)I"⟩ ∈ sw_gw := p_mem (p_tb7 (List.mem_of_getElem? (i := 140) (by decide +kernel))) (by decide +kernel)
theorem tw_7_142 : Cond.methodLink "SortWorksModel" 285 ⟨"SortWorksModel", "copyGear", "(II)V"⟩ ∈ sw_gw := p_mem (p_tb7 (List.mem_of_getElem? (i := 142) (by decide +kernel))) (by decide +kernel)
theorem tw_7_144 : Cond.instanceMethod ⟨"SortWorksModel", "copyGear", "(II)V"⟩ ∈ sw_gw := p_mem (p_tb7 (List.mem_of_getElem? (i := 144) (by decide +kernel))) (by decide +kernel)
theorem tw_7_146 : Cond.methodLink "SortWorksModel" 288 ⟨"SortWorksModel", "copyRule", "(II)V"⟩ ∈ sw_gw := p_mem (p_tb7 (List.mem_of_getElem? (i := 146) (by decide +kernel))) (by decide +kernel)
theorem tw_7_148 : Cond.instanceMethod ⟨"SortWorksModel", "copyRule", "(II)V"⟩ ∈ sw_gw := p_mem (p_tb7 (List.mem_of_getElem? (i := 148) (by decide +kernel))) (by decide +kernel)
theorem tw_7_150 : Cond.methodLink "SortWorksLaw" 52 ⟨"SortWorksModel", "letter", "(I)I"⟩ ∈ sw_gw := p_mem (p_tb7 (List.mem_of_getElem? (i := 150) (by decide +kernel))) (by decide +kernel)
theorem tw_7_151 : Cond.instanceMethod ⟨"SortWorksModel", "letter", "(I)I"⟩ ∈ sw_gw := p_mem (p_tb7 (List.mem_of_getElem? (i := 151) (by decide +kernel))) (by decide +kernel)
theorem tw_7_152 : Cond.selects "SortWorksModel" ⟨"SortWorksModel", "letter", "(I)I"⟩ ⟨"SortWorksModel", "letter", "(I)I"⟩ ∈ sw_gw := p_mem (p_tb7 (List.mem_of_getElem? (i := 152) (by decide +kernel))) (by decide +kernel)
theorem tw_7_154 : Cond.constantLong "SortWorksModel" 291 (33 : Int64) ∈ sw_gw := p_mem (p_tb7 (List.mem_of_getElem? (i := 154) (by decide +kernel))) (by decide +kernel)
theorem tw_7_155 : Cond.constantLong "SortWorksModel" 293 (126 : Int64) ∈ sw_gw := p_mem (p_tb7 (List.mem_of_getElem? (i := 155) (by decide +kernel))) (by decide +kernel)
theorem tw_7_156 : Cond.methodLink "SortWorksLaw" 57 ⟨"SortWorksModel", "load", "()I"⟩ ∈ sw_gw := p_mem (p_tb7 (List.mem_of_getElem? (i := 156) (by decide +kernel))) (by decide +kernel)
theorem tw_7_157 : Cond.instanceMethod ⟨"SortWorksModel", "load", "()I"⟩ ∈ sw_gw := p_mem (p_tb7 (List.mem_of_getElem? (i := 157) (by decide +kernel))) (by decide +kernel)
theorem tw_7_158 : Cond.selects "SortWorksModel" ⟨"SortWorksModel", "load", "()I"⟩ ⟨"SortWorksModel", "load", "()I"⟩ ∈ sw_gw := p_mem (p_tb7 (List.mem_of_getElem? (i := 158) (by decide +kernel))) (by decide +kernel)
theorem tw_7_160 : Cond.methodLink "SortWorksModel" 327 ⟨"SortWorksModel", "rule", "(I)Z"⟩ ∈ sw_gw := p_mem (p_tb7 (List.mem_of_getElem? (i := 160) (by decide +kernel))) (by decide +kernel)
theorem tw_7_162 : Cond.instanceMethod ⟨"SortWorksModel", "rule", "(I)Z"⟩ ∈ sw_gw := p_mem (p_tb7 (List.mem_of_getElem? (i := 162) (by decide +kernel))) (by decide +kernel)
theorem tw_7_164 : Cond.methodLink "SortWorksModel" 311 ⟨"SortWorksModel", "wrong", "(I)Z"⟩ ∈ sw_gw := p_mem (p_tb7 (List.mem_of_getElem? (i := 164) (by decide +kernel))) (by decide +kernel)
theorem tw_7_166 : Cond.instanceMethod ⟨"SortWorksModel", "wrong", "(I)Z"⟩ ∈ sw_gw := p_mem (p_tb7 (List.mem_of_getElem? (i := 166) (by decide +kernel))) (by decide +kernel)
theorem tw_7_168 : Cond.methodLink "SortWorksModel" 304 ⟨"SortWorksModel", "here", "()I"⟩ ∈ sw_gw := p_mem (p_tb7 (List.mem_of_getElem? (i := 168) (by decide +kernel))) (by decide +kernel)
theorem tw_7_170 : Cond.instanceMethod ⟨"SortWorksModel", "here", "()I"⟩ ∈ sw_gw := p_mem (p_tb7 (List.mem_of_getElem? (i := 170) (by decide +kernel))) (by decide +kernel)
theorem tw_7_172 : Cond.methodLink "SortWorksModel" 324 ⟨"SortWorksModel", "test", "(I)Z"⟩ ∈ sw_gw := p_mem (p_tb7 (List.mem_of_getElem? (i := 172) (by decide +kernel))) (by decide +kernel)
theorem tw_7_174 : Cond.instanceMethod ⟨"SortWorksModel", "test", "(I)Z"⟩ ∈ sw_gw := p_mem (p_tb7 (List.mem_of_getElem? (i := 174) (by decide +kernel))) (by decide +kernel)
theorem tw_7_176 : Cond.methodLink "SortWorksModel" 317 ⟨"SortWorksModel", "number", "()Z"⟩ ∈ sw_gw := p_mem (p_tb7 (List.mem_of_getElem? (i := 176) (by decide +kernel))) (by decide +kernel)
theorem tw_7_178 : Cond.instanceMethod ⟨"SortWorksModel", "number", "()Z"⟩ ∈ sw_gw := p_mem (p_tb7 (List.mem_of_getElem? (i := 178) (by decide +kernel))) (by decide +kernel)
theorem tw_7_180 : Cond.methodLink "SortWorksModel" 308 ⟨"SortWorksModel", "isDigit", "(I)Z"⟩ ∈ sw_gw := p_mem (p_tb7 (List.mem_of_getElem? (i := 180) (by decide +kernel))) (by decide +kernel)
theorem tw_7_181 : Cond.static ⟨"SortWorksModel", "isDigit", "(I)Z"⟩ ∈ sw_gw := p_mem (p_tb7 (List.mem_of_getElem? (i := 181) (by decide +kernel))) (by decide +kernel)
theorem tw_7_183 : Cond.methodLink "SortWorksModel" 321 ⟨"SortWorksModel", "sign", "()Z"⟩ ∈ sw_gw := p_mem (p_tb7 (List.mem_of_getElem? (i := 183) (by decide +kernel))) (by decide +kernel)
theorem tw_7_185 : Cond.instanceMethod ⟨"SortWorksModel", "sign", "()Z"⟩ ∈ sw_gw := p_mem (p_tb7 (List.mem_of_getElem? (i := 185) (by decide +kernel))) (by decide +kernel)
theorem tw_7_187 : Cond.methodLink "SortWorksLaw" 62 ⟨"SortWorksModel", "plan", "(IIIII)I"⟩ ∈ sw_gw := p_mem (p_tb7 (List.mem_of_getElem? (i := 187) (by decide +kernel))) (by decide +kernel)
theorem tw_7_188 : Cond.instanceMethod ⟨"SortWorksModel", "plan", "(IIIII)I"⟩ ∈ sw_gw := p_mem (p_tb7 (List.mem_of_getElem? (i := 188) (by decide +kernel))) (by decide +kernel)
theorem tw_7_189 : Cond.selects "SortWorksModel" ⟨"SortWorksModel", "plan", "(IIIII)I"⟩ ⟨"SortWorksModel", "plan", "(IIIII)I"⟩ ∈ sw_gw := p_mem (p_tb7 (List.mem_of_getElem? (i := 189) (by decide +kernel))) (by decide +kernel)
theorem tw_7_191 : Cond.constantLong "SortWorksModel" 330 (4 : Int64) ∈ sw_gw := p_mem (p_tb7 (List.mem_of_getElem? (i := 191) (by decide +kernel))) (by decide +kernel)
theorem tw_7_192 : Cond.constantLong "SortWorksModel" 332 (9999 : Int64) ∈ sw_gw := p_mem (p_tb7 (List.mem_of_getElem? (i := 192) (by decide +kernel))) (by decide +kernel)
theorem tw_7_193 : Cond.methodLink "SortWorksLaw" 66 ⟨"SortWorksModel", "come", "(III)I"⟩ ∈ sw_gw := p_mem (p_tb7 (List.mem_of_getElem? (i := 193) (by decide +kernel))) (by decide +kernel)
theorem tw_7_194 : Cond.instanceMethod ⟨"SortWorksModel", "come", "(III)I"⟩ ∈ sw_gw := p_mem (p_tb7 (List.mem_of_getElem? (i := 194) (by decide +kernel))) (by decide +kernel)
theorem tw_7_195 : Cond.selects "SortWorksModel" ⟨"SortWorksModel", "come", "(III)I"⟩ ⟨"SortWorksModel", "come", "(III)I"⟩ ∈ sw_gw := p_mem (p_tb7 (List.mem_of_getElem? (i := 195) (by decide +kernel))) (by decide +kernel)
theorem tw_7_197 : Cond.constantLong "SortWorksModel" 340 (999 : Int64) ∈ sw_gw := p_mem (p_tb7 (List.mem_of_getElem? (i := 197) (by decide +kernel))) (by decide +kernel)
theorem tw_7_198 : Cond.methodLink "SortWorksModel" 342 ⟨"SortWorksModel", "isChute", "(I)Z"⟩ ∈ sw_gw := p_mem (p_tb7 (List.mem_of_getElem? (i := 198) (by decide +kernel))) (by decide +kernel)
theorem tw_7_199 : Cond.static ⟨"SortWorksModel", "isChute", "(I)Z"⟩ ∈ sw_gw := p_mem (p_tb7 (List.mem_of_getElem? (i := 199) (by decide +kernel))) (by decide +kernel)
theorem tw_7_201 : Cond.methodLink "SortWorksModel" 345 ⟨"SortWorksModel", "comesFull", "()Z"⟩ ∈ sw_gw := p_mem (p_tb7 (List.mem_of_getElem? (i := 201) (by decide +kernel))) (by decide +kernel)
theorem tw_7_203 : Cond.instanceMethod ⟨"SortWorksModel", "comesFull", "()Z"⟩ ∈ sw_gw := p_mem (p_tb7 (List.mem_of_getElem? (i := 203) (by decide +kernel))) (by decide +kernel)
theorem tw_7_205 : Cond.methodLink "SortWorksModel" 348 ⟨"SortWorksModel", "newParcel", "(III)I"⟩ ∈ sw_gw := p_mem (p_tb7 (List.mem_of_getElem? (i := 205) (by decide +kernel))) (by decide +kernel)
theorem tw_7_207 : Cond.instanceMethod ⟨"SortWorksModel", "newParcel", "(III)I"⟩ ∈ sw_gw := p_mem (p_tb7 (List.mem_of_getElem? (i := 207) (by decide +kernel))) (by decide +kernel)
theorem tw_7_209 : Cond.methodLink "SortWorksModel" 337 ⟨"SortWorksModel", "enters", "(II)V"⟩ ∈ sw_gw := p_mem (p_tb7 (List.mem_of_getElem? (i := 209) (by decide +kernel))) (by decide +kernel)
theorem tw_7_211 : Cond.instanceMethod ⟨"SortWorksModel", "enters", "(II)V"⟩ ∈ sw_gw := p_mem (p_tb7 (List.mem_of_getElem? (i := 211) (by decide +kernel))) (by decide +kernel)
theorem tw_7_213 : Cond.methodLink "SortWorksLaw" 70 ⟨"SortWorksModel", "label", "(II)I"⟩ ∈ sw_gw := p_mem (p_tb7 (List.mem_of_getElem? (i := 213) (by decide +kernel))) (by decide +kernel)
theorem tw_7_214 : Cond.instanceMethod ⟨"SortWorksModel", "label", "(II)I"⟩ ∈ sw_gw := p_mem (p_tb7 (List.mem_of_getElem? (i := 214) (by decide +kernel))) (by decide +kernel)
theorem tw_7_215 : Cond.selects "SortWorksModel" ⟨"SortWorksModel", "label", "(II)I"⟩ ⟨"SortWorksModel", "label", "(II)I"⟩ ∈ sw_gw := p_mem (p_tb7 (List.mem_of_getElem? (i := 215) (by decide +kernel))) (by decide +kernel)
theorem tw_7_217 : Cond.methodLink "SortWorksModel" 352 ⟨"SortWorksModel", "noParcel", "(I)Z"⟩ ∈ sw_gw := p_mem (p_tb7 (List.mem_of_getElem? (i := 217) (by decide +kernel))) (by decide +kernel)
theorem tw_7_219 : Cond.instanceMethod ⟨"SortWorksModel", "noParcel", "(I)Z"⟩ ∈ sw_gw := p_mem (p_tb7 (List.mem_of_getElem? (i := 219) (by decide +kernel))) (by decide +kernel)
theorem tw_7_221 : Cond.methodLink "SortWorksModel" 355 ⟨"SortWorksModel", "newLabel", "(II)V"⟩ ∈ sw_gw := p_mem (p_tb7 (List.mem_of_getElem? (i := 221) (by decide +kernel))) (by decide +kernel)
theorem tw_7_223 : Cond.instanceMethod ⟨"SortWorksModel", "newLabel", "(II)V"⟩ ∈ sw_gw := p_mem (p_tb7 (List.mem_of_getElem? (i := 223) (by decide +kernel))) (by decide +kernel)
theorem tw_7_225 : Cond.methodLink "SortWorksLaw" 74 ⟨"SortWorksModel", "put", "(III)I"⟩ ∈ sw_gw := p_mem (p_tb7 (List.mem_of_getElem? (i := 225) (by decide +kernel))) (by decide +kernel)
theorem tw_7_226 : Cond.instanceMethod ⟨"SortWorksModel", "put", "(III)I"⟩ ∈ sw_gw := p_mem (p_tb7 (List.mem_of_getElem? (i := 226) (by decide +kernel))) (by decide +kernel)
theorem tw_7_227 : Cond.selects "SortWorksModel" ⟨"SortWorksModel", "put", "(III)I"⟩ ⟨"SortWorksModel", "put", "(III)I"⟩ ∈ sw_gw := p_mem (p_tb7 (List.mem_of_getElem? (i := 227) (by decide +kernel))) (by decide +kernel)
theorem tw_7_229 : Cond.methodLink "SortWorksLaw" 78 ⟨"SortWorksModel", "tag", "(III)I"⟩ ∈ sw_gw := p_mem (p_tb7 (List.mem_of_getElem? (i := 229) (by decide +kernel))) (by decide +kernel)
theorem tw_7_230 : Cond.instanceMethod ⟨"SortWorksModel", "tag", "(III)I"⟩ ∈ sw_gw := p_mem (p_tb7 (List.mem_of_getElem? (i := 230) (by decide +kernel))) (by decide +kernel)
theorem tw_7_231 : Cond.selects "SortWorksModel" ⟨"SortWorksModel", "tag", "(III)I"⟩ ⟨"SortWorksModel", "tag", "(III)I"⟩ ∈ sw_gw := p_mem (p_tb7 (List.mem_of_getElem? (i := 231) (by decide +kernel))) (by decide +kernel)
theorem tw_7_233 : Cond.constantLong "SortWorksModel" 358 (99 : Int64) ∈ sw_gw := p_mem (p_tb7 (List.mem_of_getElem? (i := 233) (by decide +kernel))) (by decide +kernel)
theorem tw_7_234 : Cond.methodLink "SortWorksModel" 360 ⟨"SortWorksModel", "tags", "(III)V"⟩ ∈ sw_gw := p_mem (p_tb7 (List.mem_of_getElem? (i := 234) (by decide +kernel))) (by decide +kernel)
theorem tw_7_236 : Cond.instanceMethod ⟨"SortWorksModel", "tags", "(III)V"⟩ ∈ sw_gw := p_mem (p_tb7 (List.mem_of_getElem? (i := 236) (by decide +kernel))) (by decide +kernel)
theorem tw_7_238 : Cond.methodLink "SortWorksLaw" 83 ⟨"SortWorksModel", "door", "(IZ)I"⟩ ∈ sw_gw := p_mem (p_tb7 (List.mem_of_getElem? (i := 238) (by decide +kernel))) (by decide +kernel)
theorem tw_7_239 : Cond.instanceMethod ⟨"SortWorksModel", "door", "(IZ)I"⟩ ∈ sw_gw := p_mem (p_tb7 (List.mem_of_getElem? (i := 239) (by decide +kernel))) (by decide +kernel)
theorem tw_8_0 : Cond.selects "SortWorksModel" ⟨"SortWorksModel", "door", "(IZ)I"⟩ ⟨"SortWorksModel", "door", "(IZ)I"⟩ ∈ sw_gw := p_mem (p_tb8 (List.mem_of_getElem? (i := 0) (by decide +kernel))) (by decide +kernel)
theorem tw_8_2 : Cond.methodLink "SortWorksLaw" 87 ⟨"SortWorksModel", "turn", "(II)I"⟩ ∈ sw_gw := p_mem (p_tb8 (List.mem_of_getElem? (i := 2) (by decide +kernel))) (by decide +kernel)
theorem tw_8_3 : Cond.instanceMethod ⟨"SortWorksModel", "turn", "(II)I"⟩ ∈ sw_gw := p_mem (p_tb8 (List.mem_of_getElem? (i := 3) (by decide +kernel))) (by decide +kernel)
theorem tw_8_4 : Cond.selects "SortWorksModel" ⟨"SortWorksModel", "turn", "(II)I"⟩ ⟨"SortWorksModel", "turn", "(II)I"⟩ ∈ sw_gw := p_mem (p_tb8 (List.mem_of_getElem? (i := 4) (by decide +kernel))) (by decide +kernel)
theorem tw_8_6 : Cond.methodLink "SortWorksLaw" 91 ⟨"SortWorksModel", "release", "(II)I"⟩ ∈ sw_gw := p_mem (p_tb8 (List.mem_of_getElem? (i := 6) (by decide +kernel))) (by decide +kernel)
theorem tw_8_7 : Cond.instanceMethod ⟨"SortWorksModel", "release", "(II)I"⟩ ∈ sw_gw := p_mem (p_tb8 (List.mem_of_getElem? (i := 7) (by decide +kernel))) (by decide +kernel)
theorem tw_8_8 : Cond.selects "SortWorksModel" ⟨"SortWorksModel", "release", "(II)I"⟩ ⟨"SortWorksModel", "release", "(II)I"⟩ ∈ sw_gw := p_mem (p_tb8 (List.mem_of_getElem? (i := 8) (by decide +kernel))) (by decide +kernel)
theorem tw_8_10 : Cond.constantLong "SortWorksModel" 364 (20 : Int64) ∈ sw_gw := p_mem (p_tb8 (List.mem_of_getElem? (i := 10) (by decide +kernel))) (by decide +kernel)
theorem tw_8_11 : Cond.methodLink "SortWorksLaw" 95 ⟨"SortWorksModel", "clear", "(I)I"⟩ ∈ sw_gw := p_mem (p_tb8 (List.mem_of_getElem? (i := 11) (by decide +kernel))) (by decide +kernel)
theorem tw_8_12 : Cond.instanceMethod ⟨"SortWorksModel", "clear", "(I)I"⟩ ∈ sw_gw := p_mem (p_tb8 (List.mem_of_getElem? (i := 12) (by decide +kernel))) (by decide +kernel)
theorem tw_8_13 : Cond.selects "SortWorksModel" ⟨"SortWorksModel", "clear", "(I)I"⟩ ⟨"SortWorksModel", "clear", "(I)I"⟩ ∈ sw_gw := p_mem (p_tb8 (List.mem_of_getElem? (i := 13) (by decide +kernel))) (by decide +kernel)
theorem tw_8_15 : Cond.methodLink "SortWorksModel" 366 ⟨"SortWorksModel", "isJammed", "(I)Z"⟩ ∈ sw_gw := p_mem (p_tb8 (List.mem_of_getElem? (i := 15) (by decide +kernel))) (by decide +kernel)
theorem tw_8_17 : Cond.instanceMethod ⟨"SortWorksModel", "isJammed", "(I)Z"⟩ ∈ sw_gw := p_mem (p_tb8 (List.mem_of_getElem? (i := 17) (by decide +kernel))) (by decide +kernel)
theorem tw_8_19 : Cond.methodLink "SortWorksModel" 369 ⟨"SortWorksModel", "leaves", "(I)V"⟩ ∈ sw_gw := p_mem (p_tb8 (List.mem_of_getElem? (i := 19) (by decide +kernel))) (by decide +kernel)
theorem tw_8_21 : Cond.instanceMethod ⟨"SortWorksModel", "leaves", "(I)V"⟩ ∈ sw_gw := p_mem (p_tb8 (List.mem_of_getElem? (i := 21) (by decide +kernel))) (by decide +kernel)
theorem tw_8_23 : Cond.methodLink "SortWorksLaw" 99 ⟨"SortWorksModel", "carry", "(II)I"⟩ ∈ sw_gw := p_mem (p_tb8 (List.mem_of_getElem? (i := 23) (by decide +kernel))) (by decide +kernel)
theorem tw_8_24 : Cond.instanceMethod ⟨"SortWorksModel", "carry", "(II)I"⟩ ∈ sw_gw := p_mem (p_tb8 (List.mem_of_getElem? (i := 24) (by decide +kernel))) (by decide +kernel)
theorem tw_8_25 : Cond.selects "SortWorksModel" ⟨"SortWorksModel", "carry", "(II)I"⟩ ⟨"SortWorksModel", "carry", "(II)I"⟩ ∈ sw_gw := p_mem (p_tb8 (List.mem_of_getElem? (i := 25) (by decide +kernel))) (by decide +kernel)
theorem tw_8_27 : Cond.methodLink "SortWorksLaw" 103 ⟨"SortWorksModel", "group", "(III)I"⟩ ∈ sw_gw := p_mem (p_tb8 (List.mem_of_getElem? (i := 27) (by decide +kernel))) (by decide +kernel)
theorem tw_8_28 : Cond.instanceMethod ⟨"SortWorksModel", "group", "(III)I"⟩ ∈ sw_gw := p_mem (p_tb8 (List.mem_of_getElem? (i := 28) (by decide +kernel))) (by decide +kernel)
theorem tw_8_29 : Cond.selects "SortWorksModel" ⟨"SortWorksModel", "group", "(III)I"⟩ ⟨"SortWorksModel", "group", "(III)I"⟩ ∈ sw_gw := p_mem (p_tb8 (List.mem_of_getElem? (i := 29) (by decide +kernel))) (by decide +kernel)
theorem tw_8_31 : Cond.constantLong "SortWorksModel" 373 (3 : Int64) ∈ sw_gw := p_mem (p_tb8 (List.mem_of_getElem? (i := 31) (by decide +kernel))) (by decide +kernel)
theorem tw_8_32 : Cond.methodLink "SortWorksLaw" 107 ⟨"SortWorksModel", "enter", "(III)I"⟩ ∈ sw_gw := p_mem (p_tb8 (List.mem_of_getElem? (i := 32) (by decide +kernel))) (by decide +kernel)
theorem tw_8_33 : Cond.instanceMethod ⟨"SortWorksModel", "enter", "(III)I"⟩ ∈ sw_gw := p_mem (p_tb8 (List.mem_of_getElem? (i := 33) (by decide +kernel))) (by decide +kernel)
theorem tw_8_34 : Cond.selects "SortWorksModel" ⟨"SortWorksModel", "enter", "(III)I"⟩ ⟨"SortWorksModel", "enter", "(III)I"⟩ ∈ sw_gw := p_mem (p_tb8 (List.mem_of_getElem? (i := 34) (by decide +kernel))) (by decide +kernel)
theorem tw_8_36 : Cond.methodLink "SortWorksModel" 375 ⟨"SortWorksModel", "isOfType", "(II)Z"⟩ ∈ sw_gw := p_mem (p_tb8 (List.mem_of_getElem? (i := 36) (by decide +kernel))) (by decide +kernel)
theorem tw_8_37 : Cond.static ⟨"SortWorksModel", "isOfType", "(II)Z"⟩ ∈ sw_gw := p_mem (p_tb8 (List.mem_of_getElem? (i := 37) (by decide +kernel))) (by decide +kernel)
theorem tw_8_39 : Cond.methodLink "SortWorksLaw" 111 ⟨"SortWorksModel", "tally", "(II)I"⟩ ∈ sw_gw := p_mem (p_tb8 (List.mem_of_getElem? (i := 39) (by decide +kernel))) (by decide +kernel)
theorem tw_8_40 : Cond.instanceMethod ⟨"SortWorksModel", "tally", "(II)I"⟩ ∈ sw_gw := p_mem (p_tb8 (List.mem_of_getElem? (i := 40) (by decide +kernel))) (by decide +kernel)
theorem tw_8_41 : Cond.selects "SortWorksModel" ⟨"SortWorksModel", "tally", "(II)I"⟩ ⟨"SortWorksModel", "tally", "(II)I"⟩ ∈ sw_gw := p_mem (p_tb8 (List.mem_of_getElem? (i := 41) (by decide +kernel))) (by decide +kernel)
theorem tw_8_43 : Cond.methodLink "SortWorksLaw" 115 ⟨"SortWorksModel", "step", "()I"⟩ ∈ sw_gw := p_mem (p_tb8 (List.mem_of_getElem? (i := 43) (by decide +kernel))) (by decide +kernel)
theorem tw_8_44 : Cond.instanceMethod ⟨"SortWorksModel", "step", "()I"⟩ ∈ sw_gw := p_mem (p_tb8 (List.mem_of_getElem? (i := 44) (by decide +kernel))) (by decide +kernel)
theorem tw_8_45 : Cond.selects "SortWorksModel" ⟨"SortWorksModel", "step", "()I"⟩ ⟨"SortWorksModel", "step", "()I"⟩ ∈ sw_gw := p_mem (p_tb8 (List.mem_of_getElem? (i := 45) (by decide +kernel))) (by decide +kernel)
theorem tw_8_47 : Cond.methodLink "SortWorksModel" 486 ⟨"SortWorksModel", "isFull", "()Z"⟩ ∈ sw_gw := p_mem (p_tb8 (List.mem_of_getElem? (i := 47) (by decide +kernel))) (by decide +kernel)
theorem tw_8_49 : Cond.instanceMethod ⟨"SortWorksModel", "isFull", "()Z"⟩ ∈ sw_gw := p_mem (p_tb8 (List.mem_of_getElem? (i := 49) (by decide +kernel))) (by decide +kernel)
theorem tw_8_51 : Cond.methodLink "SortWorksModel" 489 ⟨"SortWorksModel", "steps", "()V"⟩ ∈ sw_gw := p_mem (p_tb8 (List.mem_of_getElem? (i := 51) (by decide +kernel))) (by decide +kernel)
theorem tw_8_53 : Cond.instanceMethod ⟨"SortWorksModel", "steps", "()V"⟩ ∈ sw_gw := p_mem (p_tb8 (List.mem_of_getElem? (i := 53) (by decide +kernel))) (by decide +kernel)
theorem tw_8_55 : Cond.methodLink "SortWorksModel" 474 ⟨"SortWorksModel", "keep", "()V"⟩ ∈ sw_gw := p_mem (p_tb8 (List.mem_of_getElem? (i := 55) (by decide +kernel))) (by decide +kernel)
theorem tw_8_57 : Cond.instanceMethod ⟨"SortWorksModel", "keep", "()V"⟩ ∈ sw_gw := p_mem (p_tb8 (List.mem_of_getElem? (i := 57) (by decide +kernel))) (by decide +kernel)
theorem tw_8_59 : Cond.methodLink "SortWorksModel" 503 ⟨"SortWorksModel", "goOver", "(I)V"⟩ ∈ sw_gw := p_mem (p_tb8 (List.mem_of_getElem? (i := 59) (by decide +kernel))) (by decide +kernel)
theorem tw_8_61 : Cond.instanceMethod ⟨"SortWorksModel", "goOver", "(I)V"⟩ ∈ sw_gw := p_mem (p_tb8 (List.mem_of_getElem? (i := 61) (by decide +kernel))) (by decide +kernel)
theorem tw_8_63 : Cond.methodLink "SortWorksModel" 506 ⟨"SortWorksModel", "both", "(I)I"⟩ ∈ sw_gw := p_mem (p_tb8 (List.mem_of_getElem? (i := 63) (by decide +kernel))) (by decide +kernel)
theorem tw_8_65 : Cond.instanceMethod ⟨"SortWorksModel", "both", "(I)I"⟩ ∈ sw_gw := p_mem (p_tb8 (List.mem_of_getElem? (i := 65) (by decide +kernel))) (by decide +kernel)
theorem tw_8_67 : Cond.methodLink "SortWorksModel" 509 ⟨"SortWorksModel", "goOverGear", "(I)V"⟩ ∈ sw_gw := p_mem (p_tb8 (List.mem_of_getElem? (i := 67) (by decide +kernel))) (by decide +kernel)
theorem tw_8_69 : Cond.instanceMethod ⟨"SortWorksModel", "goOverGear", "(I)V"⟩ ∈ sw_gw := p_mem (p_tb8 (List.mem_of_getElem? (i := 69) (by decide +kernel))) (by decide +kernel)
theorem tw_8_71 : Cond.methodLink "SortWorksModel" 512 ⟨"SortWorksModel", "goOverParcels", "()V"⟩ ∈ sw_gw := p_mem (p_tb8 (List.mem_of_getElem? (i := 71) (by decide +kernel))) (by decide +kernel)
theorem tw_8_73 : Cond.instanceMethod ⟨"SortWorksModel", "goOverParcels", "()V"⟩ ∈ sw_gw := p_mem (p_tb8 (List.mem_of_getElem? (i := 73) (by decide +kernel))) (by decide +kernel)
theorem tw_8_75 : Cond.methodLink "SortWorksModel" 477 ⟨"SortWorksModel", "doPlans", "()V"⟩ ∈ sw_gw := p_mem (p_tb8 (List.mem_of_getElem? (i := 75) (by decide +kernel))) (by decide +kernel)
theorem tw_8_77 : Cond.instanceMethod ⟨"SortWorksModel", "doPlans", "()V"⟩ ∈ sw_gw := p_mem (p_tb8 (List.mem_of_getElem? (i := 77) (by decide +kernel))) (by decide +kernel)
theorem tw_8_79 : Cond.methodLink "SortWorksModel" 392 ⟨"SortWorksModel", "planFault", "(I)I"⟩ ∈ sw_gw := p_mem (p_tb8 (List.mem_of_getElem? (i := 79) (by decide +kernel))) (by decide +kernel)
theorem tw_8_81 : Cond.instanceMethod ⟨"SortWorksModel", "planFault", "(I)I"⟩ ∈ sw_gw := p_mem (p_tb8 (List.mem_of_getElem? (i := 81) (by decide +kernel))) (by decide +kernel)
theorem tw_8_83 : Cond.methodLink "SortWorksModel" 395 ⟨"SortWorksModel", "find", "(III)V"⟩ ∈ sw_gw := p_mem (p_tb8 (List.mem_of_getElem? (i := 83) (by decide +kernel))) (by decide +kernel)
theorem tw_8_85 : Cond.instanceMethod ⟨"SortWorksModel", "find", "(III)V"⟩ ∈ sw_gw := p_mem (p_tb8 (List.mem_of_getElem? (i := 85) (by decide +kernel))) (by decide +kernel)
theorem tw_8_87 : Cond.methodLink "SortWorksModel" 480 ⟨"SortWorksModel", "choose", "()V"⟩ ∈ sw_gw := p_mem (p_tb8 (List.mem_of_getElem? (i := 87) (by decide +kernel))) (by decide +kernel)
theorem tw_8_89 : Cond.instanceMethod ⟨"SortWorksModel", "choose", "()V"⟩ ∈ sw_gw := p_mem (p_tb8 (List.mem_of_getElem? (i := 89) (by decide +kernel))) (by decide +kernel)
theorem tw_8_91 : Cond.methodLink "SortWorksModel" 401 ⟨"SortWorksModel", "chosenBy", "(I)I"⟩ ∈ sw_gw := p_mem (p_tb8 (List.mem_of_getElem? (i := 91) (by decide +kernel))) (by decide +kernel)
theorem tw_8_93 : Cond.instanceMethod ⟨"SortWorksModel", "chosenBy", "(I)I"⟩ ∈ sw_gw := p_mem (p_tb8 (List.mem_of_getElem? (i := 93) (by decide +kernel))) (by decide +kernel)
theorem tw_8_95 : Cond.methodLink "SortWorksModel" 404 ⟨"SortWorksModel", "isActing", "(I)Z"⟩ ∈ sw_gw := p_mem (p_tb8 (List.mem_of_getElem? (i := 95) (by decide +kernel))) (by decide +kernel)
theorem tw_8_97 : Cond.instanceMethod ⟨"SortWorksModel", "isActing", "(I)Z"⟩ ∈ sw_gw := p_mem (p_tb8 (List.mem_of_getElem? (i := 97) (by decide +kernel))) (by decide +kernel)
theorem tw_8_99 : Cond.methodLink "SortWorksModel" 398 ⟨"SortWorksModel", "paceOf", "(I)I"⟩ ∈ sw_gw := p_mem (p_tb8 (List.mem_of_getElem? (i := 99) (by decide +kernel))) (by decide +kernel)
theorem tw_8_100 : Cond.static ⟨"SortWorksModel", "paceOf", "(I)I"⟩ ∈ sw_gw := p_mem (p_tb8 (List.mem_of_getElem? (i := 100) (by decide +kernel))) (by decide +kernel)
theorem tw_8_102 : Cond.methodLink "SortWorksModel" 407 ⟨"SortWorksModel", "linkAt", "(I)I"⟩ ∈ sw_gw := p_mem (p_tb8 (List.mem_of_getElem? (i := 102) (by decide +kernel))) (by decide +kernel)
theorem tw_8_104 : Cond.instanceMethod ⟨"SortWorksModel", "linkAt", "(I)I"⟩ ∈ sw_gw := p_mem (p_tb8 (List.mem_of_getElem? (i := 104) (by decide +kernel))) (by decide +kernel)
theorem tw_8_106 : Cond.methodLink "SortWorksModel" 410 ⟨"SortWorksModel", "leads", "(III)Z"⟩ ∈ sw_gw := p_mem (p_tb8 (List.mem_of_getElem? (i := 106) (by decide +kernel))) (by decide +kernel)
theorem tw_8_108 : Cond.instanceMethod ⟨"SortWorksModel", "leads", "(III)Z"⟩ ∈ sw_gw := p_mem (p_tb8 (List.mem_of_getElem? (i := 108) (by decide +kernel))) (by decide +kernel)
theorem tw_8_110 : Cond.methodLink "SortWorksModel" 388 ⟨"SortWorksModel", "follow", "(II)I"⟩ ∈ sw_gw := p_mem (p_tb8 (List.mem_of_getElem? (i := 110) (by decide +kernel))) (by decide +kernel)
theorem tw_8_112 : Cond.instanceMethod ⟨"SortWorksModel", "follow", "(II)I"⟩ ∈ sw_gw := p_mem (p_tb8 (List.mem_of_getElem? (i := 112) (by decide +kernel))) (by decide +kernel)
theorem tw_8_114 : Cond.methodLink "SortWorksModel" 483 ⟨"SortWorksModel", "act", "(I)V"⟩ ∈ sw_gw := p_mem (p_tb8 (List.mem_of_getElem? (i := 114) (by decide +kernel))) (by decide +kernel)
theorem tw_8_116 : Cond.instanceMethod ⟨"SortWorksModel", "act", "(I)V"⟩ ∈ sw_gw := p_mem (p_tb8 (List.mem_of_getElem? (i := 116) (by decide +kernel))) (by decide +kernel)
theorem tw_8_118 : Cond.methodLink "SortWorksModel" 441 ⟨"SortWorksModel", "body", "(I)V"⟩ ∈ sw_gw := p_mem (p_tb8 (List.mem_of_getElem? (i := 118) (by decide +kernel))) (by decide +kernel)
theorem tw_8_120 : Cond.instanceMethod ⟨"SortWorksModel", "body", "(I)V"⟩ ∈ sw_gw := p_mem (p_tb8 (List.mem_of_getElem? (i := 120) (by decide +kernel))) (by decide +kernel)
theorem tw_8_122 : Cond.methodLink "SortWorksModel" 468 ⟨"SortWorksModel", "actPanel", "(I)V"⟩ ∈ sw_gw := p_mem (p_tb8 (List.mem_of_getElem? (i := 122) (by decide +kernel))) (by decide +kernel)
theorem tw_8_124 : Cond.instanceMethod ⟨"SortWorksModel", "actPanel", "(I)V"⟩ ∈ sw_gw := p_mem (p_tb8 (List.mem_of_getElem? (i := 124) (by decide +kernel))) (by decide +kernel)
theorem tw_8_126 : Cond.methodLink "SortWorksModel" 471 ⟨"SortWorksModel", "actTaker", "(I)V"⟩ ∈ sw_gw := p_mem (p_tb8 (List.mem_of_getElem? (i := 126) (by decide +kernel))) (by decide +kernel)
theorem tw_8_128 : Cond.instanceMethod ⟨"SortWorksModel", "actTaker", "(I)V"⟩ ∈ sw_gw := p_mem (p_tb8 (List.mem_of_getElem? (i := 128) (by decide +kernel))) (by decide +kernel)
theorem tw_8_130 : Cond.methodLink "SortWorksModel" 453 ⟨"SortWorksModel", "bodies", "(I)V"⟩ ∈ sw_gw := p_mem (p_tb8 (List.mem_of_getElem? (i := 130) (by decide +kernel))) (by decide +kernel)
theorem tw_8_132 : Cond.instanceMethod ⟨"SortWorksModel", "bodies", "(I)V"⟩ ∈ sw_gw := p_mem (p_tb8 (List.mem_of_getElem? (i := 132) (by decide +kernel))) (by decide +kernel)
theorem tw_8_134 : Cond.methodLink "SortWorksModel" 456 ⟨"SortWorksModel", "scans", "(II)Z"⟩ ∈ sw_gw := p_mem (p_tb8 (List.mem_of_getElem? (i := 134) (by decide +kernel))) (by decide +kernel)
theorem tw_8_136 : Cond.instanceMethod ⟨"SortWorksModel", "scans", "(II)Z"⟩ ∈ sw_gw := p_mem (p_tb8 (List.mem_of_getElem? (i := 136) (by decide +kernel))) (by decide +kernel)
theorem tw_8_138 : Cond.methodLink "SortWorksModel" 435 ⟨"SortWorksModel", "reads", "(I)Z"⟩ ∈ sw_gw := p_mem (p_tb8 (List.mem_of_getElem? (i := 138) (by decide +kernel))) (by decide +kernel)
theorem tw_8_140 : Cond.instanceMethod ⟨"SortWorksModel", "reads", "(I)Z"⟩ ∈ sw_gw := p_mem (p_tb8 (List.mem_of_getElem? (i := 140) (by decide +kernel))) (by decide +kernel)
theorem tw_8_142 : Cond.methodLink "SortWorksModel" 417 ⟨"SortWorksModel", "asked", "(II)I"⟩ ∈ sw_gw := p_mem (p_tb8 (List.mem_of_getElem? (i := 142) (by decide +kernel))) (by decide +kernel)
theorem tw_8_144 : Cond.instanceMethod ⟨"SortWorksModel", "asked", "(II)I"⟩ ∈ sw_gw := p_mem (p_tb8 (List.mem_of_getElem? (i := 144) (by decide +kernel))) (by decide +kernel)
theorem tw_8_146 : Cond.methodLink "SortWorksModel" 438 ⟨"SortWorksModel", "holds", "(I)Z"⟩ ∈ sw_gw := p_mem (p_tb8 (List.mem_of_getElem? (i := 146) (by decide +kernel))) (by decide +kernel)
theorem tw_8_148 : Cond.instanceMethod ⟨"SortWorksModel", "holds", "(I)Z"⟩ ∈ sw_gw := p_mem (p_tb8 (List.mem_of_getElem? (i := 148) (by decide +kernel))) (by decide +kernel)
theorem tw_8_150 : Cond.methodLink "SortWorksModel" 432 ⟨"SortWorksModel", "quotientOf", "(I)I"⟩ ∈ sw_gw := p_mem (p_tb8 (List.mem_of_getElem? (i := 150) (by decide +kernel))) (by decide +kernel)
theorem tw_8_152 : Cond.instanceMethod ⟨"SortWorksModel", "quotientOf", "(I)I"⟩ ∈ sw_gw := p_mem (p_tb8 (List.mem_of_getElem? (i := 152) (by decide +kernel))) (by decide +kernel)
theorem tw_8_154 : Cond.methodLink "SortWorksModel" 459 ⟨"SortWorksModel", "bodiesLast", "(I)V"⟩ ∈ sw_gw := p_mem (p_tb8 (List.mem_of_getElem? (i := 154) (by decide +kernel))) (by decide +kernel)
theorem tw_8_156 : Cond.instanceMethod ⟨"SortWorksModel", "bodiesLast", "(I)V"⟩ ∈ sw_gw := p_mem (p_tb8 (List.mem_of_getElem? (i := 156) (by decide +kernel))) (by decide +kernel)
theorem tw_8_158 : Cond.methodLink "SortWorksModel" 462 ⟨"SortWorksModel", "givesOut", "(II)Z"⟩ ∈ sw_gw := p_mem (p_tb8 (List.mem_of_getElem? (i := 158) (by decide +kernel))) (by decide +kernel)
theorem tw_8_160 : Cond.instanceMethod ⟨"SortWorksModel", "givesOut", "(II)Z"⟩ ∈ sw_gw := p_mem (p_tb8 (List.mem_of_getElem? (i := 160) (by decide +kernel))) (by decide +kernel)
theorem tw_8_162 : Cond.methodLink "SortWorksModel" 447 ⟨"SortWorksModel", "goesOut", "(III)V"⟩ ∈ sw_gw := p_mem (p_tb8 (List.mem_of_getElem? (i := 162) (by decide +kernel))) (by decide +kernel)
theorem tw_8_164 : Cond.instanceMethod ⟨"SortWorksModel", "goesOut", "(III)V"⟩ ∈ sw_gw := p_mem (p_tb8 (List.mem_of_getElem? (i := 164) (by decide +kernel))) (by decide +kernel)
theorem tw_8_166 : Cond.methodLink "SortWorksModel" 465 ⟨"SortWorksModel", "gives", "(II)Z"⟩ ∈ sw_gw := p_mem (p_tb8 (List.mem_of_getElem? (i := 166) (by decide +kernel))) (by decide +kernel)
theorem tw_8_168 : Cond.instanceMethod ⟨"SortWorksModel", "gives", "(II)Z"⟩ ∈ sw_gw := p_mem (p_tb8 (List.mem_of_getElem? (i := 168) (by decide +kernel))) (by decide +kernel)
theorem tw_8_170 : Cond.methodLink "SortWorksModel" 450 ⟨"SortWorksModel", "takes", "(III)Z"⟩ ∈ sw_gw := p_mem (p_tb8 (List.mem_of_getElem? (i := 170) (by decide +kernel))) (by decide +kernel)
theorem tw_8_172 : Cond.instanceMethod ⟨"SortWorksModel", "takes", "(III)Z"⟩ ∈ sw_gw := p_mem (p_tb8 (List.mem_of_getElem? (i := 172) (by decide +kernel))) (by decide +kernel)
theorem tw_8_174 : Cond.methodLink "SortWorksModel" 444 ⟨"SortWorksModel", "wants", "(II)I"⟩ ∈ sw_gw := p_mem (p_tb8 (List.mem_of_getElem? (i := 174) (by decide +kernel))) (by decide +kernel)
theorem tw_8_176 : Cond.instanceMethod ⟨"SortWorksModel", "wants", "(II)I"⟩ ∈ sw_gw := p_mem (p_tb8 (List.mem_of_getElem? (i := 176) (by decide +kernel))) (by decide +kernel)
theorem tw_8_178 : Cond.methodLink "SortWorksLaw" 119 ⟨"SortWorksModel", "night", "(II)I"⟩ ∈ sw_gw := p_mem (p_tb8 (List.mem_of_getElem? (i := 178) (by decide +kernel))) (by decide +kernel)
theorem tw_8_179 : Cond.instanceMethod ⟨"SortWorksModel", "night", "(II)I"⟩ ∈ sw_gw := p_mem (p_tb8 (List.mem_of_getElem? (i := 179) (by decide +kernel))) (by decide +kernel)
theorem tw_8_180 : Cond.selects "SortWorksModel" ⟨"SortWorksModel", "night", "(II)I"⟩ ⟨"SortWorksModel", "night", "(II)I"⟩ ∈ sw_gw := p_mem (p_tb8 (List.mem_of_getElem? (i := 180) (by decide +kernel))) (by decide +kernel)
theorem tw_8_182 : Cond.constant "SortWorksModel" 492 (1103515245 : Int32) ∈ sw_gw := p_mem (p_tb8 (List.mem_of_getElem? (i := 182) (by decide +kernel))) (by decide +kernel)
theorem tw_8_183 : Cond.methodLink "SortWorksModel" 493 ⟨"SortWorksModel", "spoils", "(II)V"⟩ ∈ sw_gw := p_mem (p_tb8 (List.mem_of_getElem? (i := 183) (by decide +kernel))) (by decide +kernel)
theorem tw_8_185 : Cond.instanceMethod ⟨"SortWorksModel", "spoils", "(II)V"⟩ ∈ sw_gw := p_mem (p_tb8 (List.mem_of_getElem? (i := 185) (by decide +kernel))) (by decide +kernel)
theorem tw_8_187 : Cond.methodLink "SortWorksLaw" 123 ⟨"SortWorksModel", "back", "(I)I"⟩ ∈ sw_gw := p_mem (p_tb8 (List.mem_of_getElem? (i := 187) (by decide +kernel))) (by decide +kernel)
theorem tw_8_188 : Cond.instanceMethod ⟨"SortWorksModel", "back", "(I)I"⟩ ∈ sw_gw := p_mem (p_tb8 (List.mem_of_getElem? (i := 188) (by decide +kernel))) (by decide +kernel)
theorem tw_8_189 : Cond.selects "SortWorksModel" ⟨"SortWorksModel", "back", "(I)I"⟩ ⟨"SortWorksModel", "back", "(I)I"⟩ ∈ sw_gw := p_mem (p_tb8 (List.mem_of_getElem? (i := 189) (by decide +kernel))) (by decide +kernel)
theorem tw_8_191 : Cond.constantLong "SortWorksModel" 515 (30 : Int64) ∈ sw_gw := p_mem (p_tb8 (List.mem_of_getElem? (i := 191) (by decide +kernel))) (by decide +kernel)
theorem tw_8_192 : Cond.methodLink "SortWorksLaw" 127 ⟨"SortWorksModel", "status", "()I"⟩ ∈ sw_gw := p_mem (p_tb8 (List.mem_of_getElem? (i := 192) (by decide +kernel))) (by decide +kernel)
theorem tw_8_193 : Cond.instanceMethod ⟨"SortWorksModel", "status", "()I"⟩ ∈ sw_gw := p_mem (p_tb8 (List.mem_of_getElem? (i := 193) (by decide +kernel))) (by decide +kernel)
theorem tw_8_194 : Cond.selects "SortWorksModel" ⟨"SortWorksModel", "status", "()I"⟩ ⟨"SortWorksModel", "status", "()I"⟩ ∈ sw_gw := p_mem (p_tb8 (List.mem_of_getElem? (i := 194) (by decide +kernel))) (by decide +kernel)
theorem tw_8_196 : Cond.methodLink "SortWorksLaw" 131 ⟨"SortWorksModel", "told", "(II)I"⟩ ∈ sw_gw := p_mem (p_tb8 (List.mem_of_getElem? (i := 196) (by decide +kernel))) (by decide +kernel)
theorem tw_8_197 : Cond.instanceMethod ⟨"SortWorksModel", "told", "(II)I"⟩ ∈ sw_gw := p_mem (p_tb8 (List.mem_of_getElem? (i := 197) (by decide +kernel))) (by decide +kernel)
theorem tw_8_198 : Cond.selects "SortWorksModel" ⟨"SortWorksModel", "told", "(II)I"⟩ ⟨"SortWorksModel", "told", "(II)I"⟩ ∈ sw_gw := p_mem (p_tb8 (List.mem_of_getElem? (i := 198) (by decide +kernel))) (by decide +kernel)
theorem tw_8_200 : Cond.methodLink "SortWorksModel" 517 ⟨"SortWorksModel", "toldMore", "(II)I"⟩ ∈ sw_gw := p_mem (p_tb8 (List.mem_of_getElem? (i := 200) (by decide +kernel))) (by decide +kernel)
theorem tw_8_202 : Cond.instanceMethod ⟨"SortWorksModel", "toldMore", "(II)I"⟩ ∈ sw_gw := p_mem (p_tb8 (List.mem_of_getElem? (i := 202) (by decide +kernel))) (by decide +kernel)
theorem tw_8_204 : Cond.methodLink "SortWorksLaw" 135 ⟨"SortWorksModel", "slot", "(II)I"⟩ ∈ sw_gw := p_mem (p_tb8 (List.mem_of_getElem? (i := 204) (by decide +kernel))) (by decide +kernel)
theorem tw_8_205 : Cond.instanceMethod ⟨"SortWorksModel", "slot", "(II)I"⟩ ∈ sw_gw := p_mem (p_tb8 (List.mem_of_getElem? (i := 205) (by decide +kernel))) (by decide +kernel)
theorem tw_8_206 : Cond.selects "SortWorksModel" ⟨"SortWorksModel", "slot", "(II)I"⟩ ⟨"SortWorksModel", "slot", "(II)I"⟩ ∈ sw_gw := p_mem (p_tb8 (List.mem_of_getElem? (i := 206) (by decide +kernel))) (by decide +kernel)
theorem tw_8_208 : Cond.methodLink "SortWorksLaw" 139 ⟨"SortWorksModel", "linkOf", "(II)I"⟩ ∈ sw_gw := p_mem (p_tb8 (List.mem_of_getElem? (i := 208) (by decide +kernel))) (by decide +kernel)
theorem tw_8_209 : Cond.instanceMethod ⟨"SortWorksModel", "linkOf", "(II)I"⟩ ∈ sw_gw := p_mem (p_tb8 (List.mem_of_getElem? (i := 209) (by decide +kernel))) (by decide +kernel)
theorem tw_8_210 : Cond.selects "SortWorksModel" ⟨"SortWorksModel", "linkOf", "(II)I"⟩ ⟨"SortWorksModel", "linkOf", "(II)I"⟩ ∈ sw_gw := p_mem (p_tb8 (List.mem_of_getElem? (i := 210) (by decide +kernel))) (by decide +kernel)
theorem tw_8_212 : Cond.methodLink "SortWorksLaw" 143 ⟨"SortWorksModel", "parcel", "(II)I"⟩ ∈ sw_gw := p_mem (p_tb8 (List.mem_of_getElem? (i := 212) (by decide +kernel))) (by decide +kernel)
theorem tw_8_213 : Cond.instanceMethod ⟨"SortWorksModel", "parcel", "(II)I"⟩ ∈ sw_gw := p_mem (p_tb8 (List.mem_of_getElem? (i := 213) (by decide +kernel))) (by decide +kernel)
theorem tw_8_214 : Cond.selects "SortWorksModel" ⟨"SortWorksModel", "parcel", "(II)I"⟩ ⟨"SortWorksModel", "parcel", "(II)I"⟩ ∈ sw_gw := p_mem (p_tb8 (List.mem_of_getElem? (i := 214) (by decide +kernel))) (by decide +kernel)
theorem tw_8_216 : Cond.methodLink "SortWorksLaw" 147 ⟨"SortWorksModel", "way", "(II)I"⟩ ∈ sw_gw := p_mem (p_tb8 (List.mem_of_getElem? (i := 216) (by decide +kernel))) (by decide +kernel)
theorem tw_8_217 : Cond.instanceMethod ⟨"SortWorksModel", "way", "(II)I"⟩ ∈ sw_gw := p_mem (p_tb8 (List.mem_of_getElem? (i := 217) (by decide +kernel))) (by decide +kernel)
theorem tw_8_218 : Cond.selects "SortWorksModel" ⟨"SortWorksModel", "way", "(II)I"⟩ ⟨"SortWorksModel", "way", "(II)I"⟩ ∈ sw_gw := p_mem (p_tb8 (List.mem_of_getElem? (i := 218) (by decide +kernel))) (by decide +kernel)
theorem tw_8_220 : Cond.methodLink "SortWorksLaw" 151 ⟨"SortWorksModel", "byteOf", "(II)I"⟩ ∈ sw_gw := p_mem (p_tb8 (List.mem_of_getElem? (i := 220) (by decide +kernel))) (by decide +kernel)
theorem tw_8_221 : Cond.instanceMethod ⟨"SortWorksModel", "byteOf", "(II)I"⟩ ∈ sw_gw := p_mem (p_tb8 (List.mem_of_getElem? (i := 221) (by decide +kernel))) (by decide +kernel)
theorem tw_8_222 : Cond.selects "SortWorksModel" ⟨"SortWorksModel", "byteOf", "(II)I"⟩ ⟨"SortWorksModel", "byteOf", "(II)I"⟩ ∈ sw_gw := p_mem (p_tb8 (List.mem_of_getElem? (i := 222) (by decide +kernel))) (by decide +kernel)
theorem tw_8_224 : Cond.methodLink "SortWorksLaw" 155 ⟨"SortWorksModel", "left", "(I)I"⟩ ∈ sw_gw := p_mem (p_tb8 (List.mem_of_getElem? (i := 224) (by decide +kernel))) (by decide +kernel)
theorem tw_8_225 : Cond.instanceMethod ⟨"SortWorksModel", "left", "(I)I"⟩ ∈ sw_gw := p_mem (p_tb8 (List.mem_of_getElem? (i := 225) (by decide +kernel))) (by decide +kernel)
theorem tw_8_226 : Cond.selects "SortWorksModel" ⟨"SortWorksModel", "left", "(I)I"⟩ ⟨"SortWorksModel", "left", "(I)I"⟩ ∈ sw_gw := p_mem (p_tb8 (List.mem_of_getElem? (i := 226) (by decide +kernel))) (by decide +kernel)
theorem tw_8_228 : Cond.methodLink "SortWorksLaw" 159 ⟨"SortWorksModel", "out", "(II)I"⟩ ∈ sw_gw := p_mem (p_tb8 (List.mem_of_getElem? (i := 228) (by decide +kernel))) (by decide +kernel)
theorem tw_8_229 : Cond.instanceMethod ⟨"SortWorksModel", "out", "(II)I"⟩ ∈ sw_gw := p_mem (p_tb8 (List.mem_of_getElem? (i := 229) (by decide +kernel))) (by decide +kernel)
theorem tw_8_230 : Cond.selects "SortWorksModel" ⟨"SortWorksModel", "out", "(II)I"⟩ ⟨"SortWorksModel", "out", "(II)I"⟩ ∈ sw_gw := p_mem (p_tb8 (List.mem_of_getElem? (i := 230) (by decide +kernel))) (by decide +kernel)
theorem tw_8_232 : Cond.methodLink "SortWorksLaw" 163 ⟨"SortWorksModel", "rule", "(II)I"⟩ ∈ sw_gw := p_mem (p_tb8 (List.mem_of_getElem? (i := 232) (by decide +kernel))) (by decide +kernel)
theorem tw_8_233 : Cond.instanceMethod ⟨"SortWorksModel", "rule", "(II)I"⟩ ∈ sw_gw := p_mem (p_tb8 (List.mem_of_getElem? (i := 233) (by decide +kernel))) (by decide +kernel)
theorem tw_8_234 : Cond.selects "SortWorksModel" ⟨"SortWorksModel", "rule", "(II)I"⟩ ⟨"SortWorksModel", "rule", "(II)I"⟩ ∈ sw_gw := p_mem (p_tb8 (List.mem_of_getElem? (i := 234) (by decide +kernel))) (by decide +kernel)
theorem tw_8_236 : Cond.methodLink "SortWorksLaw" 167 ⟨"SortWorksModel", "said", "(I)I"⟩ ∈ sw_gw := p_mem (p_tb8 (List.mem_of_getElem? (i := 236) (by decide +kernel))) (by decide +kernel)
theorem tw_8_237 : Cond.instanceMethod ⟨"SortWorksModel", "said", "(I)I"⟩ ∈ sw_gw := p_mem (p_tb8 (List.mem_of_getElem? (i := 237) (by decide +kernel))) (by decide +kernel)
theorem tw_8_238 : Cond.selects "SortWorksModel" ⟨"SortWorksModel", "said", "(I)I"⟩ ⟨"SortWorksModel", "said", "(I)I"⟩ ∈ sw_gw := p_mem (p_tb8 (List.mem_of_getElem? (i := 238) (by decide +kernel))) (by decide +kernel)
theorem tw_9_0 : Cond.methodLink "SortWorksModel" 526 ⟨"SortWorksModel", "says", "(I)V"⟩ ∈ sw_gw := p_mem (p_tb9 (List.mem_of_getElem? (i := 0) (by decide +kernel))) (by decide +kernel)
theorem tw_9_2 : Cond.instanceMethod ⟨"SortWorksModel", "says", "(I)V"⟩ ∈ sw_gw := p_mem (p_tb9 (List.mem_of_getElem? (i := 2) (by decide +kernel))) (by decide +kernel)
theorem tw_9_4 : Cond.methodLink "SortWorksModel" 529 ⟨"SortWorksModel", "saysNumber", "(I)V"⟩ ∈ sw_gw := p_mem (p_tb9 (List.mem_of_getElem? (i := 4) (by decide +kernel))) (by decide +kernel)
theorem tw_9_6 : Cond.instanceMethod ⟨"SortWorksModel", "saysNumber", "(I)V"⟩ ∈ sw_gw := p_mem (p_tb9 (List.mem_of_getElem? (i := 6) (by decide +kernel))) (by decide +kernel)
theorem tw_9_8 : Cond.methodLink "SortWorksLaw" 171 ⟨"SortWorksModel", "unused", "(I)I"⟩ ∈ sw_gw := p_mem (p_tb9 (List.mem_of_getElem? (i := 8) (by decide +kernel))) (by decide +kernel)
theorem tw_9_9 : Cond.instanceMethod ⟨"SortWorksModel", "unused", "(I)I"⟩ ∈ sw_gw := p_mem (p_tb9 (List.mem_of_getElem? (i := 9) (by decide +kernel))) (by decide +kernel)
theorem tw_9_10 : Cond.selects "SortWorksModel" ⟨"SortWorksModel", "unused", "(I)I"⟩ ⟨"SortWorksModel", "unused", "(I)I"⟩ ∈ sw_gw := p_mem (p_tb9 (List.mem_of_getElem? (i := 10) (by decide +kernel))) (by decide +kernel)
theorem tw_9_12 : Cond.methodLink "SortWorksLaw" 175 ⟨"SortWorksModel", "finding", "(II)I"⟩ ∈ sw_gw := p_mem (p_tb9 (List.mem_of_getElem? (i := 12) (by decide +kernel))) (by decide +kernel)
theorem tw_9_13 : Cond.instanceMethod ⟨"SortWorksModel", "finding", "(II)I"⟩ ∈ sw_gw := p_mem (p_tb9 (List.mem_of_getElem? (i := 13) (by decide +kernel))) (by decide +kernel)
theorem tw_9_14 : Cond.selects "SortWorksModel" ⟨"SortWorksModel", "finding", "(II)I"⟩ ⟨"SortWorksModel", "finding", "(II)I"⟩ ∈ sw_gw := p_mem (p_tb9 (List.mem_of_getElem? (i := 14) (by decide +kernel))) (by decide +kernel)
theorem tw_9_16 : Cond.methodLink "SortWorksLaw" 179 ⟨"SortWorksModel", "trace", "(I)I"⟩ ∈ sw_gw := p_mem (p_tb9 (List.mem_of_getElem? (i := 16) (by decide +kernel))) (by decide +kernel)
theorem tw_9_17 : Cond.instanceMethod ⟨"SortWorksModel", "trace", "(I)I"⟩ ∈ sw_gw := p_mem (p_tb9 (List.mem_of_getElem? (i := 17) (by decide +kernel))) (by decide +kernel)
theorem tw_9_18 : Cond.selects "SortWorksModel" ⟨"SortWorksModel", "trace", "(I)I"⟩ ⟨"SortWorksModel", "trace", "(I)I"⟩ ∈ sw_gw := p_mem (p_tb9 (List.mem_of_getElem? (i := 18) (by decide +kernel))) (by decide +kernel)
theorem tw_9_20 : Cond.methodLink "SortWorksLaw" 183 ⟨"SortWorksModel", "jam", "(I)I"⟩ ∈ sw_gw := p_mem (p_tb9 (List.mem_of_getElem? (i := 20) (by decide +kernel))) (by decide +kernel)
theorem tw_9_21 : Cond.instanceMethod ⟨"SortWorksModel", "jam", "(I)I"⟩ ∈ sw_gw := p_mem (p_tb9 (List.mem_of_getElem? (i := 21) (by decide +kernel))) (by decide +kernel)
theorem tw_9_22 : Cond.selects "SortWorksModel" ⟨"SortWorksModel", "jam", "(I)I"⟩ ⟨"SortWorksModel", "jam", "(I)I"⟩ ∈ sw_gw := p_mem (p_tb9 (List.mem_of_getElem? (i := 22) (by decide +kernel))) (by decide +kernel)
theorem tw_9_24 : Cond.methodLink "SortWorksLaw" 187 ⟨"SortWorksModel", "far", "(II)I"⟩ ∈ sw_gw := p_mem (p_tb9 (List.mem_of_getElem? (i := 24) (by decide +kernel))) (by decide +kernel)
theorem tw_9_25 : Cond.instanceMethod ⟨"SortWorksModel", "far", "(II)I"⟩ ∈ sw_gw := p_mem (p_tb9 (List.mem_of_getElem? (i := 25) (by decide +kernel))) (by decide +kernel)
theorem tw_9_26 : Cond.selects "SortWorksModel" ⟨"SortWorksModel", "far", "(II)I"⟩ ⟨"SortWorksModel", "far", "(II)I"⟩ ∈ sw_gw := p_mem (p_tb9 (List.mem_of_getElem? (i := 26) (by decide +kernel))) (by decide +kernel)
theorem tw_9_28 : Cond.methodLink "SortWorksModel" 535 ⟨"SortWorksModel", "spread", "(I)V"⟩ ∈ sw_gw := p_mem (p_tb9 (List.mem_of_getElem? (i := 28) (by decide +kernel))) (by decide +kernel)
theorem tw_9_30 : Cond.instanceMethod ⟨"SortWorksModel", "spread", "(I)V"⟩ ∈ sw_gw := p_mem (p_tb9 (List.mem_of_getElem? (i := 30) (by decide +kernel))) (by decide +kernel)
theorem tw_9_32 : Cond.methodLink "SortWorksModel" 532 ⟨"SortWorksModel", "ahead", "(II)V"⟩ ∈ sw_gw := p_mem (p_tb9 (List.mem_of_getElem? (i := 32) (by decide +kernel))) (by decide +kernel)
theorem tw_9_34 : Cond.instanceMethod ⟨"SortWorksModel", "ahead", "(II)V"⟩ ∈ sw_gw := p_mem (p_tb9 (List.mem_of_getElem? (i := 34) (by decide +kernel))) (by decide +kernel)
theorem tw_9_36 : Cond.methodLink "SortWorksLaw" 192 ⟨"SortWorksModel", "reach", "(I)J"⟩ ∈ sw_gw := p_mem (p_tb9 (List.mem_of_getElem? (i := 36) (by decide +kernel))) (by decide +kernel)
theorem tw_9_37 : Cond.instanceMethod ⟨"SortWorksModel", "reach", "(I)J"⟩ ∈ sw_gw := p_mem (p_tb9 (List.mem_of_getElem? (i := 37) (by decide +kernel))) (by decide +kernel)
theorem tw_9_38 : Cond.selects "SortWorksModel" ⟨"SortWorksModel", "reach", "(I)J"⟩ ⟨"SortWorksModel", "reach", "(I)J"⟩ ∈ sw_gw := p_mem (p_tb9 (List.mem_of_getElem? (i := 38) (by decide +kernel))) (by decide +kernel)
theorem tw_9_40 : Cond.methodLink "SortWorksLaw" 196 ⟨"SortWorksModel", "ring", "(I)I"⟩ ∈ sw_gw := p_mem (p_tb9 (List.mem_of_getElem? (i := 40) (by decide +kernel))) (by decide +kernel)
theorem tw_9_41 : Cond.instanceMethod ⟨"SortWorksModel", "ring", "(I)I"⟩ ∈ sw_gw := p_mem (p_tb9 (List.mem_of_getElem? (i := 41) (by decide +kernel))) (by decide +kernel)
theorem tw_9_42 : Cond.selects "SortWorksModel" ⟨"SortWorksModel", "ring", "(I)I"⟩ ⟨"SortWorksModel", "ring", "(I)I"⟩ ∈ sw_gw := p_mem (p_tb9 (List.mem_of_getElem? (i := 42) (by decide +kernel))) (by decide +kernel)
theorem tw_9_44 : Cond.methodLink "SortWorksLaw" 200 ⟨"SortWorksModel", "audit", "()I"⟩ ∈ sw_gw := p_mem (p_tb9 (List.mem_of_getElem? (i := 44) (by decide +kernel))) (by decide +kernel)
theorem tw_9_45 : Cond.instanceMethod ⟨"SortWorksModel", "audit", "()I"⟩ ∈ sw_gw := p_mem (p_tb9 (List.mem_of_getElem? (i := 45) (by decide +kernel))) (by decide +kernel)
theorem tw_9_46 : Cond.selects "SortWorksModel" ⟨"SortWorksModel", "audit", "()I"⟩ ⟨"SortWorksModel", "audit", "()I"⟩ ∈ sw_gw := p_mem (p_tb9 (List.mem_of_getElem? (i := 46) (by decide +kernel))) (by decide +kernel)
theorem tw_9_48 : Cond.methodLink "SortWorksLaw" 204 ⟨"SortWorksModel", "count", "(I)I"⟩ ∈ sw_gw := p_mem (p_tb9 (List.mem_of_getElem? (i := 48) (by decide +kernel))) (by decide +kernel)
theorem tw_9_49 : Cond.instanceMethod ⟨"SortWorksModel", "count", "(I)I"⟩ ∈ sw_gw := p_mem (p_tb9 (List.mem_of_getElem? (i := 49) (by decide +kernel))) (by decide +kernel)
theorem tw_9_50 : Cond.selects "SortWorksModel" ⟨"SortWorksModel", "count", "(I)I"⟩ ⟨"SortWorksModel", "count", "(I)I"⟩ ∈ sw_gw := p_mem (p_tb9 (List.mem_of_getElem? (i := 50) (by decide +kernel))) (by decide +kernel)
theorem tw_9_52 : Cond.methodLink "SortWorksLaw" 209 ⟨"SortWorksModel", "digest", "()J"⟩ ∈ sw_gw := p_mem (p_tb9 (List.mem_of_getElem? (i := 52) (by decide +kernel))) (by decide +kernel)
theorem tw_9_53 : Cond.instanceMethod ⟨"SortWorksModel", "digest", "()J"⟩ ∈ sw_gw := p_mem (p_tb9 (List.mem_of_getElem? (i := 53) (by decide +kernel))) (by decide +kernel)
theorem tw_9_54 : Cond.selects "SortWorksModel" ⟨"SortWorksModel", "digest", "()J"⟩ ⟨"SortWorksModel", "digest", "()J"⟩ ∈ sw_gw := p_mem (p_tb9 (List.mem_of_getElem? (i := 54) (by decide +kernel))) (by decide +kernel)
theorem tw_9_56 : Cond.constantLong "SortWorksModel" 544 (17 : Int64) ∈ sw_gw := p_mem (p_tb9 (List.mem_of_getElem? (i := 56) (by decide +kernel))) (by decide +kernel)
theorem tw_9_57 : Cond.methodLink "SortWorksModel" 546 ⟨"SortWorksModel", "adds", "(I)V"⟩ ∈ sw_gw := p_mem (p_tb9 (List.mem_of_getElem? (i := 57) (by decide +kernel))) (by decide +kernel)
theorem tw_9_59 : Cond.instanceMethod ⟨"SortWorksModel", "adds", "(I)V"⟩ ∈ sw_gw := p_mem (p_tb9 (List.mem_of_getElem? (i := 59) (by decide +kernel))) (by decide +kernel)
theorem tw_9_61 : Cond.constantLong "SortWorksModel" 538 (31 : Int64) ∈ sw_gw := p_mem (p_tb9 (List.mem_of_getElem? (i := 61) (by decide +kernel))) (by decide +kernel)
theorem tw_9_62 : Cond.methodLink "SortWorksModel" 549 ⟨"SortWorksModel", "told", "(II)I"⟩ ∈ sw_gw := p_mem (p_tb9 (List.mem_of_getElem? (i := 62) (by decide +kernel))) (by decide +kernel)
theorem tw_objInit : Cond.code objectInit ⟨#[0xb1]⟩ 1 none ∈ sw_gw := p_mem (p_tb1 (List.mem_of_getElem? (i := 24) (by decide +kernel))) (by decide +kernel)
theorem ts_0 : Cond.selects "SortWorks" ⟨"SortWorks", "refuse", "(I)I"⟩ ⟨"SortWorks", "refuse", "(I)I"⟩ ∈ sw_gw := p_mes (List.mem_of_getElem? (i := 0) (by decide +kernel)) (by decide +kernel)
theorem ts_1 : Cond.selects "SortWorks" ⟨"SortWorks", "done", "(I)I"⟩ ⟨"SortWorks", "done", "(I)I"⟩ ∈ sw_gw := p_mes (List.mem_of_getElem? (i := 1) (by decide +kernel)) (by decide +kernel)
theorem ts_2 : Cond.selects "SortWorks" ⟨"SortWorks", "built", "(I)I"⟩ ⟨"SortWorks", "built", "(I)I"⟩ ∈ sw_gw := p_mes (List.mem_of_getElem? (i := 2) (by decide +kernel)) (by decide +kernel)
theorem ts_3 : Cond.selects "SortWorks$Judge" ⟨"SortWorks$Judge", "takeRule", "(I)Z"⟩ ⟨"SortWorks$Judge", "takeRule", "(I)Z"⟩ ∈ sw_gw := p_mes (List.mem_of_getElem? (i := 3) (by decide +kernel)) (by decide +kernel)
theorem ts_4 : Cond.selects "SortWorks$Judge" ⟨"SortWorks$Judge", "next", "()I"⟩ ⟨"SortWorks$Judge", "next", "()I"⟩ ∈ sw_gw := p_mes (List.mem_of_getElem? (i := 4) (by decide +kernel)) (by decide +kernel)
theorem ts_5 : Cond.selects "SortWorks$Judge" ⟨"SortWorks$Judge", "takeTests", "(I)Z"⟩ ⟨"SortWorks$Judge", "takeTests", "(I)Z"⟩ ∈ sw_gw := p_mes (List.mem_of_getElem? (i := 5) (by decide +kernel)) (by decide +kernel)
theorem ts_6 : Cond.selects "SortWorks$Judge" ⟨"SortWorks$Judge", "takeTest", "(I)Z"⟩ ⟨"SortWorks$Judge", "takeTest", "(I)Z"⟩ ∈ sw_gw := p_mes (List.mem_of_getElem? (i := 6) (by decide +kernel)) (by decide +kernel)
theorem ts_7 : Cond.selects "SortWorks$Judge" ⟨"SortWorks$Judge", "take", "(I)Z"⟩ ⟨"SortWorks$Judge", "take", "(I)Z"⟩ ∈ sw_gw := p_mes (List.mem_of_getElem? (i := 7) (by decide +kernel)) (by decide +kernel)
theorem ts_8 : Cond.selects "SortWorks$Judge" ⟨"SortWorks$Judge", "takeNumber", "()I"⟩ ⟨"SortWorks$Judge", "takeNumber", "()I"⟩ ∈ sw_gw := p_mes (List.mem_of_getElem? (i := 8) (by decide +kernel)) (by decide +kernel)
theorem ts_9 : Cond.selects "SortWorks$Judge" ⟨"SortWorks$Judge", "takeTold", "(I)Z"⟩ ⟨"SortWorks$Judge", "takeTold", "(I)Z"⟩ ∈ sw_gw := p_mes (List.mem_of_getElem? (i := 9) (by decide +kernel)) (by decide +kernel)
theorem ts_10 : Cond.selects "SortWorks" ⟨"SortWorks", "newParcel", "()LSortWorks$Parcel;"⟩ ⟨"SortWorks", "newParcel", "()LSortWorks$Parcel;"⟩ ∈ sw_gw := p_mes (List.mem_of_getElem? (i := 10) (by decide +kernel)) (by decide +kernel)
theorem ts_11 : Cond.selects "SortWorks$State" ⟨"SortWorks$State", "setDown", "(LSortWorks$Parcel;I)V"⟩ ⟨"SortWorks$State", "setDown", "(LSortWorks$Parcel;I)V"⟩ ∈ sw_gw := p_mes (List.mem_of_getElem? (i := 11) (by decide +kernel)) (by decide +kernel)
theorem ts_12 : Cond.selects "SortWorks$Parcel" ⟨"SortWorks$Parcel", "writeFormA", "(I)V"⟩ ⟨"SortWorks$Parcel", "writeFormA", "(I)V"⟩ ∈ sw_gw := p_mes (List.mem_of_getElem? (i := 12) (by decide +kernel)) (by decide +kernel)
theorem ts_13 : Cond.selects "SortWorks$Parcel" ⟨"SortWorks$Parcel", "writeFormB", "(I)V"⟩ ⟨"SortWorks$Parcel", "writeFormB", "(I)V"⟩ ∈ sw_gw := p_mes (List.mem_of_getElem? (i := 13) (by decide +kernel)) (by decide +kernel)
theorem ts_14 : Cond.selects "SortWorks$Step" ⟨"SortWorks$Step", "doPlan", "(I)V"⟩ ⟨"SortWorks$Step", "doPlan", "(I)V"⟩ ∈ sw_gw := p_mes (List.mem_of_getElem? (i := 14) (by decide +kernel)) (by decide +kernel)
theorem ts_15 : Cond.selects "SortWorks$Step" ⟨"SortWorks$Step", "planFault", "([II)I"⟩ ⟨"SortWorks$Step", "planFault", "([II)I"⟩ ∈ sw_gw := p_mes (List.mem_of_getElem? (i := 15) (by decide +kernel)) (by decide +kernel)
theorem ts_16 : Cond.selects "SortWorks$Step" ⟨"SortWorks$Step", "addFinding", "(IIII)V"⟩ ⟨"SortWorks$Step", "addFinding", "(IIII)V"⟩ ∈ sw_gw := p_mes (List.mem_of_getElem? (i := 16) (by decide +kernel)) (by decide +kernel)
theorem ts_17 : Cond.selects "SortWorks$Step" ⟨"SortWorks$Step", "letMergesChoose", "()V"⟩ ⟨"SortWorks$Step", "letMergesChoose", "()V"⟩ ∈ sw_gw := p_mes (List.mem_of_getElem? (i := 17) (by decide +kernel)) (by decide +kernel)
theorem ts_18 : Cond.selects "SortWorks$Step" ⟨"SortWorks$Step", "isReadyToGive", "(LSortWorks$Gear;)Z"⟩ ⟨"SortWorks$Step", "isReadyToGive", "(LSortWorks$Gear;)Z"⟩ ∈ sw_gw := p_mes (List.mem_of_getElem? (i := 18) (by decide +kernel)) (by decide +kernel)
theorem ts_19 : Cond.selects "SortWorks$Step" ⟨"SortWorks$Step", "isInStep", "(LSortWorks$Gear;)Z"⟩ ⟨"SortWorks$Step", "isInStep", "(LSortWorks$Gear;)Z"⟩ ∈ sw_gw := p_mes (List.mem_of_getElem? (i := 19) (by decide +kernel)) (by decide +kernel)
theorem ts_20 : Cond.selects "SortWorks$Step" ⟨"SortWorks$Step", "isBetter", "(ILSortWorks$Gear;)Z"⟩ ⟨"SortWorks$Step", "isBetter", "(ILSortWorks$Gear;)Z"⟩ ∈ sw_gw := p_mes (List.mem_of_getElem? (i := 20) (by decide +kernel)) (by decide +kernel)
theorem ts_21 : Cond.selects "SortWorks$Step" ⟨"SortWorks$Step", "act", "(I)V"⟩ ⟨"SortWorks$Step", "act", "(I)V"⟩ ∈ sw_gw := p_mes (List.mem_of_getElem? (i := 21) (by decide +kernel)) (by decide +kernel)
theorem ts_22 : Cond.selects "SortWorks$Step" ⟨"SortWorks$Step", "addTrace", "(I)V"⟩ ⟨"SortWorks$Step", "addTrace", "(I)V"⟩ ∈ sw_gw := p_mes (List.mem_of_getElem? (i := 22) (by decide +kernel)) (by decide +kernel)
theorem ts_23 : Cond.selects "SortWorks$Step" ⟨"SortWorks$Step", "scan", "(ILSortWorks$Gear;)Z"⟩ ⟨"SortWorks$Step", "scan", "(ILSortWorks$Gear;)Z"⟩ ∈ sw_gw := p_mes (List.mem_of_getElem? (i := 23) (by decide +kernel)) (by decide +kernel)
theorem ts_24 : Cond.selects "SortWorks$Reading" ⟨"SortWorks$Reading", "readFormA", "(LSortWorks$Parcel;)I"⟩ ⟨"SortWorks$Reading", "readFormA", "(LSortWorks$Parcel;)I"⟩ ∈ sw_gw := p_mes (List.mem_of_getElem? (i := 24) (by decide +kernel)) (by decide +kernel)
theorem ts_25 : Cond.selects "SortWorks$Reading" ⟨"SortWorks$Reading", "readFormB", "(LSortWorks$Parcel;)I"⟩ ⟨"SortWorks$Reading", "readFormB", "(LSortWorks$Parcel;)I"⟩ ∈ sw_gw := p_mes (List.mem_of_getElem? (i := 25) (by decide +kernel)) (by decide +kernel)
theorem ts_26 : Cond.selects "SortWorks$Step" ⟨"SortWorks$Step", "targetByRules", "(I)I"⟩ ⟨"SortWorks$Step", "targetByRules", "(I)I"⟩ ∈ sw_gw := p_mes (List.mem_of_getElem? (i := 26) (by decide +kernel)) (by decide +kernel)
theorem ts_27 : Cond.selects "SortWorks$Step" ⟨"SortWorks$Step", "holds", "(I)I"⟩ ⟨"SortWorks$Step", "holds", "(I)I"⟩ ∈ sw_gw := p_mes (List.mem_of_getElem? (i := 27) (by decide +kernel)) (by decide +kernel)
theorem ts_28 : Cond.selects "SortWorks$Step" ⟨"SortWorks$Step", "quotient", "(I)I"⟩ ⟨"SortWorks$Step", "quotient", "(I)I"⟩ ∈ sw_gw := p_mes (List.mem_of_getElem? (i := 28) (by decide +kernel)) (by decide +kernel)
theorem ts_29 : Cond.selects "SortWorks$Step" ⟨"SortWorks$Step", "plainValue", "(I)I"⟩ ⟨"SortWorks$Step", "plainValue", "(I)I"⟩ ∈ sw_gw := p_mes (List.mem_of_getElem? (i := 29) (by decide +kernel)) (by decide +kernel)
theorem ts_30 : Cond.selects "SortWorks$Step" ⟨"SortWorks$Step", "passOn", "(ILSortWorks$Gear;Z)V"⟩ ⟨"SortWorks$Step", "passOn", "(ILSortWorks$Gear;Z)V"⟩ ∈ sw_gw := p_mes (List.mem_of_getElem? (i := 30) (by decide +kernel)) (by decide +kernel)
theorem ts_31 : Cond.selects "SortWorks$Step" ⟨"SortWorks$Step", "giveOut", "(ILSortWorks$Gear;LSortWorks$Parcel;)Z"⟩ ⟨"SortWorks$Step", "giveOut", "(ILSortWorks$Gear;LSortWorks$Parcel;)Z"⟩ ∈ sw_gw := p_mes (List.mem_of_getElem? (i := 31) (by decide +kernel)) (by decide +kernel)
theorem ts_32 : Cond.selects "SortWorks$Step" ⟨"SortWorks$Step", "leaveBy", "(IILSortWorks$Parcel;)V"⟩ ⟨"SortWorks$Step", "leaveBy", "(IILSortWorks$Parcel;)V"⟩ ∈ sw_gw := p_mes (List.mem_of_getElem? (i := 32) (by decide +kernel)) (by decide +kernel)
theorem ts_33 : Cond.selects "SortWorks$Step" ⟨"SortWorks$Step", "giveOn", "(ILSortWorks$Gear;LSortWorks$Parcel;)Z"⟩ ⟨"SortWorks$Step", "giveOn", "(ILSortWorks$Gear;LSortWorks$Parcel;)Z"⟩ ∈ sw_gw := p_mes (List.mem_of_getElem? (i := 33) (by decide +kernel)) (by decide +kernel)
theorem ts_34 : Cond.selects "SortWorks$Step" ⟨"SortWorks$Step", "takes", "(III)Z"⟩ ⟨"SortWorks$Step", "takes", "(III)Z"⟩ ∈ sw_gw := p_mes (List.mem_of_getElem? (i := 34) (by decide +kernel)) (by decide +kernel)
theorem ts_35 : Cond.selects "SortWorks$Step" ⟨"SortWorks$Step", "mergeTakes", "(LSortWorks$Gear;I)Z"⟩ ⟨"SortWorks$Step", "mergeTakes", "(LSortWorks$Gear;I)Z"⟩ ∈ sw_gw := p_mes (List.mem_of_getElem? (i := 35) (by decide +kernel)) (by decide +kernel)
theorem ts_36 : Cond.selects "SortWorks$Step" ⟨"SortWorks$Step", "moveUp", "(LSortWorks$Gear;)V"⟩ ⟨"SortWorks$Step", "moveUp", "(LSortWorks$Gear;)V"⟩ ∈ sw_gw := p_mes (List.mem_of_getElem? (i := 36) (by decide +kernel)) (by decide +kernel)
theorem ts_37 : Cond.selects "SortWorks$Step" ⟨"SortWorks$Step", "setDial", "(ILSortWorks$Gear;)V"⟩ ⟨"SortWorks$Step", "setDial", "(ILSortWorks$Gear;)V"⟩ ∈ sw_gw := p_mes (List.mem_of_getElem? (i := 37) (by decide +kernel)) (by decide +kernel)
theorem ts_38 : Cond.selects "SortWorks$Step" ⟨"SortWorks$Step", "lampOf", "(LSortWorks$Gear;)I"⟩ ⟨"SortWorks$Step", "lampOf", "(LSortWorks$Gear;)I"⟩ ∈ sw_gw := p_mes (List.mem_of_getElem? (i := 38) (by decide +kernel)) (by decide +kernel)
theorem ts_39 : Cond.selects "SortWorks" ⟨"SortWorks", "comeByNight", "(III)I"⟩ ⟨"SortWorks", "comeByNight", "(III)I"⟩ ∈ sw_gw := p_mes (List.mem_of_getElem? (i := 39) (by decide +kernel)) (by decide +kernel)
theorem ts_40 : Cond.selects "SortWorks$Parcel" ⟨"SortWorks$Parcel", "raiseLastByte", "()V"⟩ ⟨"SortWorks$Parcel", "raiseLastByte", "()V"⟩ ∈ sw_gw := p_mes (List.mem_of_getElem? (i := 40) (by decide +kernel)) (by decide +kernel)
theorem ts_41 : Cond.selects "SortWorks$Works" ⟨"SortWorks$Works", "goAhead", "(II)Z"⟩ ⟨"SortWorks$Works", "goAhead", "(II)Z"⟩ ∈ sw_gw := p_mes (List.mem_of_getElem? (i := 41) (by decide +kernel)) (by decide +kernel)
theorem ts_42 : Cond.selects "SortWorks" ⟨"SortWorks", "mixedGear", "(JLSortWorks$Gear;)J"⟩ ⟨"SortWorks", "mixedGear", "(JLSortWorks$Gear;)J"⟩ ∈ sw_gw := p_mes (List.mem_of_getElem? (i := 42) (by decide +kernel)) (by decide +kernel)
theorem ts_43 : Cond.selects "SortWorksModel" ⟨"SortWorksModel", "refused", "(I)I"⟩ ⟨"SortWorksModel", "refused", "(I)I"⟩ ∈ sw_gw := p_mes (List.mem_of_getElem? (i := 43) (by decide +kernel)) (by decide +kernel)
theorem ts_44 : Cond.selects "SortWorksModel" ⟨"SortWorksModel", "well", "(I)I"⟩ ⟨"SortWorksModel", "well", "(I)I"⟩ ∈ sw_gw := p_mes (List.mem_of_getElem? (i := 44) (by decide +kernel)) (by decide +kernel)
theorem ts_45 : Cond.selects "SortWorksModel" ⟨"SortWorksModel", "g", "(I)I"⟩ ⟨"SortWorksModel", "g", "(I)I"⟩ ∈ sw_gw := p_mes (List.mem_of_getElem? (i := 45) (by decide +kernel)) (by decide +kernel)
theorem ts_46 : Cond.selects "SortWorksModel" ⟨"SortWorksModel", "fresh", "(II)V"⟩ ⟨"SortWorksModel", "fresh", "(II)V"⟩ ∈ sw_gw := p_mes (List.mem_of_getElem? (i := 46) (by decide +kernel)) (by decide +kernel)
theorem ts_47 : Cond.selects "SortWorksModel" ⟨"SortWorksModel", "built", "(I)I"⟩ ⟨"SortWorksModel", "built", "(I)I"⟩ ∈ sw_gw := p_mes (List.mem_of_getElem? (i := 47) (by decide +kernel)) (by decide +kernel)
theorem ts_48 : Cond.selects "SortWorksModel" ⟨"SortWorksModel", "noGear", "(I)Z"⟩ ⟨"SortWorksModel", "noGear", "(I)Z"⟩ ∈ sw_gw := p_mes (List.mem_of_getElem? (i := 48) (by decide +kernel)) (by decide +kernel)
theorem ts_49 : Cond.selects "SortWorksModel" ⟨"SortWorksModel", "faulted", "(I)I"⟩ ⟨"SortWorksModel", "faulted", "(I)I"⟩ ∈ sw_gw := p_mes (List.mem_of_getElem? (i := 49) (by decide +kernel)) (by decide +kernel)
theorem ts_50 : Cond.selects "SortWorksModel" ⟨"SortWorksModel", "loadOf", "(I)I"⟩ ⟨"SortWorksModel", "loadOf", "(I)I"⟩ ∈ sw_gw := p_mes (List.mem_of_getElem? (i := 50) (by decide +kernel)) (by decide +kernel)
theorem ts_51 : Cond.selects "SortWorksModel" ⟨"SortWorksModel", "copyGear", "(II)V"⟩ ⟨"SortWorksModel", "copyGear", "(II)V"⟩ ∈ sw_gw := p_mes (List.mem_of_getElem? (i := 51) (by decide +kernel)) (by decide +kernel)
theorem ts_52 : Cond.selects "SortWorksModel" ⟨"SortWorksModel", "copyRule", "(II)V"⟩ ⟨"SortWorksModel", "copyRule", "(II)V"⟩ ∈ sw_gw := p_mes (List.mem_of_getElem? (i := 52) (by decide +kernel)) (by decide +kernel)
theorem ts_53 : Cond.selects "SortWorksModel" ⟨"SortWorksModel", "rule", "(I)Z"⟩ ⟨"SortWorksModel", "rule", "(I)Z"⟩ ∈ sw_gw := p_mes (List.mem_of_getElem? (i := 53) (by decide +kernel)) (by decide +kernel)
theorem ts_54 : Cond.selects "SortWorksModel" ⟨"SortWorksModel", "wrong", "(I)Z"⟩ ⟨"SortWorksModel", "wrong", "(I)Z"⟩ ∈ sw_gw := p_mes (List.mem_of_getElem? (i := 54) (by decide +kernel)) (by decide +kernel)
theorem ts_55 : Cond.selects "SortWorksModel" ⟨"SortWorksModel", "here", "()I"⟩ ⟨"SortWorksModel", "here", "()I"⟩ ∈ sw_gw := p_mes (List.mem_of_getElem? (i := 55) (by decide +kernel)) (by decide +kernel)
theorem ts_56 : Cond.selects "SortWorksModel" ⟨"SortWorksModel", "test", "(I)Z"⟩ ⟨"SortWorksModel", "test", "(I)Z"⟩ ∈ sw_gw := p_mes (List.mem_of_getElem? (i := 56) (by decide +kernel)) (by decide +kernel)
theorem ts_57 : Cond.selects "SortWorksModel" ⟨"SortWorksModel", "number", "()Z"⟩ ⟨"SortWorksModel", "number", "()Z"⟩ ∈ sw_gw := p_mes (List.mem_of_getElem? (i := 57) (by decide +kernel)) (by decide +kernel)
theorem ts_58 : Cond.selects "SortWorksModel" ⟨"SortWorksModel", "sign", "()Z"⟩ ⟨"SortWorksModel", "sign", "()Z"⟩ ∈ sw_gw := p_mes (List.mem_of_getElem? (i := 58) (by decide +kernel)) (by decide +kernel)
theorem ts_59 : Cond.selects "SortWorksModel" ⟨"SortWorksModel", "comesFull", "()Z"⟩ ⟨"SortWorksModel", "comesFull", "()Z"⟩ ∈ sw_gw := p_mes (List.mem_of_getElem? (i := 59) (by decide +kernel)) (by decide +kernel)
theorem ts_60 : Cond.selects "SortWorksModel" ⟨"SortWorksModel", "newParcel", "(III)I"⟩ ⟨"SortWorksModel", "newParcel", "(III)I"⟩ ∈ sw_gw := p_mes (List.mem_of_getElem? (i := 60) (by decide +kernel)) (by decide +kernel)
theorem ts_61 : Cond.selects "SortWorksModel" ⟨"SortWorksModel", "enters", "(II)V"⟩ ⟨"SortWorksModel", "enters", "(II)V"⟩ ∈ sw_gw := p_mes (List.mem_of_getElem? (i := 61) (by decide +kernel)) (by decide +kernel)
theorem ts_62 : Cond.selects "SortWorksModel" ⟨"SortWorksModel", "noParcel", "(I)Z"⟩ ⟨"SortWorksModel", "noParcel", "(I)Z"⟩ ∈ sw_gw := p_mes (List.mem_of_getElem? (i := 62) (by decide +kernel)) (by decide +kernel)
theorem ts_63 : Cond.selects "SortWorksModel" ⟨"SortWorksModel", "newLabel", "(II)V"⟩ ⟨"SortWorksModel", "newLabel", "(II)V"⟩ ∈ sw_gw := p_mes (List.mem_of_getElem? (i := 63) (by decide +kernel)) (by decide +kernel)
theorem ts_64 : Cond.selects "SortWorksModel" ⟨"SortWorksModel", "tags", "(III)V"⟩ ⟨"SortWorksModel", "tags", "(III)V"⟩ ∈ sw_gw := p_mes (List.mem_of_getElem? (i := 64) (by decide +kernel)) (by decide +kernel)
theorem ts_65 : Cond.selects "SortWorksModel" ⟨"SortWorksModel", "isJammed", "(I)Z"⟩ ⟨"SortWorksModel", "isJammed", "(I)Z"⟩ ∈ sw_gw := p_mes (List.mem_of_getElem? (i := 65) (by decide +kernel)) (by decide +kernel)
theorem ts_66 : Cond.selects "SortWorksModel" ⟨"SortWorksModel", "leaves", "(I)V"⟩ ⟨"SortWorksModel", "leaves", "(I)V"⟩ ∈ sw_gw := p_mes (List.mem_of_getElem? (i := 66) (by decide +kernel)) (by decide +kernel)
theorem ts_67 : Cond.selects "SortWorksModel" ⟨"SortWorksModel", "isFull", "()Z"⟩ ⟨"SortWorksModel", "isFull", "()Z"⟩ ∈ sw_gw := p_mes (List.mem_of_getElem? (i := 67) (by decide +kernel)) (by decide +kernel)
theorem ts_68 : Cond.selects "SortWorksModel" ⟨"SortWorksModel", "steps", "()V"⟩ ⟨"SortWorksModel", "steps", "()V"⟩ ∈ sw_gw := p_mes (List.mem_of_getElem? (i := 68) (by decide +kernel)) (by decide +kernel)
theorem ts_69 : Cond.selects "SortWorksModel" ⟨"SortWorksModel", "keep", "()V"⟩ ⟨"SortWorksModel", "keep", "()V"⟩ ∈ sw_gw := p_mes (List.mem_of_getElem? (i := 69) (by decide +kernel)) (by decide +kernel)
theorem ts_70 : Cond.selects "SortWorksModel" ⟨"SortWorksModel", "goOver", "(I)V"⟩ ⟨"SortWorksModel", "goOver", "(I)V"⟩ ∈ sw_gw := p_mes (List.mem_of_getElem? (i := 70) (by decide +kernel)) (by decide +kernel)
theorem ts_71 : Cond.selects "SortWorksModel" ⟨"SortWorksModel", "both", "(I)I"⟩ ⟨"SortWorksModel", "both", "(I)I"⟩ ∈ sw_gw := p_mes (List.mem_of_getElem? (i := 71) (by decide +kernel)) (by decide +kernel)
theorem ts_72 : Cond.selects "SortWorksModel" ⟨"SortWorksModel", "goOverGear", "(I)V"⟩ ⟨"SortWorksModel", "goOverGear", "(I)V"⟩ ∈ sw_gw := p_mes (List.mem_of_getElem? (i := 72) (by decide +kernel)) (by decide +kernel)
theorem ts_73 : Cond.selects "SortWorksModel" ⟨"SortWorksModel", "goOverParcels", "()V"⟩ ⟨"SortWorksModel", "goOverParcels", "()V"⟩ ∈ sw_gw := p_mes (List.mem_of_getElem? (i := 73) (by decide +kernel)) (by decide +kernel)
theorem ts_74 : Cond.selects "SortWorksModel" ⟨"SortWorksModel", "doPlans", "()V"⟩ ⟨"SortWorksModel", "doPlans", "()V"⟩ ∈ sw_gw := p_mes (List.mem_of_getElem? (i := 74) (by decide +kernel)) (by decide +kernel)
theorem ts_75 : Cond.selects "SortWorksModel" ⟨"SortWorksModel", "planFault", "(I)I"⟩ ⟨"SortWorksModel", "planFault", "(I)I"⟩ ∈ sw_gw := p_mes (List.mem_of_getElem? (i := 75) (by decide +kernel)) (by decide +kernel)
theorem ts_76 : Cond.selects "SortWorksModel" ⟨"SortWorksModel", "find", "(III)V"⟩ ⟨"SortWorksModel", "find", "(III)V"⟩ ∈ sw_gw := p_mes (List.mem_of_getElem? (i := 76) (by decide +kernel)) (by decide +kernel)
theorem ts_77 : Cond.selects "SortWorksModel" ⟨"SortWorksModel", "choose", "()V"⟩ ⟨"SortWorksModel", "choose", "()V"⟩ ∈ sw_gw := p_mes (List.mem_of_getElem? (i := 77) (by decide +kernel)) (by decide +kernel)
theorem ts_78 : Cond.selects "SortWorksModel" ⟨"SortWorksModel", "chosenBy", "(I)I"⟩ ⟨"SortWorksModel", "chosenBy", "(I)I"⟩ ∈ sw_gw := p_mes (List.mem_of_getElem? (i := 78) (by decide +kernel)) (by decide +kernel)
theorem ts_79 : Cond.selects "SortWorksModel" ⟨"SortWorksModel", "isActing", "(I)Z"⟩ ⟨"SortWorksModel", "isActing", "(I)Z"⟩ ∈ sw_gw := p_mes (List.mem_of_getElem? (i := 79) (by decide +kernel)) (by decide +kernel)
theorem ts_80 : Cond.selects "SortWorksModel" ⟨"SortWorksModel", "linkAt", "(I)I"⟩ ⟨"SortWorksModel", "linkAt", "(I)I"⟩ ∈ sw_gw := p_mes (List.mem_of_getElem? (i := 80) (by decide +kernel)) (by decide +kernel)
theorem ts_81 : Cond.selects "SortWorksModel" ⟨"SortWorksModel", "leads", "(III)Z"⟩ ⟨"SortWorksModel", "leads", "(III)Z"⟩ ∈ sw_gw := p_mes (List.mem_of_getElem? (i := 81) (by decide +kernel)) (by decide +kernel)
theorem ts_82 : Cond.selects "SortWorksModel" ⟨"SortWorksModel", "follow", "(II)I"⟩ ⟨"SortWorksModel", "follow", "(II)I"⟩ ∈ sw_gw := p_mes (List.mem_of_getElem? (i := 82) (by decide +kernel)) (by decide +kernel)
theorem ts_83 : Cond.selects "SortWorksModel" ⟨"SortWorksModel", "act", "(I)V"⟩ ⟨"SortWorksModel", "act", "(I)V"⟩ ∈ sw_gw := p_mes (List.mem_of_getElem? (i := 83) (by decide +kernel)) (by decide +kernel)
theorem ts_84 : Cond.selects "SortWorksModel" ⟨"SortWorksModel", "body", "(I)V"⟩ ⟨"SortWorksModel", "body", "(I)V"⟩ ∈ sw_gw := p_mes (List.mem_of_getElem? (i := 84) (by decide +kernel)) (by decide +kernel)
theorem ts_85 : Cond.selects "SortWorksModel" ⟨"SortWorksModel", "actPanel", "(I)V"⟩ ⟨"SortWorksModel", "actPanel", "(I)V"⟩ ∈ sw_gw := p_mes (List.mem_of_getElem? (i := 85) (by decide +kernel)) (by decide +kernel)
theorem ts_86 : Cond.selects "SortWorksModel" ⟨"SortWorksModel", "actTaker", "(I)V"⟩ ⟨"SortWorksModel", "actTaker", "(I)V"⟩ ∈ sw_gw := p_mes (List.mem_of_getElem? (i := 86) (by decide +kernel)) (by decide +kernel)
theorem ts_87 : Cond.selects "SortWorksModel" ⟨"SortWorksModel", "bodies", "(I)V"⟩ ⟨"SortWorksModel", "bodies", "(I)V"⟩ ∈ sw_gw := p_mes (List.mem_of_getElem? (i := 87) (by decide +kernel)) (by decide +kernel)
theorem ts_88 : Cond.selects "SortWorksModel" ⟨"SortWorksModel", "scans", "(II)Z"⟩ ⟨"SortWorksModel", "scans", "(II)Z"⟩ ∈ sw_gw := p_mes (List.mem_of_getElem? (i := 88) (by decide +kernel)) (by decide +kernel)
theorem ts_89 : Cond.selects "SortWorksModel" ⟨"SortWorksModel", "reads", "(I)Z"⟩ ⟨"SortWorksModel", "reads", "(I)Z"⟩ ∈ sw_gw := p_mes (List.mem_of_getElem? (i := 89) (by decide +kernel)) (by decide +kernel)
theorem ts_90 : Cond.selects "SortWorksModel" ⟨"SortWorksModel", "asked", "(II)I"⟩ ⟨"SortWorksModel", "asked", "(II)I"⟩ ∈ sw_gw := p_mes (List.mem_of_getElem? (i := 90) (by decide +kernel)) (by decide +kernel)
theorem ts_91 : Cond.selects "SortWorksModel" ⟨"SortWorksModel", "holds", "(I)Z"⟩ ⟨"SortWorksModel", "holds", "(I)Z"⟩ ∈ sw_gw := p_mes (List.mem_of_getElem? (i := 91) (by decide +kernel)) (by decide +kernel)
theorem ts_92 : Cond.selects "SortWorksModel" ⟨"SortWorksModel", "quotientOf", "(I)I"⟩ ⟨"SortWorksModel", "quotientOf", "(I)I"⟩ ∈ sw_gw := p_mes (List.mem_of_getElem? (i := 92) (by decide +kernel)) (by decide +kernel)
theorem ts_93 : Cond.selects "SortWorksModel" ⟨"SortWorksModel", "bodiesLast", "(I)V"⟩ ⟨"SortWorksModel", "bodiesLast", "(I)V"⟩ ∈ sw_gw := p_mes (List.mem_of_getElem? (i := 93) (by decide +kernel)) (by decide +kernel)
theorem ts_94 : Cond.selects "SortWorksModel" ⟨"SortWorksModel", "givesOut", "(II)Z"⟩ ⟨"SortWorksModel", "givesOut", "(II)Z"⟩ ∈ sw_gw := p_mes (List.mem_of_getElem? (i := 94) (by decide +kernel)) (by decide +kernel)
theorem ts_95 : Cond.selects "SortWorksModel" ⟨"SortWorksModel", "goesOut", "(III)V"⟩ ⟨"SortWorksModel", "goesOut", "(III)V"⟩ ∈ sw_gw := p_mes (List.mem_of_getElem? (i := 95) (by decide +kernel)) (by decide +kernel)
theorem ts_96 : Cond.selects "SortWorksModel" ⟨"SortWorksModel", "gives", "(II)Z"⟩ ⟨"SortWorksModel", "gives", "(II)Z"⟩ ∈ sw_gw := p_mes (List.mem_of_getElem? (i := 96) (by decide +kernel)) (by decide +kernel)
theorem ts_97 : Cond.selects "SortWorksModel" ⟨"SortWorksModel", "takes", "(III)Z"⟩ ⟨"SortWorksModel", "takes", "(III)Z"⟩ ∈ sw_gw := p_mes (List.mem_of_getElem? (i := 97) (by decide +kernel)) (by decide +kernel)
theorem ts_98 : Cond.selects "SortWorksModel" ⟨"SortWorksModel", "wants", "(II)I"⟩ ⟨"SortWorksModel", "wants", "(II)I"⟩ ∈ sw_gw := p_mes (List.mem_of_getElem? (i := 98) (by decide +kernel)) (by decide +kernel)
theorem ts_99 : Cond.selects "SortWorksModel" ⟨"SortWorksModel", "spoils", "(II)V"⟩ ⟨"SortWorksModel", "spoils", "(II)V"⟩ ∈ sw_gw := p_mes (List.mem_of_getElem? (i := 99) (by decide +kernel)) (by decide +kernel)
theorem ts_100 : Cond.selects "SortWorksModel" ⟨"SortWorksModel", "toldMore", "(II)I"⟩ ⟨"SortWorksModel", "toldMore", "(II)I"⟩ ∈ sw_gw := p_mes (List.mem_of_getElem? (i := 100) (by decide +kernel)) (by decide +kernel)
theorem ts_101 : Cond.selects "SortWorksModel" ⟨"SortWorksModel", "says", "(I)V"⟩ ⟨"SortWorksModel", "says", "(I)V"⟩ ∈ sw_gw := p_mes (List.mem_of_getElem? (i := 101) (by decide +kernel)) (by decide +kernel)
theorem ts_102 : Cond.selects "SortWorksModel" ⟨"SortWorksModel", "saysNumber", "(I)V"⟩ ⟨"SortWorksModel", "saysNumber", "(I)V"⟩ ∈ sw_gw := p_mes (List.mem_of_getElem? (i := 102) (by decide +kernel)) (by decide +kernel)
theorem ts_103 : Cond.selects "SortWorksModel" ⟨"SortWorksModel", "spread", "(I)V"⟩ ⟨"SortWorksModel", "spread", "(I)V"⟩ ∈ sw_gw := p_mes (List.mem_of_getElem? (i := 103) (by decide +kernel)) (by decide +kernel)
theorem ts_104 : Cond.selects "SortWorksModel" ⟨"SortWorksModel", "ahead", "(II)V"⟩ ⟨"SortWorksModel", "ahead", "(II)V"⟩ ∈ sw_gw := p_mes (List.mem_of_getElem? (i := 104) (by decide +kernel)) (by decide +kernel)
theorem ts_105 : Cond.selects "SortWorksModel" ⟨"SortWorksModel", "adds", "(I)V"⟩ ⟨"SortWorksModel", "adds", "(I)V"⟩ ∈ sw_gw := p_mes (List.mem_of_getElem? (i := 105) (by decide +kernel)) (by decide +kernel)
theorem iw_0 : ∀ w ∈ u_ws RX0 TX0 20, w ∈ sw_gw := by decide +kernel
theorem cl_0 : p_Cl 0 (RX0, TX0, 20) := ⟨rfl, iw_0, tyX0_ok, nmX0, tw_1_70, tw_1_5, by decide +kernel⟩
theorem iw_1 : ∀ w ∈ u_ws RX1 TX1 4, w ∈ sw_gw := by decide +kernel
theorem cl_1 : p_Cl 1 (RX1, TX1, 4) := ⟨rfl, iw_1, tyX1_ok, nmX1, tw_3_11, tw_1_11, by decide +kernel⟩
theorem iw_2 : ∀ w ∈ u_ws RX2 TX2 6, w ∈ sw_gw := by decide +kernel
theorem cl_2 : p_Cl 2 (RX2, TX2, 6) := ⟨rfl, iw_2, tyX2_ok, nmX2, tw_1_43, tw_1_4, by decide +kernel⟩
theorem iw_3 : ∀ w ∈ u_ws RX3 TX3 2, w ∈ sw_gw := by decide +kernel
theorem cl_3 : p_Cl 3 (RX3, TX3, 2) := ⟨rfl, iw_3, tyX3_ok, nmX3, tw_2_187, tw_1_8, by decide +kernel⟩
theorem iw_4 : ∀ w ∈ u_ws RX4 TX4 14, w ∈ sw_gw := by decide +kernel
theorem cl_4 : p_Cl 4 (RX4, TX4, 14) := ⟨rfl, iw_4, tyX4_ok, nmX4, tw_1_173, tw_1_6, by decide +kernel⟩
theorem iw_5 : ∀ w ∈ u_ws RX5 TX5 5, w ∈ sw_gw := by decide +kernel
theorem cl_5 : p_Cl 5 (RX5, TX5, 5) := ⟨rfl, iw_5, tyX5_ok, nmX5, tw_2_209, tw_1_10, by decide +kernel⟩
theorem iw_6 : ∀ w ∈ u_ws RX6 TX6 9, w ∈ sw_gw := by decide +kernel
theorem cl_6 : p_Cl 6 (RX6, TX6, 9) := ⟨rfl, iw_6, tyX6_ok, nmX6, tw_2_61, tw_1_7, by decide +kernel⟩
theorem iw_7 : ∀ w ∈ u_ws RX7 TX7 10, w ∈ sw_gw := by decide +kernel
theorem cl_7 : p_Cl 7 (RX7, TX7, 10) := ⟨rfl, iw_7, tyX7_ok, nmX7, tw_1_33, tw_1_3, by decide +kernel⟩
theorem iw_8 : ∀ w ∈ u_ws RX8 TX8 5, w ∈ sw_gw := by decide +kernel
theorem cl_8 : p_Cl 8 (RX8, TX8, 5) := ⟨rfl, iw_8, tyX8_ok, nmX8, tw_2_203, tw_1_9, by decide +kernel⟩
theorem iw_9 : ∀ w ∈ u_ws RX9 TX9 15, w ∈ sw_gw := by decide +kernel
theorem cl_9 : p_Cl 9 (RX9, TX9, 15) := ⟨rfl, iw_9, tyX9_ok, nmX9, tw_1_27, tw_1_2, by decide +kernel⟩
theorem iw_10 : ∀ w ∈ u_ws RX10 TX10 9, w ∈ sw_gw := by decide +kernel
theorem cl_10 : p_Cl 10 (RX10, TX10, 9) := ⟨rfl, iw_10, tyX10_ok, nmX10, tw_1_18, tw_1_1, by decide +kernel⟩
theorem iw_11 : ∀ w ∈ u_ws RX11 TX11 90, w ∈ sw_gw := by decide +kernel
theorem cl_11 : p_Cl 11 (RX11, TX11, 90) := ⟨rfl, iw_11, tyX11_ok, nmX11, tw_6_19, tw_1_12, by decide +kernel⟩
theorem fl_SW_12 : p_Fl "SortWorks" 12 10 0 (.array (.object "SortWorks$Works")) true := ⟨(RX10, TX10, 9), cl_10, Nat.lt_of_lt_of_le (by decide) (Nat.le_refl _), tw_3_32, rfl, rfl, rfl⟩
theorem fl_SW_18 : p_Fl "SortWorks" 18 10 1 (.object "SortWorks$Works") false := ⟨(RX10, TX10, 9), cl_10, Nat.lt_of_lt_of_le (by decide) (Nat.le_refl _), tw_3_33, rfl, rfl, rfl⟩
theorem fl_SW_25 : p_Fl "SortWorks" 25 10 2 (.object "SortWorks$Numbers") true := ⟨(RX10, TX10, 9), cl_10, Nat.lt_of_lt_of_le (by decide) (Nat.le_refl _), tw_3_34, rfl, rfl, rfl⟩
theorem fl_SW_32 : p_Fl "SortWorks" 32 10 3 (.object "SortWorks$Step") true := ⟨(RX10, TX10, 9), cl_10, Nat.lt_of_lt_of_le (by decide) (Nat.le_refl _), tw_3_35, rfl, rfl, rfl⟩
theorem fl_SW_39 : p_Fl "SortWorks" 39 10 4 (.object "SortWorks$Judge") true := ⟨(RX10, TX10, 9), cl_10, Nat.lt_of_lt_of_le (by decide) (Nat.le_refl _), tw_3_36, rfl, rfl, rfl⟩
theorem fl_SW_43 : p_Fl "SortWorks" 43 10 5 (.array .int) true := ⟨(RX10, TX10, 9), cl_10, Nat.lt_of_lt_of_le (by decide) (Nat.le_refl _), tw_3_37, rfl, rfl, rfl⟩
theorem fl_SW_47 : p_Fl "SortWorks" 47 10 7 .int false := ⟨(RX10, TX10, 9), cl_10, Nat.lt_of_lt_of_le (by decide) (Nat.le_refl _), tw_3_39, rfl, rfl, rfl⟩
theorem fl_SW_51 : p_Fl "SortWorks" 51 10 8 .int false := ⟨(RX10, TX10, 9), cl_10, Nat.lt_of_lt_of_le (by decide) (Nat.le_refl _), tw_3_40, rfl, rfl, rfl⟩
theorem fl_SW_64 : p_Fl "SortWorks" 64 9 0 .int true := ⟨(RX9, TX9, 15), cl_9, Nat.lt_of_lt_of_le (by decide) (Nat.le_refl _), tw_2_118, rfl, rfl, rfl⟩
theorem fl_SW_74 : p_Fl "SortWorks" 74 9 2 .int false := ⟨(RX9, TX9, 15), cl_9, Nat.lt_of_lt_of_le (by decide) (Nat.le_refl _), tw_2_125, rfl, rfl, rfl⟩
theorem fl_SW_77 : p_Fl "SortWorks" 77 9 1 (.object "SortWorks$State") true := ⟨(RX9, TX9, 15), cl_9, Nat.lt_of_lt_of_le (by decide) (Nat.le_refl _), tw_2_122, rfl, rfl, rfl⟩
theorem fl_SW_81 : p_Fl "SortWorks" 81 7 4 (.array (.object "SortWorks$Gear")) true := ⟨(RX7, TX7, 10), cl_7, Nat.lt_of_lt_of_le (by decide) (Nat.le_refl _), tw_2_24, rfl, rfl, rfl⟩
theorem fl_SW_92 : p_Fl "SortWorks" 92 0 1 .int false := ⟨(RX0, TX0, 20), cl_0, Nat.lt_of_lt_of_le (by decide) (Nat.le_refl _), tw_1_80, rfl, rfl, rfl⟩
theorem fl_SW_102 : p_Fl "SortWorks" 102 0 4 (.array .int) true := ⟨(RX0, TX0, 20), cl_0, Nat.lt_of_lt_of_le (by decide) (Nat.le_refl _), tw_1_92, rfl, rfl, rfl⟩
theorem fl_SW_111 : p_Fl "SortWorks" 111 0 3 .int false := ⟨(RX0, TX0, 20), cl_0, Nat.lt_of_lt_of_le (by decide) (Nat.le_refl _), tw_1_88, rfl, rfl, rfl⟩
theorem fl_SW_132 : p_Fl "SortWorks" 132 0 2 .int false := ⟨(RX0, TX0, 20), cl_0, Nat.lt_of_lt_of_le (by decide) (Nat.le_refl _), tw_1_85, rfl, rfl, rfl⟩
theorem fl_SW_139 : p_Fl "SortWorks" 139 0 0 .int false := ⟨(RX0, TX0, 20), cl_0, Nat.lt_of_lt_of_le (by decide) (Nat.le_refl _), tw_1_78, rfl, rfl, rfl⟩
theorem fl_SW_146 : p_Fl "SortWorks" 146 10 6 .int false := ⟨(RX10, TX10, 9), cl_10, Nat.lt_of_lt_of_le (by decide) (Nat.le_refl _), tw_3_38, rfl, rfl, rfl⟩
theorem fl_SW_153 : p_Fl "SortWorks" 153 1 0 (.object "SortWorks$Rules") true := ⟨(RX1, TX1, 4), cl_1, Nat.lt_of_lt_of_le (by decide) (Nat.le_refl _), tw_3_19, rfl, rfl, rfl⟩
theorem fl_SW_161 : p_Fl "SortWorks" 161 9 3 (.object "SortWorks$Rules") true := ⟨(RX9, TX9, 15), cl_9, Nat.lt_of_lt_of_le (by decide) (Nat.le_refl _), tw_2_127, rfl, rfl, rfl⟩
theorem fl_SW_162 : p_Fl "SortWorks" 162 6 0 .int false := ⟨(RX6, TX6, 9), cl_6, Nat.lt_of_lt_of_le (by decide) (Nat.le_refl _), tw_2_68, rfl, rfl, rfl⟩
theorem fl_SW_167 : p_Fl "SortWorks" 167 9 6 .int false := ⟨(RX9, TX9, 15), cl_9, Nat.lt_of_lt_of_le (by decide) (Nat.le_refl _), tw_2_137, rfl, rfl, rfl⟩
theorem fl_SW_170 : p_Fl "SortWorks" 170 9 4 (.array (.array .int)) true := ⟨(RX9, TX9, 15), cl_9, Nat.lt_of_lt_of_le (by decide) (Nat.le_refl _), tw_2_131, rfl, rfl, rfl⟩
theorem fl_SW_174 : p_Fl "SortWorks" 174 9 5 (.array .int) true := ⟨(RX9, TX9, 15), cl_9, Nat.lt_of_lt_of_le (by decide) (Nat.le_refl _), tw_2_134, rfl, rfl, rfl⟩
theorem fl_SW_191 : p_Fl "SortWorks" 191 4 1 .int false := ⟨(RX4, TX4, 14), cl_4, Nat.lt_of_lt_of_le (by decide) (Nat.le_refl _), tw_1_184, rfl, rfl, rfl⟩
theorem fl_SW_197 : p_Fl "SortWorks" 197 3 1 .int false := ⟨(RX3, TX3, 2), cl_3, Nat.lt_of_lt_of_le (by decide) (Nat.le_refl _), tw_2_196, rfl, rfl, rfl⟩
theorem fl_SW_207 : p_Fl "SortWorks" 207 4 12 (.array .int) true := ⟨(RX4, TX4, 14), cl_4, Nat.lt_of_lt_of_le (by decide) (Nat.le_refl _), tw_1_219, rfl, rfl, rfl⟩
theorem fl_SW_210 : p_Fl "SortWorks" 210 4 11 .int false := ⟨(RX4, TX4, 14), cl_4, Nat.lt_of_lt_of_le (by decide) (Nat.le_refl _), tw_1_216, rfl, rfl, rfl⟩
theorem fl_SW_217 : p_Fl "SortWorks" 217 0 7 .boolean false := ⟨(RX0, TX0, 20), cl_0, Nat.lt_of_lt_of_le (by decide) (Nat.le_refl _), tw_1_100, rfl, rfl, rfl⟩
theorem fl_SW_221 : p_Fl "SortWorks" 221 0 6 .int false := ⟨(RX0, TX0, 20), cl_0, Nat.lt_of_lt_of_le (by decide) (Nat.le_refl _), tw_1_97, rfl, rfl, rfl⟩
theorem fl_SW_224 : p_Fl "SortWorks" 224 0 14 .int false := ⟨(RX0, TX0, 20), cl_0, Nat.lt_of_lt_of_le (by decide) (Nat.le_refl _), tw_1_120, rfl, rfl, rfl⟩
theorem fl_SW_241 : p_Fl "SortWorks" 241 4 4 .int false := ⟨(RX4, TX4, 14), cl_4, Nat.lt_of_lt_of_le (by decide) (Nat.le_refl _), tw_1_196, rfl, rfl, rfl⟩
theorem fl_SW_244 : p_Fl "SortWorks" 244 0 8 .int false := ⟨(RX0, TX0, 20), cl_0, Nat.lt_of_lt_of_le (by decide) (Nat.le_refl _), tw_1_103, rfl, rfl, rfl⟩
theorem fl_SW_250 : p_Fl "SortWorks" 250 4 5 .int false := ⟨(RX4, TX4, 14), cl_4, Nat.lt_of_lt_of_le (by decide) (Nat.le_refl _), tw_1_199, rfl, rfl, rfl⟩
theorem fl_SW_255 : p_Fl "SortWorks" 255 9 8 (.array .int) true := ⟨(RX9, TX9, 15), cl_9, Nat.lt_of_lt_of_le (by decide) (Nat.le_refl _), tw_2_141, rfl, rfl, rfl⟩
theorem fl_SW_258 : p_Fl "SortWorks" 258 9 9 (.array .int) true := ⟨(RX9, TX9, 15), cl_9, Nat.lt_of_lt_of_le (by decide) (Nat.le_refl _), tw_2_143, rfl, rfl, rfl⟩
theorem fl_SW_261 : p_Fl "SortWorks" 261 9 7 (.array (.array .int)) true := ⟨(RX9, TX9, 15), cl_9, Nat.lt_of_lt_of_le (by decide) (Nat.le_refl _), tw_2_139, rfl, rfl, rfl⟩
theorem fl_SW_267 : p_Fl "SortWorks" 267 0 10 .int false := ⟨(RX0, TX0, 20), cl_0, Nat.lt_of_lt_of_le (by decide) (Nat.le_refl _), tw_1_109, rfl, rfl, rfl⟩
theorem fl_SW_270 : p_Fl "SortWorks" 270 0 11 .int false := ⟨(RX0, TX0, 20), cl_0, Nat.lt_of_lt_of_le (by decide) (Nat.le_refl _), tw_1_113, rfl, rfl, rfl⟩
theorem fl_SW_277 : p_Fl "SortWorks" 277 7 0 .int false := ⟨(RX7, TX7, 10), cl_7, Nat.lt_of_lt_of_le (by decide) (Nat.le_refl _), tw_2_12, rfl, rfl, rfl⟩
theorem fl_SW_291 : p_Fl "SortWorks" 291 9 13 .int false := ⟨(RX9, TX9, 15), cl_9, Nat.lt_of_lt_of_le (by decide) (Nat.le_refl _), tw_2_152, rfl, rfl, rfl⟩
theorem fl_SW_309 : p_Fl "SortWorks" 309 4 9 .int false := ⟨(RX4, TX4, 14), cl_4, Nat.lt_of_lt_of_le (by decide) (Nat.le_refl _), tw_1_209, rfl, rfl, rfl⟩
theorem fl_SW_312 : p_Fl "SortWorks" 312 4 10 (.array .int) true := ⟨(RX4, TX4, 14), cl_4, Nat.lt_of_lt_of_le (by decide) (Nat.le_refl _), tw_1_212, rfl, rfl, rfl⟩
theorem fl_SW_315 : p_Fl "SortWorks" 315 3 0 (.array .int) true := ⟨(RX3, TX3, 2), cl_3, Nat.lt_of_lt_of_le (by decide) (Nat.le_refl _), tw_2_193, rfl, rfl, rfl⟩
theorem fl_SW_318 : p_Fl "SortWorks" 318 7 8 (.object "SortWorks$Log") true := ⟨(RX7, TX7, 10), cl_7, Nat.lt_of_lt_of_le (by decide) (Nat.le_refl _), tw_2_37, rfl, rfl, rfl⟩
theorem fl_SW_327 : p_Fl "SortWorks" 327 6 1 (.array .int) true := ⟨(RX6, TX6, 9), cl_6, Nat.lt_of_lt_of_le (by decide) (Nat.le_refl _), tw_2_73, rfl, rfl, rfl⟩
theorem fl_SW_330 : p_Fl "SortWorks" 330 6 2 (.array .int) true := ⟨(RX6, TX6, 9), cl_6, Nat.lt_of_lt_of_le (by decide) (Nat.le_refl _), tw_2_77, rfl, rfl, rfl⟩
theorem fl_SW_333 : p_Fl "SortWorks" 333 7 6 (.array .int) true := ⟨(RX7, TX7, 10), cl_7, Nat.lt_of_lt_of_le (by decide) (Nat.le_refl _), tw_2_31, rfl, rfl, rfl⟩
theorem fl_SW_336 : p_Fl "SortWorks" 336 6 8 .int false := ⟨(RX6, TX6, 9), cl_6, Nat.lt_of_lt_of_le (by decide) (Nat.le_refl _), tw_2_95, rfl, rfl, rfl⟩
theorem fl_SW_339 : p_Fl "SortWorks" 339 6 7 (.array .int) true := ⟨(RX6, TX6, 9), cl_6, Nat.lt_of_lt_of_le (by decide) (Nat.le_refl _), tw_2_92, rfl, rfl, rfl⟩
theorem fl_SW_342 : p_Fl "SortWorks" 342 7 7 (.object "SortWorks$Log") true := ⟨(RX7, TX7, 10), cl_7, Nat.lt_of_lt_of_le (by decide) (Nat.le_refl _), tw_2_34, rfl, rfl, rfl⟩
theorem fl_SW_345 : p_Fl "SortWorks" 345 9 11 .int false := ⟨(RX9, TX9, 15), cl_9, Nat.lt_of_lt_of_le (by decide) (Nat.le_refl _), tw_2_149, rfl, rfl, rfl⟩
theorem fl_SW_348 : p_Fl "SortWorks" 348 9 10 (.array .int) true := ⟨(RX9, TX9, 15), cl_9, Nat.lt_of_lt_of_le (by decide) (Nat.le_refl _), tw_2_146, rfl, rfl, rfl⟩
theorem fl_SW_357 : p_Fl "SortWorks" 357 9 14 (.array .int) true := ⟨(RX9, TX9, 15), cl_9, Nat.lt_of_lt_of_le (by decide) (Nat.le_refl _), tw_2_154, rfl, rfl, rfl⟩
theorem fl_SW_361 : p_Fl "SortWorks" 361 7 2 .int false := ⟨(RX7, TX7, 10), cl_7, Nat.lt_of_lt_of_le (by decide) (Nat.le_refl _), tw_2_17, rfl, rfl, rfl⟩
theorem fl_SW_364 : p_Fl "SortWorks" 364 7 1 .int false := ⟨(RX7, TX7, 10), cl_7, Nat.lt_of_lt_of_le (by decide) (Nat.le_refl _), tw_2_14, rfl, rfl, rfl⟩
theorem fl_SW_365 : p_Fl "SortWorks" 365 2 3 .int false := ⟨(RX2, TX2, 6), cl_2, Nat.lt_of_lt_of_le (by decide) (Nat.le_refl _), tw_1_53, rfl, rfl, rfl⟩
theorem fl_SW_378 : p_Fl "SortWorks" 378 4 2 .int false := ⟨(RX4, TX4, 14), cl_4, Nat.lt_of_lt_of_le (by decide) (Nat.le_refl _), tw_1_189, rfl, rfl, rfl⟩
theorem fl_SW_381 : p_Fl "SortWorks" 381 4 3 .int false := ⟨(RX4, TX4, 14), cl_4, Nat.lt_of_lt_of_le (by decide) (Nat.le_refl _), tw_1_192, rfl, rfl, rfl⟩
theorem fl_Gear_9 : p_Fl "SortWorks$Gear" 9 0 3 .int false := ⟨(RX0, TX0, 20), cl_0, Nat.lt_of_lt_of_le (by decide) (Nat.le_refl _), tw_1_87, rfl, rfl, rfl⟩
theorem fl_Gear_15 : p_Fl "SortWorks$Gear" 15 0 4 (.array .int) true := ⟨(RX0, TX0, 20), cl_0, Nat.lt_of_lt_of_le (by decide) (Nat.le_refl _), tw_1_91, rfl, rfl, rfl⟩
theorem fl_Gear_19 : p_Fl "SortWorks$Gear" 19 0 5 (.array .long) true := ⟨(RX0, TX0, 20), cl_0, Nat.lt_of_lt_of_le (by decide) (Nat.le_refl _), tw_1_94, rfl, rfl, rfl⟩
theorem fl_Gear_23 : p_Fl "SortWorks$Gear" 23 0 15 .int false := ⟨(RX0, TX0, 20), cl_0, Nat.lt_of_lt_of_le (by decide) (Nat.le_refl _), tw_1_121, rfl, rfl, rfl⟩
theorem fl_Gear_26 : p_Fl "SortWorks$Gear" 26 0 17 (.array .int) true := ⟨(RX0, TX0, 20), cl_0, Nat.lt_of_lt_of_le (by decide) (Nat.le_refl _), tw_1_125, rfl, rfl, rfl⟩
theorem fl_Gear_29 : p_Fl "SortWorks$Gear" 29 0 18 (.array .int) true := ⟨(RX0, TX0, 20), cl_0, Nat.lt_of_lt_of_le (by decide) (Nat.le_refl _), tw_1_128, rfl, rfl, rfl⟩
theorem fl_Gear_32 : p_Fl "SortWorks$Gear" 32 0 19 .int false := ⟨(RX0, TX0, 20), cl_0, Nat.lt_of_lt_of_le (by decide) (Nat.le_refl _), tw_1_129, rfl, rfl, rfl⟩
theorem fl_Gear_35 : p_Fl "SortWorks$Gear" 35 0 0 .int false := ⟨(RX0, TX0, 20), cl_0, Nat.lt_of_lt_of_le (by decide) (Nat.le_refl _), tw_1_75, rfl, rfl, rfl⟩
theorem fl_Gear_41 : p_Fl "SortWorks$Gear" 41 0 2 .int false := ⟨(RX0, TX0, 20), cl_0, Nat.lt_of_lt_of_le (by decide) (Nat.le_refl _), tw_1_84, rfl, rfl, rfl⟩
theorem fl_Gear_50 : p_Fl "SortWorks$Gear" 50 0 6 .int false := ⟨(RX0, TX0, 20), cl_0, Nat.lt_of_lt_of_le (by decide) (Nat.le_refl _), tw_1_95, rfl, rfl, rfl⟩
theorem fl_Gear_53 : p_Fl "SortWorks$Gear" 53 0 7 .boolean false := ⟨(RX0, TX0, 20), cl_0, Nat.lt_of_lt_of_le (by decide) (Nat.le_refl _), tw_1_98, rfl, rfl, rfl⟩
theorem fl_Gear_57 : p_Fl "SortWorks$Gear" 57 0 8 .int false := ⟨(RX0, TX0, 20), cl_0, Nat.lt_of_lt_of_le (by decide) (Nat.le_refl _), tw_1_101, rfl, rfl, rfl⟩
theorem fl_Gear_60 : p_Fl "SortWorks$Gear" 60 0 9 .int false := ⟨(RX0, TX0, 20), cl_0, Nat.lt_of_lt_of_le (by decide) (Nat.le_refl _), tw_1_104, rfl, rfl, rfl⟩
theorem fl_Gear_63 : p_Fl "SortWorks$Gear" 63 0 10 .int false := ⟨(RX0, TX0, 20), cl_0, Nat.lt_of_lt_of_le (by decide) (Nat.le_refl _), tw_1_106, rfl, rfl, rfl⟩
theorem fl_Gear_66 : p_Fl "SortWorks$Gear" 66 0 11 .int false := ⟨(RX0, TX0, 20), cl_0, Nat.lt_of_lt_of_le (by decide) (Nat.le_refl _), tw_1_110, rfl, rfl, rfl⟩
theorem fl_Gear_69 : p_Fl "SortWorks$Gear" 69 0 12 .int false := ⟨(RX0, TX0, 20), cl_0, Nat.lt_of_lt_of_le (by decide) (Nat.le_refl _), tw_1_114, rfl, rfl, rfl⟩
theorem fl_Gear_72 : p_Fl "SortWorks$Gear" 72 0 13 .int false := ⟨(RX0, TX0, 20), cl_0, Nat.lt_of_lt_of_le (by decide) (Nat.le_refl _), tw_1_116, rfl, rfl, rfl⟩
theorem fl_Gear_75 : p_Fl "SortWorks$Gear" 75 0 14 .int false := ⟨(RX0, TX0, 20), cl_0, Nat.lt_of_lt_of_le (by decide) (Nat.le_refl _), tw_1_118, rfl, rfl, rfl⟩
theorem fl_Gear_78 : p_Fl "SortWorks$Gear" 78 0 16 .int false := ⟨(RX0, TX0, 20), cl_0, Nat.lt_of_lt_of_le (by decide) (Nat.le_refl _), tw_1_123, rfl, rfl, rfl⟩
theorem fl_Gear_85 : p_Fl "SortWorks$Gear" 85 0 1 .int false := ⟨(RX0, TX0, 20), cl_0, Nat.lt_of_lt_of_le (by decide) (Nat.le_refl _), tw_1_79, rfl, rfl, rfl⟩
theorem fl_Judge_12 : p_Fl "SortWorks$Judge" 12 1 0 (.object "SortWorks$Rules") true := ⟨(RX1, TX1, 4), cl_1, Nat.lt_of_lt_of_le (by decide) (Nat.le_refl _), tw_3_18, rfl, rfl, rfl⟩
theorem fl_Judge_18 : p_Fl "SortWorks$Judge" 18 1 1 (.array .int) false := ⟨(RX1, TX1, 4), cl_1, Nat.lt_of_lt_of_le (by decide) (Nat.le_refl _), tw_3_20, rfl, rfl, rfl⟩
theorem fl_Judge_22 : p_Fl "SortWorks$Judge" 22 1 2 .int false := ⟨(RX1, TX1, 4), cl_1, Nat.lt_of_lt_of_le (by decide) (Nat.le_refl _), tw_3_21, rfl, rfl, rfl⟩
theorem fl_Judge_26 : p_Fl "SortWorks$Judge" 26 1 3 .int false := ⟨(RX1, TX1, 4), cl_1, Nat.lt_of_lt_of_le (by decide) (Nat.le_refl _), tw_3_22, rfl, rfl, rfl⟩
theorem fl_Judge_29 : p_Fl "SortWorks$Judge" 29 6 8 .int false := ⟨(RX6, TX6, 9), cl_6, Nat.lt_of_lt_of_le (by decide) (Nat.le_refl _), tw_2_93, rfl, rfl, rfl⟩
theorem fl_Judge_36 : p_Fl "SortWorks$Judge" 36 6 0 .int false := ⟨(RX6, TX6, 9), cl_6, Nat.lt_of_lt_of_le (by decide) (Nat.le_refl _), tw_2_67, rfl, rfl, rfl⟩
theorem fl_Judge_39 : p_Fl "SortWorks$Judge" 39 6 2 (.array .int) true := ⟨(RX6, TX6, 9), cl_6, Nat.lt_of_lt_of_le (by decide) (Nat.le_refl _), tw_2_75, rfl, rfl, rfl⟩
theorem fl_Judge_58 : p_Fl "SortWorks$Judge" 58 6 3 (.array .int) true := ⟨(RX6, TX6, 9), cl_6, Nat.lt_of_lt_of_le (by decide) (Nat.le_refl _), tw_2_79, rfl, rfl, rfl⟩
theorem fl_Judge_61 : p_Fl "SortWorks$Judge" 61 6 4 (.array .int) true := ⟨(RX6, TX6, 9), cl_6, Nat.lt_of_lt_of_le (by decide) (Nat.le_refl _), tw_2_82, rfl, rfl, rfl⟩
theorem fl_Judge_67 : p_Fl "SortWorks$Judge" 67 6 5 (.array .int) true := ⟨(RX6, TX6, 9), cl_6, Nat.lt_of_lt_of_le (by decide) (Nat.le_refl _), tw_2_85, rfl, rfl, rfl⟩
theorem fl_Judge_70 : p_Fl "SortWorks$Judge" 70 6 6 (.array .int) true := ⟨(RX6, TX6, 9), cl_6, Nat.lt_of_lt_of_le (by decide) (Nat.le_refl _), tw_2_88, rfl, rfl, rfl⟩
theorem fl_Judge_73 : p_Fl "SortWorks$Judge" 73 6 1 (.array .int) true := ⟨(RX6, TX6, 9), cl_6, Nat.lt_of_lt_of_le (by decide) (Nat.le_refl _), tw_2_71, rfl, rfl, rfl⟩
theorem fl_Judge_76 : p_Fl "SortWorks$Judge" 76 6 7 (.array .int) true := ⟨(RX6, TX6, 9), cl_6, Nat.lt_of_lt_of_le (by decide) (Nat.le_refl _), tw_2_91, rfl, rfl, rfl⟩
theorem fl_Log_9 : p_Fl "SortWorks$Log" 9 2 5 (.array .int) true := ⟨(RX2, TX2, 6), cl_2, Nat.lt_of_lt_of_le (by decide) (Nat.le_refl _), tw_1_55, rfl, rfl, rfl⟩
theorem fl_Log_15 : p_Fl "SortWorks$Log" 15 2 0 .int true := ⟨(RX2, TX2, 6), cl_2, Nat.lt_of_lt_of_le (by decide) (Nat.le_refl _), tw_1_48, rfl, rfl, rfl⟩
theorem fl_Log_19 : p_Fl "SortWorks$Log" 19 2 1 .int true := ⟨(RX2, TX2, 6), cl_2, Nat.lt_of_lt_of_le (by decide) (Nat.le_refl _), tw_1_49, rfl, rfl, rfl⟩
theorem fl_Log_22 : p_Fl "SortWorks$Log" 22 2 2 (.array .int) true := ⟨(RX2, TX2, 6), cl_2, Nat.lt_of_lt_of_le (by decide) (Nat.le_refl _), tw_1_50, rfl, rfl, rfl⟩
theorem fl_Log_25 : p_Fl "SortWorks$Log" 25 2 4 (.array .int) true := ⟨(RX2, TX2, 6), cl_2, Nat.lt_of_lt_of_le (by decide) (Nat.le_refl _), tw_1_54, rfl, rfl, rfl⟩
theorem fl_Log_28 : p_Fl "SortWorks$Log" 28 2 3 .int false := ⟨(RX2, TX2, 6), cl_2, Nat.lt_of_lt_of_le (by decide) (Nat.le_refl _), tw_1_51, rfl, rfl, rfl⟩
theorem fl_Numbers_9 : p_Fl "SortWorks$Numbers" 9 3 0 (.array .int) true := ⟨(RX3, TX3, 2), cl_3, Nat.lt_of_lt_of_le (by decide) (Nat.le_refl _), tw_2_192, rfl, rfl, rfl⟩
theorem fl_Numbers_15 : p_Fl "SortWorks$Numbers" 15 3 1 .int false := ⟨(RX3, TX3, 2), cl_3, Nat.lt_of_lt_of_le (by decide) (Nat.le_refl _), tw_2_194, rfl, rfl, rfl⟩
theorem fl_Numbers_23 : p_Fl "SortWorks$Numbers" 23 7 3 .int false := ⟨(RX7, TX7, 10), cl_7, Nat.lt_of_lt_of_le (by decide) (Nat.le_refl _), tw_2_19, rfl, rfl, rfl⟩
theorem fl_Numbers_26 : p_Fl "SortWorks$Numbers" 26 7 5 (.array (.object "SortWorks$Parcel")) true := ⟨(RX7, TX7, 10), cl_7, Nat.lt_of_lt_of_le (by decide) (Nat.le_refl _), tw_2_27, rfl, rfl, rfl⟩
theorem fl_Numbers_30 : p_Fl "SortWorks$Numbers" 30 4 1 .int false := ⟨(RX4, TX4, 14), cl_4, Nat.lt_of_lt_of_le (by decide) (Nat.le_refl _), tw_1_183, rfl, rfl, rfl⟩
theorem fl_Parcel_11 : p_Fl "SortWorks$Parcel" 11 4 10 (.array .int) true := ⟨(RX4, TX4, 14), cl_4, Nat.lt_of_lt_of_le (by decide) (Nat.le_refl _), tw_1_210, rfl, rfl, rfl⟩
theorem fl_Parcel_15 : p_Fl "SortWorks$Parcel" 15 4 12 (.array .int) true := ⟨(RX4, TX4, 14), cl_4, Nat.lt_of_lt_of_le (by decide) (Nat.le_refl _), tw_1_217, rfl, rfl, rfl⟩
theorem fl_Parcel_18 : p_Fl "SortWorks$Parcel" 18 4 13 (.array .int) true := ⟨(RX4, TX4, 14), cl_4, Nat.lt_of_lt_of_le (by decide) (Nat.le_refl _), tw_1_220, rfl, rfl, rfl⟩
theorem fl_Parcel_21 : p_Fl "SortWorks$Parcel" 21 4 0 .int true := ⟨(RX4, TX4, 14), cl_4, Nat.lt_of_lt_of_le (by decide) (Nat.le_refl _), tw_1_178, rfl, rfl, rfl⟩
theorem fl_Parcel_25 : p_Fl "SortWorks$Parcel" 25 4 1 .int false := ⟨(RX4, TX4, 14), cl_4, Nat.lt_of_lt_of_le (by decide) (Nat.le_refl _), tw_1_181, rfl, rfl, rfl⟩
theorem fl_Parcel_28 : p_Fl "SortWorks$Parcel" 28 4 2 .int false := ⟨(RX4, TX4, 14), cl_4, Nat.lt_of_lt_of_le (by decide) (Nat.le_refl _), tw_1_186, rfl, rfl, rfl⟩
theorem fl_Parcel_31 : p_Fl "SortWorks$Parcel" 31 4 3 .int false := ⟨(RX4, TX4, 14), cl_4, Nat.lt_of_lt_of_le (by decide) (Nat.le_refl _), tw_1_190, rfl, rfl, rfl⟩
theorem fl_Parcel_34 : p_Fl "SortWorks$Parcel" 34 4 4 .int false := ⟨(RX4, TX4, 14), cl_4, Nat.lt_of_lt_of_le (by decide) (Nat.le_refl _), tw_1_193, rfl, rfl, rfl⟩
theorem fl_Parcel_37 : p_Fl "SortWorks$Parcel" 37 4 5 .int false := ⟨(RX4, TX4, 14), cl_4, Nat.lt_of_lt_of_le (by decide) (Nat.le_refl _), tw_1_197, rfl, rfl, rfl⟩
theorem fl_Parcel_40 : p_Fl "SortWorks$Parcel" 40 4 6 .int false := ⟨(RX4, TX4, 14), cl_4, Nat.lt_of_lt_of_le (by decide) (Nat.le_refl _), tw_1_200, rfl, rfl, rfl⟩
theorem fl_Parcel_43 : p_Fl "SortWorks$Parcel" 43 4 7 .boolean false := ⟨(RX4, TX4, 14), cl_4, Nat.lt_of_lt_of_le (by decide) (Nat.le_refl _), tw_1_203, rfl, rfl, rfl⟩
theorem fl_Parcel_47 : p_Fl "SortWorks$Parcel" 47 4 9 .int false := ⟨(RX4, TX4, 14), cl_4, Nat.lt_of_lt_of_le (by decide) (Nat.le_refl _), tw_1_207, rfl, rfl, rfl⟩
theorem fl_Parcel_50 : p_Fl "SortWorks$Parcel" 50 4 11 .int false := ⟨(RX4, TX4, 14), cl_4, Nat.lt_of_lt_of_le (by decide) (Nat.le_refl _), tw_1_214, rfl, rfl, rfl⟩
theorem fl_Reading_9 : p_Fl "SortWorks$Reading" 9 5 4 (.array .int) true := ⟨(RX5, TX5, 5), cl_5, Nat.lt_of_lt_of_le (by decide) (Nat.le_refl _), tw_2_222, rfl, rfl, rfl⟩
theorem fl_Reading_15 : p_Fl "SortWorks$Reading" 15 4 11 .int false := ⟨(RX4, TX4, 14), cl_4, Nat.lt_of_lt_of_le (by decide) (Nat.le_refl _), tw_1_213, rfl, rfl, rfl⟩
theorem fl_Reading_21 : p_Fl "SortWorks$Reading" 21 4 12 (.array .int) true := ⟨(RX4, TX4, 14), cl_4, Nat.lt_of_lt_of_le (by decide) (Nat.le_refl _), tw_1_218, rfl, rfl, rfl⟩
theorem fl_Reading_31 : p_Fl "SortWorks$Reading" 31 5 0 .boolean false := ⟨(RX5, TX5, 5), cl_5, Nat.lt_of_lt_of_le (by decide) (Nat.le_refl _), tw_2_214, rfl, rfl, rfl⟩
theorem fl_Reading_35 : p_Fl "SortWorks$Reading" 35 5 1 .int false := ⟨(RX5, TX5, 5), cl_5, Nat.lt_of_lt_of_le (by decide) (Nat.le_refl _), tw_2_216, rfl, rfl, rfl⟩
theorem fl_Reading_38 : p_Fl "SortWorks$Reading" 38 5 2 .int false := ⟨(RX5, TX5, 5), cl_5, Nat.lt_of_lt_of_le (by decide) (Nat.le_refl _), tw_2_218, rfl, rfl, rfl⟩
theorem fl_Reading_41 : p_Fl "SortWorks$Reading" 41 5 3 .int false := ⟨(RX5, TX5, 5), cl_5, Nat.lt_of_lt_of_le (by decide) (Nat.le_refl _), tw_2_220, rfl, rfl, rfl⟩
theorem fl_Rules_9 : p_Fl "SortWorks$Rules" 9 6 1 (.array .int) true := ⟨(RX6, TX6, 9), cl_6, Nat.lt_of_lt_of_le (by decide) (Nat.le_refl _), tw_2_70, rfl, rfl, rfl⟩
theorem fl_Rules_15 : p_Fl "SortWorks$Rules" 15 6 2 (.array .int) true := ⟨(RX6, TX6, 9), cl_6, Nat.lt_of_lt_of_le (by decide) (Nat.le_refl _), tw_2_74, rfl, rfl, rfl⟩
theorem fl_Rules_18 : p_Fl "SortWorks$Rules" 18 6 3 (.array .int) true := ⟨(RX6, TX6, 9), cl_6, Nat.lt_of_lt_of_le (by decide) (Nat.le_refl _), tw_2_78, rfl, rfl, rfl⟩
theorem fl_Rules_21 : p_Fl "SortWorks$Rules" 21 6 4 (.array .int) true := ⟨(RX6, TX6, 9), cl_6, Nat.lt_of_lt_of_le (by decide) (Nat.le_refl _), tw_2_81, rfl, rfl, rfl⟩
theorem fl_Rules_24 : p_Fl "SortWorks$Rules" 24 6 5 (.array .int) true := ⟨(RX6, TX6, 9), cl_6, Nat.lt_of_lt_of_le (by decide) (Nat.le_refl _), tw_2_84, rfl, rfl, rfl⟩
theorem fl_Rules_27 : p_Fl "SortWorks$Rules" 27 6 6 (.array .int) true := ⟨(RX6, TX6, 9), cl_6, Nat.lt_of_lt_of_le (by decide) (Nat.le_refl _), tw_2_87, rfl, rfl, rfl⟩
theorem fl_Rules_30 : p_Fl "SortWorks$Rules" 30 6 7 (.array .int) true := ⟨(RX6, TX6, 9), cl_6, Nat.lt_of_lt_of_le (by decide) (Nat.le_refl _), tw_2_90, rfl, rfl, rfl⟩
theorem fl_Rules_33 : p_Fl "SortWorks$Rules" 33 6 0 .int false := ⟨(RX6, TX6, 9), cl_6, Nat.lt_of_lt_of_le (by decide) (Nat.le_refl _), tw_2_66, rfl, rfl, rfl⟩
theorem fl_Rules_43 : p_Fl "SortWorks$Rules" 43 6 8 .int false := ⟨(RX6, TX6, 9), cl_6, Nat.lt_of_lt_of_le (by decide) (Nat.le_refl _), tw_2_94, rfl, rfl, rfl⟩
theorem fl_State_13 : p_Fl "SortWorks$State" 13 7 4 (.array (.object "SortWorks$Gear")) true := ⟨(RX7, TX7, 10), cl_7, Nat.lt_of_lt_of_le (by decide) (Nat.le_refl _), tw_2_21, rfl, rfl, rfl⟩
theorem fl_State_19 : p_Fl "SortWorks$State" 19 7 5 (.array (.object "SortWorks$Parcel")) true := ⟨(RX7, TX7, 10), cl_7, Nat.lt_of_lt_of_le (by decide) (Nat.le_refl _), tw_2_25, rfl, rfl, rfl⟩
theorem fl_State_23 : p_Fl "SortWorks$State" 23 7 6 (.array .int) true := ⟨(RX7, TX7, 10), cl_7, Nat.lt_of_lt_of_le (by decide) (Nat.le_refl _), tw_2_28, rfl, rfl, rfl⟩
theorem fl_State_32 : p_Fl "SortWorks$State" 32 7 7 (.object "SortWorks$Log") true := ⟨(RX7, TX7, 10), cl_7, Nat.lt_of_lt_of_le (by decide) (Nat.le_refl _), tw_2_32, rfl, rfl, rfl⟩
theorem fl_State_36 : p_Fl "SortWorks$State" 36 7 8 (.object "SortWorks$Log") true := ⟨(RX7, TX7, 10), cl_7, Nat.lt_of_lt_of_le (by decide) (Nat.le_refl _), tw_2_35, rfl, rfl, rfl⟩
theorem fl_State_39 : p_Fl "SortWorks$State" 39 7 9 (.array .int) true := ⟨(RX7, TX7, 10), cl_7, Nat.lt_of_lt_of_le (by decide) (Nat.le_refl _), tw_2_38, rfl, rfl, rfl⟩
theorem fl_State_46 : p_Fl "SortWorks$State" 46 7 0 .int false := ⟨(RX7, TX7, 10), cl_7, Nat.lt_of_lt_of_le (by decide) (Nat.le_refl _), tw_2_10, rfl, rfl, rfl⟩
theorem fl_State_50 : p_Fl "SortWorks$State" 50 7 1 .int false := ⟨(RX7, TX7, 10), cl_7, Nat.lt_of_lt_of_le (by decide) (Nat.le_refl _), tw_2_13, rfl, rfl, rfl⟩
theorem fl_State_53 : p_Fl "SortWorks$State" 53 7 2 .int false := ⟨(RX7, TX7, 10), cl_7, Nat.lt_of_lt_of_le (by decide) (Nat.le_refl _), tw_2_15, rfl, rfl, rfl⟩
theorem fl_State_56 : p_Fl "SortWorks$State" 56 7 3 .int false := ⟨(RX7, TX7, 10), cl_7, Nat.lt_of_lt_of_le (by decide) (Nat.le_refl _), tw_2_18, rfl, rfl, rfl⟩
theorem fl_State_74 : p_Fl "SortWorks$State" 74 4 1 .int false := ⟨(RX4, TX4, 14), cl_4, Nat.lt_of_lt_of_le (by decide) (Nat.le_refl _), tw_1_182, rfl, rfl, rfl⟩
theorem fl_State_77 : p_Fl "SortWorks$State" 77 4 5 .int false := ⟨(RX4, TX4, 14), cl_4, Nat.lt_of_lt_of_le (by decide) (Nat.le_refl _), tw_1_198, rfl, rfl, rfl⟩
theorem fl_State_79 : p_Fl "SortWorks$State" 79 0 17 (.array .int) true := ⟨(RX0, TX0, 20), cl_0, Nat.lt_of_lt_of_le (by decide) (Nat.le_refl _), tw_1_126, rfl, rfl, rfl⟩
theorem fl_State_82 : p_Fl "SortWorks$State" 82 4 6 .int false := ⟨(RX4, TX4, 14), cl_4, Nat.lt_of_lt_of_le (by decide) (Nat.le_refl _), tw_1_201, rfl, rfl, rfl⟩
theorem fl_State_86 : p_Fl "SortWorks$State" 86 0 1 .int false := ⟨(RX0, TX0, 20), cl_0, Nat.lt_of_lt_of_le (by decide) (Nat.le_refl _), tw_1_81, rfl, rfl, rfl⟩
theorem fl_State_93 : p_Fl "SortWorks$State" 93 4 2 .int false := ⟨(RX4, TX4, 14), cl_4, Nat.lt_of_lt_of_le (by decide) (Nat.le_refl _), tw_1_187, rfl, rfl, rfl⟩
theorem fl_State_96 : p_Fl "SortWorks$State" 96 4 3 .int false := ⟨(RX4, TX4, 14), cl_4, Nat.lt_of_lt_of_le (by decide) (Nat.le_refl _), tw_1_191, rfl, rfl, rfl⟩
theorem fl_State_99 : p_Fl "SortWorks$State" 99 4 4 .int false := ⟨(RX4, TX4, 14), cl_4, Nat.lt_of_lt_of_le (by decide) (Nat.le_refl _), tw_1_194, rfl, rfl, rfl⟩
theorem fl_State_102 : p_Fl "SortWorks$State" 102 4 9 .int false := ⟨(RX4, TX4, 14), cl_4, Nat.lt_of_lt_of_le (by decide) (Nat.le_refl _), tw_1_208, rfl, rfl, rfl⟩
theorem fl_State_105 : p_Fl "SortWorks$State" 105 4 11 .int false := ⟨(RX4, TX4, 14), cl_4, Nat.lt_of_lt_of_le (by decide) (Nat.le_refl _), tw_1_215, rfl, rfl, rfl⟩
theorem fl_State_116 : p_Fl "SortWorks$State" 116 0 11 .int false := ⟨(RX0, TX0, 20), cl_0, Nat.lt_of_lt_of_le (by decide) (Nat.le_refl _), tw_1_111, rfl, rfl, rfl⟩
theorem fl_State_119 : p_Fl "SortWorks$State" 119 4 0 .int true := ⟨(RX4, TX4, 14), cl_4, Nat.lt_of_lt_of_le (by decide) (Nat.le_refl _), tw_1_179, rfl, rfl, rfl⟩
theorem fl_State_122 : p_Fl "SortWorks$State" 122 0 10 .int false := ⟨(RX0, TX0, 20), cl_0, Nat.lt_of_lt_of_le (by decide) (Nat.le_refl _), tw_1_107, rfl, rfl, rfl⟩
theorem fl_State_123 : p_Fl "SortWorks$State" 123 4 7 .boolean false := ⟨(RX4, TX4, 14), cl_4, Nat.lt_of_lt_of_le (by decide) (Nat.le_refl _), tw_1_204, rfl, rfl, rfl⟩
theorem fl_State_127 : p_Fl "SortWorks$State" 127 4 10 (.array .int) true := ⟨(RX4, TX4, 14), cl_4, Nat.lt_of_lt_of_le (by decide) (Nat.le_refl _), tw_1_211, rfl, rfl, rfl⟩
theorem fl_Step_12 : p_Fl "SortWorks$Step" 12 8 0 (.object "SortWorks$Reading") true := ⟨(RX8, TX8, 5), cl_8, Nat.lt_of_lt_of_le (by decide) (Nat.le_refl _), tw_2_234, rfl, rfl, rfl⟩
theorem fl_Step_18 : p_Fl "SortWorks$Step" 18 8 2 (.object "SortWorks$Works") false := ⟨(RX8, TX8, 5), cl_8, Nat.lt_of_lt_of_le (by decide) (Nat.le_refl _), tw_2_236, rfl, rfl, rfl⟩
theorem fl_Step_22 : p_Fl "SortWorks$Step" 22 9 1 (.object "SortWorks$State") true := ⟨(RX9, TX9, 15), cl_9, Nat.lt_of_lt_of_le (by decide) (Nat.le_refl _), tw_2_121, rfl, rfl, rfl⟩
theorem fl_Step_28 : p_Fl "SortWorks$Step" 28 8 3 (.object "SortWorks$State") false := ⟨(RX8, TX8, 5), cl_8, Nat.lt_of_lt_of_le (by decide) (Nat.le_refl _), tw_2_237, rfl, rfl, rfl⟩
theorem fl_Step_29 : p_Fl "SortWorks$Step" 29 8 1 (.object "SortWorks$Numbers") false := ⟨(RX8, TX8, 5), cl_8, Nat.lt_of_lt_of_le (by decide) (Nat.le_refl _), tw_2_235, rfl, rfl, rfl⟩
theorem fl_Step_33 : p_Fl "SortWorks$Step" 33 7 7 (.object "SortWorks$Log") true := ⟨(RX7, TX7, 10), cl_7, Nat.lt_of_lt_of_le (by decide) (Nat.le_refl _), tw_2_33, rfl, rfl, rfl⟩
theorem fl_Step_39 : p_Fl "SortWorks$Step" 39 2 3 .int false := ⟨(RX2, TX2, 6), cl_2, Nat.lt_of_lt_of_le (by decide) (Nat.le_refl _), tw_1_52, rfl, rfl, rfl⟩
theorem fl_Step_45 : p_Fl "SortWorks$Step" 45 3 1 .int false := ⟨(RX3, TX3, 2), cl_3, Nat.lt_of_lt_of_le (by decide) (Nat.le_refl _), tw_2_195, rfl, rfl, rfl⟩
theorem fl_Step_54 : p_Fl "SortWorks$Step" 54 7 0 .int false := ⟨(RX7, TX7, 10), cl_7, Nat.lt_of_lt_of_le (by decide) (Nat.le_refl _), tw_2_11, rfl, rfl, rfl⟩
theorem fl_Step_57 : p_Fl "SortWorks$Step" 57 9 11 .int false := ⟨(RX9, TX9, 15), cl_9, Nat.lt_of_lt_of_le (by decide) (Nat.le_refl _), tw_2_147, rfl, rfl, rfl⟩
theorem fl_Step_60 : p_Fl "SortWorks$Step" 60 7 5 (.array (.object "SortWorks$Parcel")) true := ⟨(RX7, TX7, 10), cl_7, Nat.lt_of_lt_of_le (by decide) (Nat.le_refl _), tw_2_26, rfl, rfl, rfl⟩
theorem fl_Step_64 : p_Fl "SortWorks$Step" 64 4 8 .boolean false := ⟨(RX4, TX4, 14), cl_4, Nat.lt_of_lt_of_le (by decide) (Nat.le_refl _), tw_1_206, rfl, rfl, rfl⟩
theorem fl_Step_70 : p_Fl "SortWorks$Step" 70 9 6 .int false := ⟨(RX9, TX9, 15), cl_9, Nat.lt_of_lt_of_le (by decide) (Nat.le_refl _), tw_2_135, rfl, rfl, rfl⟩
theorem fl_Step_79 : p_Fl "SortWorks$Step" 79 9 2 .int false := ⟨(RX9, TX9, 15), cl_9, Nat.lt_of_lt_of_le (by decide) (Nat.le_refl _), tw_2_124, rfl, rfl, rfl⟩
theorem fl_Step_82 : p_Fl "SortWorks$Step" 82 7 4 (.array (.object "SortWorks$Gear")) true := ⟨(RX7, TX7, 10), cl_7, Nat.lt_of_lt_of_le (by decide) (Nat.le_refl _), tw_2_23, rfl, rfl, rfl⟩
theorem fl_Step_97 : p_Fl "SortWorks$Step" 97 0 0 .int false := ⟨(RX0, TX0, 20), cl_0, Nat.lt_of_lt_of_le (by decide) (Nat.le_refl _), tw_1_76, rfl, rfl, rfl⟩
theorem fl_Step_106 : p_Fl "SortWorks$Step" 106 8 4 .boolean false := ⟨(RX8, TX8, 5), cl_8, Nat.lt_of_lt_of_le (by decide) (Nat.le_refl _), tw_2_238, rfl, rfl, rfl⟩
theorem fl_Step_109 : p_Fl "SortWorks$Step" 109 0 12 .int false := ⟨(RX0, TX0, 20), cl_0, Nat.lt_of_lt_of_le (by decide) (Nat.le_refl _), tw_1_115, rfl, rfl, rfl⟩
theorem fl_Step_111 : p_Fl "SortWorks$Step" 111 9 10 (.array .int) true := ⟨(RX9, TX9, 15), cl_9, Nat.lt_of_lt_of_le (by decide) (Nat.le_refl _), tw_2_145, rfl, rfl, rfl⟩
theorem fl_Step_114 : p_Fl "SortWorks$Step" 114 9 4 (.array (.array .int)) true := ⟨(RX9, TX9, 15), cl_9, Nat.lt_of_lt_of_le (by decide) (Nat.le_refl _), tw_2_130, rfl, rfl, rfl⟩
theorem fl_Step_118 : p_Fl "SortWorks$Step" 118 9 5 (.array .int) true := ⟨(RX9, TX9, 15), cl_9, Nat.lt_of_lt_of_le (by decide) (Nat.le_refl _), tw_2_133, rfl, rfl, rfl⟩
theorem fl_Step_145 : p_Fl "SortWorks$Step" 145 0 7 .boolean false := ⟨(RX0, TX0, 20), cl_0, Nat.lt_of_lt_of_le (by decide) (Nat.le_refl _), tw_1_99, rfl, rfl, rfl⟩
theorem fl_Step_155 : p_Fl "SortWorks$Step" 155 0 6 .int false := ⟨(RX0, TX0, 20), cl_0, Nat.lt_of_lt_of_le (by decide) (Nat.le_refl _), tw_1_96, rfl, rfl, rfl⟩
theorem fl_Step_158 : p_Fl "SortWorks$Step" 158 0 14 .int false := ⟨(RX0, TX0, 20), cl_0, Nat.lt_of_lt_of_le (by decide) (Nat.le_refl _), tw_1_119, rfl, rfl, rfl⟩
theorem fl_Step_161 : p_Fl "SortWorks$Step" 161 0 19 .int false := ⟨(RX0, TX0, 20), cl_0, Nat.lt_of_lt_of_le (by decide) (Nat.le_refl _), tw_1_130, rfl, rfl, rfl⟩
theorem fl_Step_188 : p_Fl "SortWorks$Step" 188 0 2 .int false := ⟨(RX0, TX0, 20), cl_0, Nat.lt_of_lt_of_le (by decide) (Nat.le_refl _), tw_1_86, rfl, rfl, rfl⟩
theorem fl_Step_191 : p_Fl "SortWorks$Step" 191 0 15 .int false := ⟨(RX0, TX0, 20), cl_0, Nat.lt_of_lt_of_le (by decide) (Nat.le_refl _), tw_1_122, rfl, rfl, rfl⟩
theorem fl_Step_218 : p_Fl "SortWorks$Step" 218 0 13 .int false := ⟨(RX0, TX0, 20), cl_0, Nat.lt_of_lt_of_le (by decide) (Nat.le_refl _), tw_1_117, rfl, rfl, rfl⟩
theorem fl_Step_225 : p_Fl "SortWorks$Step" 225 0 9 .int false := ⟨(RX0, TX0, 20), cl_0, Nat.lt_of_lt_of_le (by decide) (Nat.le_refl _), tw_1_105, rfl, rfl, rfl⟩
theorem fl_Step_228 : p_Fl "SortWorks$Step" 228 0 8 .int false := ⟨(RX0, TX0, 20), cl_0, Nat.lt_of_lt_of_le (by decide) (Nat.le_refl _), tw_1_102, rfl, rfl, rfl⟩
theorem fl_Step_231 : p_Fl "SortWorks$Step" 231 0 1 .int false := ⟨(RX0, TX0, 20), cl_0, Nat.lt_of_lt_of_le (by decide) (Nat.le_refl _), tw_1_83, rfl, rfl, rfl⟩
theorem fl_Step_238 : p_Fl "SortWorks$Step" 238 0 17 (.array .int) true := ⟨(RX0, TX0, 20), cl_0, Nat.lt_of_lt_of_le (by decide) (Nat.le_refl _), tw_1_127, rfl, rfl, rfl⟩
theorem fl_Step_241 : p_Fl "SortWorks$Step" 241 4 0 .int true := ⟨(RX4, TX4, 14), cl_4, Nat.lt_of_lt_of_le (by decide) (Nat.le_refl _), tw_1_180, rfl, rfl, rfl⟩
theorem fl_Step_244 : p_Fl "SortWorks$Step" 244 4 6 .int false := ⟨(RX4, TX4, 14), cl_4, Nat.lt_of_lt_of_le (by decide) (Nat.le_refl _), tw_1_202, rfl, rfl, rfl⟩
theorem fl_Step_247 : p_Fl "SortWorks$Step" 247 0 3 .int false := ⟨(RX0, TX0, 20), cl_0, Nat.lt_of_lt_of_le (by decide) (Nat.le_refl _), tw_1_90, rfl, rfl, rfl⟩
theorem fl_Step_250 : p_Fl "SortWorks$Step" 250 0 16 .int false := ⟨(RX0, TX0, 20), cl_0, Nat.lt_of_lt_of_le (by decide) (Nat.le_refl _), tw_1_124, rfl, rfl, rfl⟩
theorem fl_Step_253 : p_Fl "SortWorks$Step" 253 4 7 .boolean false := ⟨(RX4, TX4, 14), cl_4, Nat.lt_of_lt_of_le (by decide) (Nat.le_refl _), tw_1_205, rfl, rfl, rfl⟩
theorem fl_Step_256 : p_Fl "SortWorks$Step" 256 4 4 .int false := ⟨(RX4, TX4, 14), cl_4, Nat.lt_of_lt_of_le (by decide) (Nat.le_refl _), tw_1_195, rfl, rfl, rfl⟩
theorem fl_Step_263 : p_Fl "SortWorks$Step" 263 4 1 .int false := ⟨(RX4, TX4, 14), cl_4, Nat.lt_of_lt_of_le (by decide) (Nat.le_refl _), tw_1_185, rfl, rfl, rfl⟩
theorem fl_Step_266 : p_Fl "SortWorks$Step" 266 5 0 .boolean false := ⟨(RX5, TX5, 5), cl_5, Nat.lt_of_lt_of_le (by decide) (Nat.le_refl _), tw_2_215, rfl, rfl, rfl⟩
theorem fl_Step_269 : p_Fl "SortWorks$Step" 269 5 2 .int false := ⟨(RX5, TX5, 5), cl_5, Nat.lt_of_lt_of_le (by decide) (Nat.le_refl _), tw_2_219, rfl, rfl, rfl⟩
theorem fl_Step_272 : p_Fl "SortWorks$Step" 272 4 2 .int false := ⟨(RX4, TX4, 14), cl_4, Nat.lt_of_lt_of_le (by decide) (Nat.le_refl _), tw_1_188, rfl, rfl, rfl⟩
theorem fl_Step_277 : p_Fl "SortWorks$Step" 277 9 3 (.object "SortWorks$Rules") true := ⟨(RX9, TX9, 15), cl_9, Nat.lt_of_lt_of_le (by decide) (Nat.le_refl _), tw_2_128, rfl, rfl, rfl⟩
theorem fl_Step_281 : p_Fl "SortWorks$Step" 281 6 0 .int false := ⟨(RX6, TX6, 9), cl_6, Nat.lt_of_lt_of_le (by decide) (Nat.le_refl _), tw_2_69, rfl, rfl, rfl⟩
theorem fl_Step_287 : p_Fl "SortWorks$Step" 287 7 6 (.array .int) true := ⟨(RX7, TX7, 10), cl_7, Nat.lt_of_lt_of_le (by decide) (Nat.le_refl _), tw_2_30, rfl, rfl, rfl⟩
theorem fl_Step_290 : p_Fl "SortWorks$Step" 290 6 1 (.array .int) true := ⟨(RX6, TX6, 9), cl_6, Nat.lt_of_lt_of_le (by decide) (Nat.le_refl _), tw_2_72, rfl, rfl, rfl⟩
theorem fl_Step_293 : p_Fl "SortWorks$Step" 293 6 2 (.array .int) true := ⟨(RX6, TX6, 9), cl_6, Nat.lt_of_lt_of_le (by decide) (Nat.le_refl _), tw_2_76, rfl, rfl, rfl⟩
theorem fl_Step_296 : p_Fl "SortWorks$Step" 296 6 3 (.array .int) true := ⟨(RX6, TX6, 9), cl_6, Nat.lt_of_lt_of_le (by decide) (Nat.le_refl _), tw_2_80, rfl, rfl, rfl⟩
theorem fl_Step_299 : p_Fl "SortWorks$Step" 299 6 4 (.array .int) true := ⟨(RX6, TX6, 9), cl_6, Nat.lt_of_lt_of_le (by decide) (Nat.le_refl _), tw_2_83, rfl, rfl, rfl⟩
theorem fl_Step_308 : p_Fl "SortWorks$Step" 308 6 6 (.array .int) true := ⟨(RX6, TX6, 9), cl_6, Nat.lt_of_lt_of_le (by decide) (Nat.le_refl _), tw_2_89, rfl, rfl, rfl⟩
theorem fl_Step_317 : p_Fl "SortWorks$Step" 317 6 5 (.array .int) true := ⟨(RX6, TX6, 9), cl_6, Nat.lt_of_lt_of_le (by decide) (Nat.le_refl _), tw_2_86, rfl, rfl, rfl⟩
theorem fl_Step_320 : p_Fl "SortWorks$Step" 320 5 1 .int false := ⟨(RX5, TX5, 5), cl_5, Nat.lt_of_lt_of_le (by decide) (Nat.le_refl _), tw_2_217, rfl, rfl, rfl⟩
theorem fl_Step_321 : p_Fl "SortWorks$Step" 321 5 3 .int false := ⟨(RX5, TX5, 5), cl_5, Nat.lt_of_lt_of_le (by decide) (Nat.le_refl _), tw_2_221, rfl, rfl, rfl⟩
theorem fl_Step_342 : p_Fl "SortWorks$Step" 342 0 10 .int false := ⟨(RX0, TX0, 20), cl_0, Nat.lt_of_lt_of_le (by decide) (Nat.le_refl _), tw_1_108, rfl, rfl, rfl⟩
theorem fl_Step_345 : p_Fl "SortWorks$Step" 345 0 11 .int false := ⟨(RX0, TX0, 20), cl_0, Nat.lt_of_lt_of_le (by decide) (Nat.le_refl _), tw_1_112, rfl, rfl, rfl⟩
theorem fl_Step_348 : p_Fl "SortWorks$Step" 348 7 8 (.object "SortWorks$Log") true := ⟨(RX7, TX7, 10), cl_7, Nat.lt_of_lt_of_le (by decide) (Nat.le_refl _), tw_2_36, rfl, rfl, rfl⟩
theorem fl_Step_351 : p_Fl "SortWorks$Step" 351 9 0 .int true := ⟨(RX9, TX9, 15), cl_9, Nat.lt_of_lt_of_le (by decide) (Nat.le_refl _), tw_2_119, rfl, rfl, rfl⟩
theorem fl_Step_356 : p_Fl "SortWorks$Step" 356 7 2 .int false := ⟨(RX7, TX7, 10), cl_7, Nat.lt_of_lt_of_le (by decide) (Nat.le_refl _), tw_2_16, rfl, rfl, rfl⟩
theorem fl_Works_12 : p_Fl "SortWorks$Works" 12 9 1 (.object "SortWorks$State") true := ⟨(RX9, TX9, 15), cl_9, Nat.lt_of_lt_of_le (by decide) (Nat.le_refl _), tw_2_120, rfl, rfl, rfl⟩
theorem fl_Works_21 : p_Fl "SortWorks$Works" 21 9 3 (.object "SortWorks$Rules") true := ⟨(RX9, TX9, 15), cl_9, Nat.lt_of_lt_of_le (by decide) (Nat.le_refl _), tw_2_126, rfl, rfl, rfl⟩
theorem fl_Works_27 : p_Fl "SortWorks$Works" 27 9 4 (.array (.array .int)) true := ⟨(RX9, TX9, 15), cl_9, Nat.lt_of_lt_of_le (by decide) (Nat.le_refl _), tw_2_129, rfl, rfl, rfl⟩
theorem fl_Works_30 : p_Fl "SortWorks$Works" 30 9 5 (.array .int) true := ⟨(RX9, TX9, 15), cl_9, Nat.lt_of_lt_of_le (by decide) (Nat.le_refl _), tw_2_132, rfl, rfl, rfl⟩
theorem fl_Works_34 : p_Fl "SortWorks$Works" 34 9 7 (.array (.array .int)) true := ⟨(RX9, TX9, 15), cl_9, Nat.lt_of_lt_of_le (by decide) (Nat.le_refl _), tw_2_138, rfl, rfl, rfl⟩
theorem fl_Works_37 : p_Fl "SortWorks$Works" 37 9 8 (.array .int) true := ⟨(RX9, TX9, 15), cl_9, Nat.lt_of_lt_of_le (by decide) (Nat.le_refl _), tw_2_140, rfl, rfl, rfl⟩
theorem fl_Works_40 : p_Fl "SortWorks$Works" 40 9 9 (.array .int) true := ⟨(RX9, TX9, 15), cl_9, Nat.lt_of_lt_of_le (by decide) (Nat.le_refl _), tw_2_142, rfl, rfl, rfl⟩
theorem fl_Works_43 : p_Fl "SortWorks$Works" 43 9 10 (.array .int) true := ⟨(RX9, TX9, 15), cl_9, Nat.lt_of_lt_of_le (by decide) (Nat.le_refl _), tw_2_144, rfl, rfl, rfl⟩
theorem fl_Works_46 : p_Fl "SortWorks$Works" 46 9 14 (.array .int) true := ⟨(RX9, TX9, 15), cl_9, Nat.lt_of_lt_of_le (by decide) (Nat.le_refl _), tw_2_153, rfl, rfl, rfl⟩
theorem fl_Works_49 : p_Fl "SortWorks$Works" 49 9 0 .int true := ⟨(RX9, TX9, 15), cl_9, Nat.lt_of_lt_of_le (by decide) (Nat.le_refl _), tw_2_117, rfl, rfl, rfl⟩
theorem fl_Works_53 : p_Fl "SortWorks$Works" 53 9 2 .int false := ⟨(RX9, TX9, 15), cl_9, Nat.lt_of_lt_of_le (by decide) (Nat.le_refl _), tw_2_123, rfl, rfl, rfl⟩
theorem fl_Works_56 : p_Fl "SortWorks$Works" 56 7 4 (.array (.object "SortWorks$Gear")) true := ⟨(RX7, TX7, 10), cl_7, Nat.lt_of_lt_of_le (by decide) (Nat.le_refl _), tw_2_22, rfl, rfl, rfl⟩
theorem fl_Works_70 : p_Fl "SortWorks$Works" 70 9 6 .int false := ⟨(RX9, TX9, 15), cl_9, Nat.lt_of_lt_of_le (by decide) (Nat.le_refl _), tw_2_136, rfl, rfl, rfl⟩
theorem fl_Works_82 : p_Fl "SortWorks$Works" 82 7 6 (.array .int) true := ⟨(RX7, TX7, 10), cl_7, Nat.lt_of_lt_of_le (by decide) (Nat.le_refl _), tw_2_29, rfl, rfl, rfl⟩
theorem fl_Works_91 : p_Fl "SortWorks$Works" 91 7 3 .int false := ⟨(RX7, TX7, 10), cl_7, Nat.lt_of_lt_of_le (by decide) (Nat.le_refl _), tw_2_20, rfl, rfl, rfl⟩
theorem fl_Works_94 : p_Fl "SortWorks$Works" 94 9 12 .int false := ⟨(RX9, TX9, 15), cl_9, Nat.lt_of_lt_of_le (by decide) (Nat.le_refl _), tw_2_150, rfl, rfl, rfl⟩
theorem fl_Works_101 : p_Fl "SortWorks$Works" 101 9 13 .int false := ⟨(RX9, TX9, 15), cl_9, Nat.lt_of_lt_of_le (by decide) (Nat.le_refl _), tw_2_151, rfl, rfl, rfl⟩
theorem fl_Works_113 : p_Fl "SortWorks$Works" 113 9 11 .int false := ⟨(RX9, TX9, 15), cl_9, Nat.lt_of_lt_of_le (by decide) (Nat.le_refl _), tw_2_148, rfl, rfl, rfl⟩
theorem fl_Works_119 : p_Fl "SortWorks$Works" 119 0 0 .int false := ⟨(RX0, TX0, 20), cl_0, Nat.lt_of_lt_of_le (by decide) (Nat.le_refl _), tw_1_77, rfl, rfl, rfl⟩
theorem fl_Works_126 : p_Fl "SortWorks$Works" 126 0 3 .int false := ⟨(RX0, TX0, 20), cl_0, Nat.lt_of_lt_of_le (by decide) (Nat.le_refl _), tw_1_89, rfl, rfl, rfl⟩
theorem fl_Works_129 : p_Fl "SortWorks$Works" 129 0 4 (.array .int) true := ⟨(RX0, TX0, 20), cl_0, Nat.lt_of_lt_of_le (by decide) (Nat.le_refl _), tw_1_93, rfl, rfl, rfl⟩
theorem fl_Works_151 : p_Fl "SortWorks$Works" 151 0 1 .int false := ⟨(RX0, TX0, 20), cl_0, Nat.lt_of_lt_of_le (by decide) (Nat.le_refl _), tw_1_82, rfl, rfl, rfl⟩
theorem fl_Mo_7 : p_Fl "SortWorksModel" 7 11 3 (.array .int) true := ⟨(RX11, TX11, 90), cl_11, Nat.lt_of_lt_of_le (by decide) (Nat.le_refl _), tw_6_28, rfl, rfl, rfl⟩
theorem fl_Mo_13 : p_Fl "SortWorksModel" 13 11 4 (.array .int) true := ⟨(RX11, TX11, 90), cl_11, Nat.lt_of_lt_of_le (by decide) (Nat.le_refl _), tw_6_29, rfl, rfl, rfl⟩
theorem fl_Mo_16 : p_Fl "SortWorksModel" 16 11 5 (.array .int) true := ⟨(RX11, TX11, 90), cl_11, Nat.lt_of_lt_of_le (by decide) (Nat.le_refl _), tw_6_30, rfl, rfl, rfl⟩
theorem fl_Mo_19 : p_Fl "SortWorksModel" 19 11 6 (.array .int) true := ⟨(RX11, TX11, 90), cl_11, Nat.lt_of_lt_of_le (by decide) (Nat.le_refl _), tw_6_31, rfl, rfl, rfl⟩
theorem fl_Mo_22 : p_Fl "SortWorksModel" 22 11 7 (.array .int) true := ⟨(RX11, TX11, 90), cl_11, Nat.lt_of_lt_of_le (by decide) (Nat.le_refl _), tw_6_32, rfl, rfl, rfl⟩
theorem fl_Mo_25 : p_Fl "SortWorksModel" 25 11 8 (.array .int) true := ⟨(RX11, TX11, 90), cl_11, Nat.lt_of_lt_of_le (by decide) (Nat.le_refl _), tw_6_33, rfl, rfl, rfl⟩
theorem fl_Mo_28 : p_Fl "SortWorksModel" 28 11 9 (.array .int) true := ⟨(RX11, TX11, 90), cl_11, Nat.lt_of_lt_of_le (by decide) (Nat.le_refl _), tw_6_34, rfl, rfl, rfl⟩
theorem fl_Mo_31 : p_Fl "SortWorksModel" 31 11 10 (.array .int) true := ⟨(RX11, TX11, 90), cl_11, Nat.lt_of_lt_of_le (by decide) (Nat.le_refl _), tw_6_35, rfl, rfl, rfl⟩
theorem fl_Mo_34 : p_Fl "SortWorksModel" 34 11 11 (.array .long) true := ⟨(RX11, TX11, 90), cl_11, Nat.lt_of_lt_of_le (by decide) (Nat.le_refl _), tw_6_36, rfl, rfl, rfl⟩
theorem fl_Mo_38 : p_Fl "SortWorksModel" 38 11 12 (.array .int) true := ⟨(RX11, TX11, 90), cl_11, Nat.lt_of_lt_of_le (by decide) (Nat.le_refl _), tw_6_37, rfl, rfl, rfl⟩
theorem fl_Mo_41 : p_Fl "SortWorksModel" 41 11 13 (.array .int) true := ⟨(RX11, TX11, 90), cl_11, Nat.lt_of_lt_of_le (by decide) (Nat.le_refl _), tw_6_38, rfl, rfl, rfl⟩
theorem fl_Mo_44 : p_Fl "SortWorksModel" 44 11 14 (.array .boolean) true := ⟨(RX11, TX11, 90), cl_11, Nat.lt_of_lt_of_le (by decide) (Nat.le_refl _), tw_6_39, rfl, rfl, rfl⟩
theorem fl_Mo_48 : p_Fl "SortWorksModel" 48 11 15 (.array .int) true := ⟨(RX11, TX11, 90), cl_11, Nat.lt_of_lt_of_le (by decide) (Nat.le_refl _), tw_6_40, rfl, rfl, rfl⟩
theorem fl_Mo_51 : p_Fl "SortWorksModel" 51 11 16 (.array .int) true := ⟨(RX11, TX11, 90), cl_11, Nat.lt_of_lt_of_le (by decide) (Nat.le_refl _), tw_6_41, rfl, rfl, rfl⟩
theorem fl_Mo_54 : p_Fl "SortWorksModel" 54 11 17 (.array .int) true := ⟨(RX11, TX11, 90), cl_11, Nat.lt_of_lt_of_le (by decide) (Nat.le_refl _), tw_6_42, rfl, rfl, rfl⟩
theorem fl_Mo_57 : p_Fl "SortWorksModel" 57 11 18 (.array .int) true := ⟨(RX11, TX11, 90), cl_11, Nat.lt_of_lt_of_le (by decide) (Nat.le_refl _), tw_6_43, rfl, rfl, rfl⟩
theorem fl_Mo_60 : p_Fl "SortWorksModel" 60 11 19 (.array .int) true := ⟨(RX11, TX11, 90), cl_11, Nat.lt_of_lt_of_le (by decide) (Nat.le_refl _), tw_6_44, rfl, rfl, rfl⟩
theorem fl_Mo_63 : p_Fl "SortWorksModel" 63 11 20 (.array .int) true := ⟨(RX11, TX11, 90), cl_11, Nat.lt_of_lt_of_le (by decide) (Nat.le_refl _), tw_6_45, rfl, rfl, rfl⟩
theorem fl_Mo_66 : p_Fl "SortWorksModel" 66 11 21 (.array .int) true := ⟨(RX11, TX11, 90), cl_11, Nat.lt_of_lt_of_le (by decide) (Nat.le_refl _), tw_6_46, rfl, rfl, rfl⟩
theorem fl_Mo_69 : p_Fl "SortWorksModel" 69 11 22 (.array .int) true := ⟨(RX11, TX11, 90), cl_11, Nat.lt_of_lt_of_le (by decide) (Nat.le_refl _), tw_6_47, rfl, rfl, rfl⟩
theorem fl_Mo_72 : p_Fl "SortWorksModel" 72 11 24 (.array .int) true := ⟨(RX11, TX11, 90), cl_11, Nat.lt_of_lt_of_le (by decide) (Nat.le_refl _), tw_6_49, rfl, rfl, rfl⟩
theorem fl_Mo_75 : p_Fl "SortWorksModel" 75 11 25 (.array .int) true := ⟨(RX11, TX11, 90), cl_11, Nat.lt_of_lt_of_le (by decide) (Nat.le_refl _), tw_6_50, rfl, rfl, rfl⟩
theorem fl_Mo_78 : p_Fl "SortWorksModel" 78 11 26 (.array .int) true := ⟨(RX11, TX11, 90), cl_11, Nat.lt_of_lt_of_le (by decide) (Nat.le_refl _), tw_6_51, rfl, rfl, rfl⟩
theorem fl_Mo_81 : p_Fl "SortWorksModel" 81 11 27 (.array .int) true := ⟨(RX11, TX11, 90), cl_11, Nat.lt_of_lt_of_le (by decide) (Nat.le_refl _), tw_6_52, rfl, rfl, rfl⟩
theorem fl_Mo_84 : p_Fl "SortWorksModel" 84 11 28 (.array .int) true := ⟨(RX11, TX11, 90), cl_11, Nat.lt_of_lt_of_le (by decide) (Nat.le_refl _), tw_6_53, rfl, rfl, rfl⟩
theorem fl_Mo_87 : p_Fl "SortWorksModel" 87 11 29 (.array .int) true := ⟨(RX11, TX11, 90), cl_11, Nat.lt_of_lt_of_le (by decide) (Nat.le_refl _), tw_6_54, rfl, rfl, rfl⟩
theorem fl_Mo_90 : p_Fl "SortWorksModel" 90 11 30 (.array .int) true := ⟨(RX11, TX11, 90), cl_11, Nat.lt_of_lt_of_le (by decide) (Nat.le_refl _), tw_6_55, rfl, rfl, rfl⟩
theorem fl_Mo_93 : p_Fl "SortWorksModel" 93 11 31 (.array .int) true := ⟨(RX11, TX11, 90), cl_11, Nat.lt_of_lt_of_le (by decide) (Nat.le_refl _), tw_6_56, rfl, rfl, rfl⟩
theorem fl_Mo_96 : p_Fl "SortWorksModel" 96 11 32 (.array .int) true := ⟨(RX11, TX11, 90), cl_11, Nat.lt_of_lt_of_le (by decide) (Nat.le_refl _), tw_6_57, rfl, rfl, rfl⟩
theorem fl_Mo_99 : p_Fl "SortWorksModel" 99 11 33 (.array .int) true := ⟨(RX11, TX11, 90), cl_11, Nat.lt_of_lt_of_le (by decide) (Nat.le_refl _), tw_6_58, rfl, rfl, rfl⟩
theorem fl_Mo_102 : p_Fl "SortWorksModel" 102 11 34 (.array .int) true := ⟨(RX11, TX11, 90), cl_11, Nat.lt_of_lt_of_le (by decide) (Nat.le_refl _), tw_6_59, rfl, rfl, rfl⟩
theorem fl_Mo_105 : p_Fl "SortWorksModel" 105 11 35 (.array .boolean) true := ⟨(RX11, TX11, 90), cl_11, Nat.lt_of_lt_of_le (by decide) (Nat.le_refl _), tw_6_60, rfl, rfl, rfl⟩
theorem fl_Mo_108 : p_Fl "SortWorksModel" 108 11 36 (.array .boolean) true := ⟨(RX11, TX11, 90), cl_11, Nat.lt_of_lt_of_le (by decide) (Nat.le_refl _), tw_6_61, rfl, rfl, rfl⟩
theorem fl_Mo_111 : p_Fl "SortWorksModel" 111 11 37 (.array .int) true := ⟨(RX11, TX11, 90), cl_11, Nat.lt_of_lt_of_le (by decide) (Nat.le_refl _), tw_6_62, rfl, rfl, rfl⟩
theorem fl_Mo_114 : p_Fl "SortWorksModel" 114 11 38 (.array .int) true := ⟨(RX11, TX11, 90), cl_11, Nat.lt_of_lt_of_le (by decide) (Nat.le_refl _), tw_6_63, rfl, rfl, rfl⟩
theorem fl_Mo_117 : p_Fl "SortWorksModel" 117 11 39 (.array .int) true := ⟨(RX11, TX11, 90), cl_11, Nat.lt_of_lt_of_le (by decide) (Nat.le_refl _), tw_6_64, rfl, rfl, rfl⟩
theorem fl_Mo_120 : p_Fl "SortWorksModel" 120 11 40 (.array .int) true := ⟨(RX11, TX11, 90), cl_11, Nat.lt_of_lt_of_le (by decide) (Nat.le_refl _), tw_6_65, rfl, rfl, rfl⟩
theorem fl_Mo_123 : p_Fl "SortWorksModel" 123 11 41 (.array .int) true := ⟨(RX11, TX11, 90), cl_11, Nat.lt_of_lt_of_le (by decide) (Nat.le_refl _), tw_6_66, rfl, rfl, rfl⟩
theorem fl_Mo_126 : p_Fl "SortWorksModel" 126 11 42 (.array .int) true := ⟨(RX11, TX11, 90), cl_11, Nat.lt_of_lt_of_le (by decide) (Nat.le_refl _), tw_6_67, rfl, rfl, rfl⟩
theorem fl_Mo_129 : p_Fl "SortWorksModel" 129 11 43 (.array .int) true := ⟨(RX11, TX11, 90), cl_11, Nat.lt_of_lt_of_le (by decide) (Nat.le_refl _), tw_6_68, rfl, rfl, rfl⟩
theorem fl_Mo_132 : p_Fl "SortWorksModel" 132 11 44 (.array .int) true := ⟨(RX11, TX11, 90), cl_11, Nat.lt_of_lt_of_le (by decide) (Nat.le_refl _), tw_6_69, rfl, rfl, rfl⟩
theorem fl_Mo_135 : p_Fl "SortWorksModel" 135 11 45 (.array .int) true := ⟨(RX11, TX11, 90), cl_11, Nat.lt_of_lt_of_le (by decide) (Nat.le_refl _), tw_6_70, rfl, rfl, rfl⟩
theorem fl_Mo_138 : p_Fl "SortWorksModel" 138 11 46 (.array .int) true := ⟨(RX11, TX11, 90), cl_11, Nat.lt_of_lt_of_le (by decide) (Nat.le_refl _), tw_6_71, rfl, rfl, rfl⟩
theorem fl_Mo_141 : p_Fl "SortWorksModel" 141 11 48 (.array .int) true := ⟨(RX11, TX11, 90), cl_11, Nat.lt_of_lt_of_le (by decide) (Nat.le_refl _), tw_6_73, rfl, rfl, rfl⟩
theorem fl_Mo_144 : p_Fl "SortWorksModel" 144 11 49 (.array .int) true := ⟨(RX11, TX11, 90), cl_11, Nat.lt_of_lt_of_le (by decide) (Nat.le_refl _), tw_6_74, rfl, rfl, rfl⟩
theorem fl_Mo_147 : p_Fl "SortWorksModel" 147 11 50 (.array .int) true := ⟨(RX11, TX11, 90), cl_11, Nat.lt_of_lt_of_le (by decide) (Nat.le_refl _), tw_6_75, rfl, rfl, rfl⟩
theorem fl_Mo_150 : p_Fl "SortWorksModel" 150 11 51 (.array .int) true := ⟨(RX11, TX11, 90), cl_11, Nat.lt_of_lt_of_le (by decide) (Nat.le_refl _), tw_6_76, rfl, rfl, rfl⟩
theorem fl_Mo_153 : p_Fl "SortWorksModel" 153 11 52 (.array .int) true := ⟨(RX11, TX11, 90), cl_11, Nat.lt_of_lt_of_le (by decide) (Nat.le_refl _), tw_6_77, rfl, rfl, rfl⟩
theorem fl_Mo_156 : p_Fl "SortWorksModel" 156 11 53 (.array .int) true := ⟨(RX11, TX11, 90), cl_11, Nat.lt_of_lt_of_le (by decide) (Nat.le_refl _), tw_6_78, rfl, rfl, rfl⟩
theorem fl_Mo_159 : p_Fl "SortWorksModel" 159 11 54 (.array .int) true := ⟨(RX11, TX11, 90), cl_11, Nat.lt_of_lt_of_le (by decide) (Nat.le_refl _), tw_6_79, rfl, rfl, rfl⟩
theorem fl_Mo_162 : p_Fl "SortWorksModel" 162 11 55 (.array .int) true := ⟨(RX11, TX11, 90), cl_11, Nat.lt_of_lt_of_le (by decide) (Nat.le_refl _), tw_6_80, rfl, rfl, rfl⟩
theorem fl_Mo_165 : p_Fl "SortWorksModel" 165 11 56 (.array .int) true := ⟨(RX11, TX11, 90), cl_11, Nat.lt_of_lt_of_le (by decide) (Nat.le_refl _), tw_6_81, rfl, rfl, rfl⟩
theorem fl_Mo_168 : p_Fl "SortWorksModel" 168 11 57 (.array .int) true := ⟨(RX11, TX11, 90), cl_11, Nat.lt_of_lt_of_le (by decide) (Nat.le_refl _), tw_6_82, rfl, rfl, rfl⟩
theorem fl_Mo_171 : p_Fl "SortWorksModel" 171 11 58 (.array .int) true := ⟨(RX11, TX11, 90), cl_11, Nat.lt_of_lt_of_le (by decide) (Nat.le_refl _), tw_6_83, rfl, rfl, rfl⟩
theorem fl_Mo_174 : p_Fl "SortWorksModel" 174 11 59 (.array .int) true := ⟨(RX11, TX11, 90), cl_11, Nat.lt_of_lt_of_le (by decide) (Nat.le_refl _), tw_6_84, rfl, rfl, rfl⟩
theorem fl_Mo_177 : p_Fl "SortWorksModel" 177 11 60 (.array .int) true := ⟨(RX11, TX11, 90), cl_11, Nat.lt_of_lt_of_le (by decide) (Nat.le_refl _), tw_6_85, rfl, rfl, rfl⟩
theorem fl_Mo_180 : p_Fl "SortWorksModel" 180 11 61 (.array .int) true := ⟨(RX11, TX11, 90), cl_11, Nat.lt_of_lt_of_le (by decide) (Nat.le_refl _), tw_6_86, rfl, rfl, rfl⟩
theorem fl_Mo_183 : p_Fl "SortWorksModel" 183 11 62 (.array .int) true := ⟨(RX11, TX11, 90), cl_11, Nat.lt_of_lt_of_le (by decide) (Nat.le_refl _), tw_6_87, rfl, rfl, rfl⟩
theorem fl_Mo_186 : p_Fl "SortWorksModel" 186 11 63 (.array .int) true := ⟨(RX11, TX11, 90), cl_11, Nat.lt_of_lt_of_le (by decide) (Nat.le_refl _), tw_6_88, rfl, rfl, rfl⟩
theorem fl_Mo_189 : p_Fl "SortWorksModel" 189 11 64 (.array .int) true := ⟨(RX11, TX11, 90), cl_11, Nat.lt_of_lt_of_le (by decide) (Nat.le_refl _), tw_6_89, rfl, rfl, rfl⟩
theorem fl_Mo_192 : p_Fl "SortWorksModel" 192 11 65 (.array .int) true := ⟨(RX11, TX11, 90), cl_11, Nat.lt_of_lt_of_le (by decide) (Nat.le_refl _), tw_6_90, rfl, rfl, rfl⟩
theorem fl_Mo_195 : p_Fl "SortWorksModel" 195 11 66 (.array .int) true := ⟨(RX11, TX11, 90), cl_11, Nat.lt_of_lt_of_le (by decide) (Nat.le_refl _), tw_6_91, rfl, rfl, rfl⟩
theorem fl_Mo_198 : p_Fl "SortWorksModel" 198 11 67 (.array .int) true := ⟨(RX11, TX11, 90), cl_11, Nat.lt_of_lt_of_le (by decide) (Nat.le_refl _), tw_6_92, rfl, rfl, rfl⟩
theorem fl_Mo_201 : p_Fl "SortWorksModel" 201 11 74 (.array .int) true := ⟨(RX11, TX11, 90), cl_11, Nat.lt_of_lt_of_le (by decide) (Nat.le_refl _), tw_6_99, rfl, rfl, rfl⟩
theorem fl_Mo_204 : p_Fl "SortWorksModel" 204 11 79 (.array .int) true := ⟨(RX11, TX11, 90), cl_11, Nat.lt_of_lt_of_le (by decide) (Nat.le_refl _), tw_6_104, rfl, rfl, rfl⟩
theorem fl_Mo_207 : p_Fl "SortWorksModel" 207 11 81 (.array .int) true := ⟨(RX11, TX11, 90), cl_11, Nat.lt_of_lt_of_le (by decide) (Nat.le_refl _), tw_6_106, rfl, rfl, rfl⟩
theorem fl_Mo_210 : p_Fl "SortWorksModel" 210 11 82 (.array .int) true := ⟨(RX11, TX11, 90), cl_11, Nat.lt_of_lt_of_le (by decide) (Nat.le_refl _), tw_6_107, rfl, rfl, rfl⟩
theorem fl_Mo_214 : p_Fl "SortWorksModel" 214 11 83 (.array .int) true := ⟨(RX11, TX11, 90), cl_11, Nat.lt_of_lt_of_le (by decide) (Nat.le_refl _), tw_6_108, rfl, rfl, rfl⟩
theorem fl_Mo_217 : p_Fl "SortWorksModel" 217 11 88 (.array .int) true := ⟨(RX11, TX11, 90), cl_11, Nat.lt_of_lt_of_le (by decide) (Nat.le_refl _), tw_6_113, rfl, rfl, rfl⟩
theorem fl_Mo_220 : p_Fl "SortWorksModel" 220 11 1 .int false := ⟨(RX11, TX11, 90), cl_11, Nat.lt_of_lt_of_le (by decide) (Nat.le_refl _), tw_6_26, rfl, rfl, rfl⟩
theorem fl_Mo_224 : p_Fl "SortWorksModel" 224 11 2 .int false := ⟨(RX11, TX11, 90), cl_11, Nat.lt_of_lt_of_le (by decide) (Nat.le_refl _), tw_6_27, rfl, rfl, rfl⟩
theorem fl_Mo_227 : p_Fl "SortWorksModel" 227 11 0 .int false := ⟨(RX11, TX11, 90), cl_11, Nat.lt_of_lt_of_le (by decide) (Nat.le_refl _), tw_6_25, rfl, rfl, rfl⟩
theorem fl_Mo_295 : p_Fl "SortWorksModel" 295 11 47 .int false := ⟨(RX11, TX11, 90), cl_11, Nat.lt_of_lt_of_le (by decide) (Nat.le_refl _), tw_6_72, rfl, rfl, rfl⟩
theorem fl_Mo_298 : p_Fl "SortWorksModel" 298 11 68 .int false := ⟨(RX11, TX11, 90), cl_11, Nat.lt_of_lt_of_le (by decide) (Nat.le_refl _), tw_6_93, rfl, rfl, rfl⟩
theorem fl_Mo_301 : p_Fl "SortWorksModel" 301 11 69 .int false := ⟨(RX11, TX11, 90), cl_11, Nat.lt_of_lt_of_le (by decide) (Nat.le_refl _), tw_6_94, rfl, rfl, rfl⟩
theorem fl_Mo_314 : p_Fl "SortWorksModel" 314 11 70 .int false := ⟨(RX11, TX11, 90), cl_11, Nat.lt_of_lt_of_le (by decide) (Nat.le_refl _), tw_6_95, rfl, rfl, rfl⟩
theorem fl_Mo_334 : p_Fl "SortWorksModel" 334 11 23 .int false := ⟨(RX11, TX11, 90), cl_11, Nat.lt_of_lt_of_le (by decide) (Nat.le_refl _), tw_6_48, rfl, rfl, rfl⟩
theorem fl_Mo_379 : p_Fl "SortWorksModel" 379 11 71 .int false := ⟨(RX11, TX11, 90), cl_11, Nat.lt_of_lt_of_le (by decide) (Nat.le_refl _), tw_6_96, rfl, rfl, rfl⟩
theorem fl_Mo_382 : p_Fl "SortWorksModel" 382 11 72 .int false := ⟨(RX11, TX11, 90), cl_11, Nat.lt_of_lt_of_le (by decide) (Nat.le_refl _), tw_6_97, rfl, rfl, rfl⟩
theorem fl_Mo_385 : p_Fl "SortWorksModel" 385 11 73 .int false := ⟨(RX11, TX11, 90), cl_11, Nat.lt_of_lt_of_le (by decide) (Nat.le_refl _), tw_6_98, rfl, rfl, rfl⟩
theorem fl_Mo_414 : p_Fl "SortWorksModel" 414 11 78 .int false := ⟨(RX11, TX11, 90), cl_11, Nat.lt_of_lt_of_le (by decide) (Nat.le_refl _), tw_6_103, rfl, rfl, rfl⟩
theorem fl_Mo_420 : p_Fl "SortWorksModel" 420 11 75 .int false := ⟨(RX11, TX11, 90), cl_11, Nat.lt_of_lt_of_le (by decide) (Nat.le_refl _), tw_6_100, rfl, rfl, rfl⟩
theorem fl_Mo_423 : p_Fl "SortWorksModel" 423 11 76 .int false := ⟨(RX11, TX11, 90), cl_11, Nat.lt_of_lt_of_le (by decide) (Nat.le_refl _), tw_6_101, rfl, rfl, rfl⟩
theorem fl_Mo_426 : p_Fl "SortWorksModel" 426 11 77 .int false := ⟨(RX11, TX11, 90), cl_11, Nat.lt_of_lt_of_le (by decide) (Nat.le_refl _), tw_6_102, rfl, rfl, rfl⟩
theorem fl_Mo_429 : p_Fl "SortWorksModel" 429 11 80 .int false := ⟨(RX11, TX11, 90), cl_11, Nat.lt_of_lt_of_le (by decide) (Nat.le_refl _), tw_6_105, rfl, rfl, rfl⟩
theorem fl_Mo_496 : p_Fl "SortWorksModel" 496 11 85 .boolean false := ⟨(RX11, TX11, 90), cl_11, Nat.lt_of_lt_of_le (by decide) (Nat.le_refl _), tw_6_110, rfl, rfl, rfl⟩
theorem fl_Mo_500 : p_Fl "SortWorksModel" 500 11 84 .int false := ⟨(RX11, TX11, 90), cl_11, Nat.lt_of_lt_of_le (by decide) (Nat.le_refl _), tw_6_109, rfl, rfl, rfl⟩
theorem fl_Mo_520 : p_Fl "SortWorksModel" 520 11 86 .int false := ⟨(RX11, TX11, 90), cl_11, Nat.lt_of_lt_of_le (by decide) (Nat.le_refl _), tw_6_111, rfl, rfl, rfl⟩
theorem fl_Mo_523 : p_Fl "SortWorksModel" 523 11 87 .int false := ⟨(RX11, TX11, 90), cl_11, Nat.lt_of_lt_of_le (by decide) (Nat.le_refl _), tw_6_112, rfl, rfl, rfl⟩
theorem fl_Mo_540 : p_Fl "SortWorksModel" 540 11 89 .long false := ⟨(RX11, TX11, 90), cl_11, Nat.lt_of_lt_of_le (by decide) (Nat.le_refl _), tw_6_114, rfl, rfl, rfl⟩
