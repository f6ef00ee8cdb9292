theorem wd_0 : Cond.initialized "CarHouseLaw" ∈ GT := gt_1 (List.mem_of_getElem? (i := 0) rfl) rfl
theorem wd_1 : Cond.initialized "CarHouse" ∈ GT := gt_1 (List.mem_of_getElem? (i := 1) rfl) rfl
theorem wd_2 : Cond.initialized "CarHouse$Reader" ∈ GT := gt_1 (List.mem_of_getElem? (i := 2) rfl) rfl
theorem wd_3 : Cond.initialized "CarHouse$Car" ∈ GT := gt_1 (List.mem_of_getElem? (i := 3) rfl) rfl
theorem wd_4 : Cond.initialized "CarHouse$Cores" ∈ GT := gt_1 (List.mem_of_getElem? (i := 4) rfl) rfl
theorem wd_5 : Cond.initialized "CarHouse$Bus" ∈ GT := gt_1 (List.mem_of_getElem? (i := 5) rfl) rfl
theorem wd_6 : Cond.initialized "CarHouse$Ear" ∈ GT := gt_1 (List.mem_of_getElem? (i := 6) rfl) rfl
theorem wd_7 : Cond.initialized "CarHouse$Frames" ∈ GT := gt_1 (List.mem_of_getElem? (i := 7) rfl) rfl
theorem wd_8 : Cond.initialized "CarHouse$Codes" ∈ GT := gt_1 (List.mem_of_getElem? (i := 8) rfl) rfl
theorem wd_9 : Cond.initialized "CarHouse$Troubles" ∈ GT := gt_1 (List.mem_of_getElem? (i := 9) rfl) rfl
theorem wd_10 : Cond.initialized "CarHouse$Transfer" ∈ GT := gt_1 (List.mem_of_getElem? (i := 10) rfl) rfl
theorem wd_11 : Cond.initialized "CarHouse$Questions" ∈ GT := gt_1 (List.mem_of_getElem? (i := 11) rfl) rfl
theorem wd_12 : Cond.initialized "CarHouse$Chart" ∈ GT := gt_1 (List.mem_of_getElem? (i := 12) rfl) rfl
theorem wd_13 : Cond.initialized "CarHouseModel" ∈ GT := gt_1 (List.mem_of_getElem? (i := 13) rfl) rfl
theorem wd_14 : Cond.initialized "CarHouseModel$Cores" ∈ GT := gt_1 (List.mem_of_getElem? (i := 14) rfl) rfl
theorem wd_15 : Cond.initialized "CarHouseModel$Bus" ∈ GT := gt_1 (List.mem_of_getElem? (i := 15) rfl) rfl
theorem wd_16 : Cond.initialized "CarHouseModel$Codes" ∈ GT := gt_1 (List.mem_of_getElem? (i := 16) rfl) rfl
theorem wd_17 : Cond.initialized "CarHouseModel$Transfer" ∈ GT := gt_1 (List.mem_of_getElem? (i := 17) rfl) rfl
theorem wd_18 : Cond.initialized "CarHouseModel$Troubles" ∈ GT := gt_1 (List.mem_of_getElem? (i := 18) rfl) rfl
theorem wd_19 : Cond.initialized "CarHouseModel$Pack" ∈ GT := gt_1 (List.mem_of_getElem? (i := 19) rfl) rfl
theorem wd_20 : Cond.initialized "CarHouseModel$Chart" ∈ GT := gt_1 (List.mem_of_getElem? (i := 20) rfl) rfl
theorem wd_21 : Cond.initialized "java/lang/Throwable" ∈ GT := gt_1 (List.mem_of_getElem? (i := 21) rfl) rfl
theorem wd_22 : Cond.initialized "java/lang/Exception" ∈ GT := gt_1 (List.mem_of_getElem? (i := 22) rfl) rfl
theorem wd_23 : Cond.initialized "java/lang/RuntimeException" ∈ GT := gt_1 (List.mem_of_getElem? (i := 23) rfl) rfl
theorem wd_24 : Cond.initialized "java/lang/IllegalStateException" ∈ GT := gt_1 (List.mem_of_getElem? (i := 24) rfl) rfl
theorem wd_25 : Cond.initialized "java/lang/IllegalArgumentException" ∈ GT := gt_1 (List.mem_of_getElem? (i := 25) rfl) rfl
theorem wd_26 : Cond.initialized "java/lang/String" ∈ GT := gt_1 (List.mem_of_getElem? (i := 26) rfl) rfl
theorem wd_27 : Cond.initialized "java/lang/StringLatin1" ∈ GT := gt_1 (List.mem_of_getElem? (i := 27) rfl) rfl
theorem wd_28 : Cond.initialized "jdk/internal/util/Preconditions" ∈ GT := gt_1 (List.mem_of_getElem? (i := 28) rfl) rfl
theorem wd_29 : Cond.initialized "java/lang/StringUTF16" ∈ GT := gt_1 (List.mem_of_getElem? (i := 29) rfl) rfl
theorem wd_30 : Cond.initialized "java/lang/Math" ∈ GT := gt_1 (List.mem_of_getElem? (i := 30) rfl) rfl
theorem wd_31 : Cond.initialized "java/lang/IndexOutOfBoundsException" ∈ GT := gt_1 (List.mem_of_getElem? (i := 31) rfl) rfl
theorem wd_32 : Cond.initialized "java/lang/Integer" ∈ GT := gt_1 (List.mem_of_getElem? (i := 32) rfl) rfl
theorem wd_33 : Cond.classLink "CarHouseLaw" 8 "CarHouse" ∈ GT := gt_1 (List.mem_of_getElem? (i := 33) rfl) rfl
theorem wd_34 : Cond.instantiable "CarHouse" 6 ∈ GT := gt_1 (List.mem_of_getElem? (i := 34) rfl) rfl
theorem wd_35 : Cond.methodLink "CarHouseLaw" 89 ⟨"CarHouse", "<init>", "()V"⟩ ∈ GT := gt_1 (List.mem_of_getElem? (i := 35) rfl) rfl
theorem wd_36 : Cond.instanceMethod ⟨"CarHouse", "<init>", "()V"⟩ ∈ GT := gt_1 (List.mem_of_getElem? (i := 36) rfl) rfl
theorem wd_37 : Cond.code ⟨"CarHouse", "<init>", "()V"⟩ prog_1_method_1_code 1 none ∈ GT := gt_1 (List.mem_of_getElem? (i := 37) rfl) rfl
theorem wd_38 : Cond.methodLink "CarHouse" 1 ⟨"java/lang/Object", "<init>", "()V"⟩ ∈ GT := gt_1 (List.mem_of_getElem? (i := 38) rfl) rfl
theorem wd_39 : Cond.instanceMethod ⟨"java/lang/Object", "<init>", "()V"⟩ ∈ GT := gt_1 (List.mem_of_getElem? (i := 39) rfl) rfl
theorem wd_40 : Cond.code ⟨"java/lang/Object", "<init>", "()V"⟩ object_method_1_code 1 none ∈ GT := gt_1 (List.mem_of_getElem? (i := 40) rfl) rfl
theorem wd_41 : Cond.classLink "CarHouse" 7 "CarHouse$Reader" ∈ GT := gt_1 (List.mem_of_getElem? (i := 41) rfl) rfl
theorem wd_42 : Cond.instantiable "CarHouse$Reader" 14 ∈ GT := gt_1 (List.mem_of_getElem? (i := 42) rfl) rfl
theorem nd_43 : Cond.methodLinkNest "CarHouse" 9 ⟨"CarHouse$Reader", "<init>", "()V"⟩ "CarHouse" ∈ NT := gn_1 (List.mem_of_getElem? (i := 43) rfl) rfl
theorem wd_44 : Cond.instanceMethod ⟨"CarHouse$Reader", "<init>", "()V"⟩ ∈ GT := gt_1 (List.mem_of_getElem? (i := 44) rfl) rfl
theorem wd_45 : Cond.code ⟨"CarHouse$Reader", "<init>", "()V"⟩ prog_10_method_1_code 1 none ∈ GT := gt_1 (List.mem_of_getElem? (i := 45) rfl) rfl
theorem wd_46 : Cond.methodLink "CarHouse$Reader" 3 ⟨"java/lang/Object", "<init>", "()V"⟩ ∈ GT := gt_1 (List.mem_of_getElem? (i := 46) rfl) rfl
theorem wd_47 : Cond.classLink "CarHouse$Reader" 15 "CarHouse$Car" ∈ GT := gt_1 (List.mem_of_getElem? (i := 47) rfl) rfl
theorem wd_48 : Cond.instantiable "CarHouse$Car" 19 ∈ GT := gt_1 (List.mem_of_getElem? (i := 48) rfl) rfl
theorem wd_49 : Cond.methodLink "CarHouse$Reader" 17 ⟨"CarHouse$Car", "<init>", "()V"⟩ ∈ GT := gt_1 (List.mem_of_getElem? (i := 49) rfl) rfl
theorem wd_50 : Cond.instanceMethod ⟨"CarHouse$Car", "<init>", "()V"⟩ ∈ GT := gt_1 (List.mem_of_getElem? (i := 50) rfl) rfl
theorem wd_51 : Cond.code ⟨"CarHouse$Car", "<init>", "()V"⟩ prog_3_method_1_code 2 none ∈ GT := gt_1 (List.mem_of_getElem? (i := 51) rfl) rfl
theorem wd_52 : Cond.methodLink "CarHouse$Car" 3 ⟨"java/lang/Object", "<init>", "()V"⟩ ∈ GT := gt_1 (List.mem_of_getElem? (i := 52) rfl) rfl
theorem wd_53 : Cond.classLink "CarHouse$Car" 9 "CarHouse$Chart" ∈ GT := gt_1 (List.mem_of_getElem? (i := 53) rfl) rfl
theorem wd_55 : Cond.classLink "CarHouse$Car" 17 "CarHouse$Cores" ∈ GT := gt_1 (List.mem_of_getElem? (i := 55) rfl) rfl
theorem wd_56 : Cond.instantiable "CarHouse$Cores" 7 ∈ GT := gt_1 (List.mem_of_getElem? (i := 56) rfl) rfl
theorem nd_57 : Cond.methodLinkNest "CarHouse$Car" 19 ⟨"CarHouse$Cores", "<init>", "()V"⟩ "CarHouse" ∈ NT := gn_1 (List.mem_of_getElem? (i := 57) rfl) rfl
theorem wd_58 : Cond.instanceMethod ⟨"CarHouse$Cores", "<init>", "()V"⟩ ∈ GT := gt_1 (List.mem_of_getElem? (i := 58) rfl) rfl
theorem wd_59 : Cond.code ⟨"CarHouse$Cores", "<init>", "()V"⟩ prog_6_method_1_code 1 none ∈ GT := gt_1 (List.mem_of_getElem? (i := 59) rfl) rfl
theorem wd_60 : Cond.methodLink "CarHouse$Cores" 3 ⟨"java/lang/Object", "<init>", "()V"⟩ ∈ GT := gt_1 (List.mem_of_getElem? (i := 60) rfl) rfl
theorem wd_61 : Cond.classLink "CarHouse$Cores" 9 "[[I" ∈ GT := gt_1 (List.mem_of_getElem? (i := 61) rfl) rfl
theorem wd_63 : Cond.fieldLink "CarHouse$Cores" 11 "CarHouse$Cores" "task" "[[I" ∈ GT := gt_1 (List.mem_of_getElem? (i := 63) rfl) rfl
theorem nd_64 : Cond.fieldLinkNest "CarHouse$Car" 116 "CarHouse$Cores" "task" "[[I" "CarHouse" ∈ NT := gn_1 (List.mem_of_getElem? (i := 64) rfl) rfl
theorem nd_65 : Cond.fieldLinkNest "CarHouse" 199 "CarHouse$Cores" "task" "[[I" "CarHouse" ∈ NT := gn_1 (List.mem_of_getElem? (i := 65) rfl) rfl
theorem wd_66 : Cond.fieldLink "CarHouse$Cores" 16 "CarHouse$Cores" "chosen" "[I" ∈ GT := gt_1 (List.mem_of_getElem? (i := 66) rfl) rfl
theorem wd_67 : Cond.fieldLink "CarHouse$Cores" 20 "CarHouse$Cores" "who" "[I" ∈ GT := gt_1 (List.mem_of_getElem? (i := 67) rfl) rfl
theorem wd_68 : Cond.fieldLink "CarHouse$Cores" 23 "CarHouse$Cores" "tasks" "I" ∈ GT := gt_1 (List.mem_of_getElem? (i := 68) rfl) rfl
theorem nd_69 : Cond.fieldLinkNest "CarHouse" 86 "CarHouse$Cores" "tasks" "I" "CarHouse" ∈ NT := gn_1 (List.mem_of_getElem? (i := 69) rfl) rfl
theorem nd_70 : Cond.fieldLinkNest "CarHouse$Reader" 146 "CarHouse$Cores" "tasks" "I" "CarHouse" ∈ NT := gn_1 (List.mem_of_getElem? (i := 70) rfl) rfl
theorem wd_71 : Cond.fieldLink "CarHouse$Cores" 27 "CarHouse$Cores" "turns" "I" ∈ GT := gt_1 (List.mem_of_getElem? (i := 71) rfl) rfl
theorem wd_72 : Cond.fieldLink "CarHouse$Cores" 30 "CarHouse$Cores" "fresh" "I" ∈ GT := gt_1 (List.mem_of_getElem? (i := 72) rfl) rfl
theorem nd_73 : Cond.fieldLinkNest "CarHouse$Car" 155 "CarHouse$Cores" "fresh" "I" "CarHouse" ∈ NT := gn_1 (List.mem_of_getElem? (i := 73) rfl) rfl
theorem wd_74 : Cond.fieldLink "CarHouse$Cores" 33 "CarHouse$Cores" "settled" "Z" ∈ GT := gt_1 (List.mem_of_getElem? (i := 74) rfl) rfl
theorem wd_75 : Cond.laysFinal "CarHouse$Cores" "CarHouse$Cores" "task" "[[I" ∈ GT := gt_1 (List.mem_of_getElem? (i := 75) rfl) rfl
theorem wd_77 : Cond.laysFinal "CarHouse$Cores" "CarHouse$Cores" "chosen" "[I" ∈ GT := gt_1 (List.mem_of_getElem? (i := 77) rfl) rfl
theorem wd_79 : Cond.laysFinal "CarHouse$Cores" "CarHouse$Cores" "who" "[I" ∈ GT := gt_1 (List.mem_of_getElem? (i := 79) rfl) rfl
theorem wd_81 : Cond.lays "CarHouse$Cores" "CarHouse$Cores" "tasks" "I" ∈ GT := gt_1 (List.mem_of_getElem? (i := 81) rfl) rfl
theorem wd_83 : Cond.lays "CarHouse$Cores" "CarHouse$Cores" "turns" "I" ∈ GT := gt_1 (List.mem_of_getElem? (i := 83) rfl) rfl
theorem wd_85 : Cond.lays "CarHouse$Cores" "CarHouse$Cores" "fresh" "I" ∈ GT := gt_1 (List.mem_of_getElem? (i := 85) rfl) rfl
theorem wd_87 : Cond.lays "CarHouse$Cores" "CarHouse$Cores" "settled" "Z" ∈ GT := gt_1 (List.mem_of_getElem? (i := 87) rfl) rfl
theorem wd_90 : Cond.arrayClass .char ∈ GT := gt_1 (List.mem_of_getElem? (i := 90) rfl) rfl
theorem wd_91 : Cond.arrayClass .int ∈ GT := gt_1 (List.mem_of_getElem? (i := 91) rfl) rfl
theorem wd_92 : Cond.classLink "CarHouse$Car" 24 "CarHouse$Bus" ∈ GT := gt_1 (List.mem_of_getElem? (i := 92) rfl) rfl
theorem wd_93 : Cond.instantiable "CarHouse$Bus" 14 ∈ GT := gt_1 (List.mem_of_getElem? (i := 93) rfl) rfl
theorem wd_94 : Cond.methodLink "CarHouse$Car" 26 ⟨"CarHouse$Bus", "<init>", "()V"⟩ ∈ GT := gt_1 (List.mem_of_getElem? (i := 94) rfl) rfl
theorem wd_95 : Cond.instanceMethod ⟨"CarHouse$Bus", "<init>", "()V"⟩ ∈ GT := gt_1 (List.mem_of_getElem? (i := 95) rfl) rfl
theorem wd_96 : Cond.code ⟨"CarHouse$Bus", "<init>", "()V"⟩ prog_2_method_1_code 2 none ∈ GT := gt_1 (List.mem_of_getElem? (i := 96) rfl) rfl
theorem wd_97 : Cond.methodLink "CarHouse$Bus" 5 ⟨"java/lang/Object", "<init>", "()V"⟩ ∈ GT := gt_1 (List.mem_of_getElem? (i := 97) rfl) rfl
theorem wd_98 : Cond.classLink "CarHouse$Bus" 22 "[[I" ∈ GT := gt_1 (List.mem_of_getElem? (i := 98) rfl) rfl
theorem wd_99 : Cond.classLink "CarHouse$Bus" 30 "CarHouse$Ear" ∈ GT := gt_1 (List.mem_of_getElem? (i := 99) rfl) rfl
theorem wd_101 : Cond.instantiable "CarHouse$Ear" 20 ∈ GT := gt_1 (List.mem_of_getElem? (i := 101) rfl) rfl
theorem nd_102 : Cond.methodLinkNest "CarHouse$Bus" 42 ⟨"CarHouse$Ear", "<init>", "()V"⟩ "CarHouse" ∈ NT := gn_1 (List.mem_of_getElem? (i := 102) rfl) rfl
theorem wd_103 : Cond.instanceMethod ⟨"CarHouse$Ear", "<init>", "()V"⟩ ∈ GT := gt_1 (List.mem_of_getElem? (i := 103) rfl) rfl
theorem wd_104 : Cond.code ⟨"CarHouse$Ear", "<init>", "()V"⟩ prog_7_method_1_code 1 none ∈ GT := gt_1 (List.mem_of_getElem? (i := 104) rfl) rfl
theorem wd_105 : Cond.methodLink "CarHouse$Ear" 1 ⟨"java/lang/Object", "<init>", "()V"⟩ ∈ GT := gt_1 (List.mem_of_getElem? (i := 105) rfl) rfl
theorem wd_106 : Cond.fieldLink "CarHouse$Ear" 7 "CarHouse$Ear" "octets" "[I" ∈ GT := gt_1 (List.mem_of_getElem? (i := 106) rfl) rfl
theorem nd_107 : Cond.fieldLinkNest "CarHouse$Car" 219 "CarHouse$Ear" "octets" "[I" "CarHouse" ∈ NT := gn_1 (List.mem_of_getElem? (i := 107) rfl) rfl
theorem wd_108 : Cond.fieldLink "CarHouse$Ear" 13 "CarHouse$Ear" "stage" "I" ∈ GT := gt_1 (List.mem_of_getElem? (i := 108) rfl) rfl
theorem wd_109 : Cond.fieldLink "CarHouse$Ear" 17 "CarHouse$Ear" "last" "I" ∈ GT := gt_1 (List.mem_of_getElem? (i := 109) rfl) rfl
theorem wd_110 : Cond.fieldLink "CarHouse$Ear" 20 "CarHouse$Ear" "same" "I" ∈ GT := gt_1 (List.mem_of_getElem? (i := 110) rfl) rfl
theorem wd_111 : Cond.fieldLink "CarHouse$Ear" 23 "CarHouse$Ear" "stuffs" "I" ∈ GT := gt_1 (List.mem_of_getElem? (i := 111) rfl) rfl
theorem wd_112 : Cond.fieldLink "CarHouse$Ear" 26 "CarHouse$Ear" "plain" "I" ∈ GT := gt_1 (List.mem_of_getElem? (i := 112) rfl) rfl
theorem wd_113 : Cond.fieldLink "CarHouse$Ear" 29 "CarHouse$Ear" "behind" "I" ∈ GT := gt_1 (List.mem_of_getElem? (i := 113) rfl) rfl
theorem wd_114 : Cond.fieldLink "CarHouse$Ear" 36 "CarHouse$Ear" "check15" "I" ∈ GT := gt_1 (List.mem_of_getElem? (i := 114) rfl) rfl
theorem wd_115 : Cond.fieldLink "CarHouse$Ear" 41 "CarHouse$Ear" "check17" "I" ∈ GT := gt_1 (List.mem_of_getElem? (i := 115) rfl) rfl
theorem wd_116 : Cond.fieldLink "CarHouse$Ear" 46 "CarHouse$Ear" "check21" "I" ∈ GT := gt_1 (List.mem_of_getElem? (i := 116) rfl) rfl
theorem wd_117 : Cond.fieldLink "CarHouse$Ear" 49 "CarHouse$Ear" "identifier" "I" ∈ GT := gt_1 (List.mem_of_getElem? (i := 117) rfl) rfl
theorem nd_118 : Cond.fieldLinkNest "CarHouse$Car" 210 "CarHouse$Ear" "identifier" "I" "CarHouse" ∈ NT := gn_1 (List.mem_of_getElem? (i := 118) rfl) rfl
theorem wd_119 : Cond.fieldLink "CarHouse$Ear" 52 "CarHouse$Ear" "remote" "I" ∈ GT := gt_1 (List.mem_of_getElem? (i := 119) rfl) rfl
theorem wd_120 : Cond.fieldLink "CarHouse$Ear" 55 "CarHouse$Ear" "extended" "I" ∈ GT := gt_1 (List.mem_of_getElem? (i := 120) rfl) rfl
theorem wd_121 : Cond.fieldLink "CarHouse$Ear" 58 "CarHouse$Ear" "flexible" "I" ∈ GT := gt_1 (List.mem_of_getElem? (i := 121) rfl) rfl
theorem wd_122 : Cond.fieldLink "CarHouse$Ear" 61 "CarHouse$Ear" "code" "I" ∈ GT := gt_1 (List.mem_of_getElem? (i := 122) rfl) rfl
theorem wd_123 : Cond.fieldLink "CarHouse$Ear" 65 "CarHouse$Ear" "codeAt" "I" ∈ GT := gt_1 (List.mem_of_getElem? (i := 123) rfl) rfl
theorem wd_124 : Cond.fieldLink "CarHouse$Ear" 68 "CarHouse$Ear" "octetCount" "I" ∈ GT := gt_1 (List.mem_of_getElem? (i := 124) rfl) rfl
theorem nd_125 : Cond.fieldLinkNest "CarHouse$Car" 207 "CarHouse$Ear" "octetCount" "I" "CarHouse" ∈ NT := gn_1 (List.mem_of_getElem? (i := 125) rfl) rfl
theorem wd_126 : Cond.fieldLink "CarHouse$Ear" 71 "CarHouse$Ear" "octetsEnd" "I" ∈ GT := gt_1 (List.mem_of_getElem? (i := 126) rfl) rfl
theorem wd_127 : Cond.fieldLink "CarHouse$Ear" 74 "CarHouse$Ear" "told" "I" ∈ GT := gt_1 (List.mem_of_getElem? (i := 127) rfl) rfl
theorem wd_128 : Cond.fieldLink "CarHouse$Ear" 77 "CarHouse$Ear" "toldCount" "I" ∈ GT := gt_1 (List.mem_of_getElem? (i := 128) rfl) rfl
theorem wd_129 : Cond.laysFinal "CarHouse$Ear" "CarHouse$Ear" "octets" "[I" ∈ GT := gt_1 (List.mem_of_getElem? (i := 129) rfl) rfl
theorem wd_131 : Cond.lays "CarHouse$Ear" "CarHouse$Ear" "stage" "I" ∈ GT := gt_1 (List.mem_of_getElem? (i := 131) rfl) rfl
theorem wd_133 : Cond.lays "CarHouse$Ear" "CarHouse$Ear" "last" "I" ∈ GT := gt_1 (List.mem_of_getElem? (i := 133) rfl) rfl
theorem wd_135 : Cond.lays "CarHouse$Ear" "CarHouse$Ear" "same" "I" ∈ GT := gt_1 (List.mem_of_getElem? (i := 135) rfl) rfl
theorem wd_137 : Cond.lays "CarHouse$Ear" "CarHouse$Ear" "stuffs" "I" ∈ GT := gt_1 (List.mem_of_getElem? (i := 137) rfl) rfl
theorem wd_139 : Cond.lays "CarHouse$Ear" "CarHouse$Ear" "plain" "I" ∈ GT := gt_1 (List.mem_of_getElem? (i := 139) rfl) rfl
theorem wd_141 : Cond.lays "CarHouse$Ear" "CarHouse$Ear" "behind" "I" ∈ GT := gt_1 (List.mem_of_getElem? (i := 141) rfl) rfl
theorem wd_143 : Cond.lays "CarHouse$Ear" "CarHouse$Ear" "check15" "I" ∈ GT := gt_1 (List.mem_of_getElem? (i := 143) rfl) rfl
theorem wd_145 : Cond.lays "CarHouse$Ear" "CarHouse$Ear" "check17" "I" ∈ GT := gt_1 (List.mem_of_getElem? (i := 145) rfl) rfl
theorem wd_147 : Cond.lays "CarHouse$Ear" "CarHouse$Ear" "check21" "I" ∈ GT := gt_1 (List.mem_of_getElem? (i := 147) rfl) rfl
theorem wd_149 : Cond.lays "CarHouse$Ear" "CarHouse$Ear" "identifier" "I" ∈ GT := gt_1 (List.mem_of_getElem? (i := 149) rfl) rfl
theorem wd_151 : Cond.lays "CarHouse$Ear" "CarHouse$Ear" "remote" "I" ∈ GT := gt_1 (List.mem_of_getElem? (i := 151) rfl) rfl
theorem wd_153 : Cond.lays "CarHouse$Ear" "CarHouse$Ear" "extended" "I" ∈ GT := gt_1 (List.mem_of_getElem? (i := 153) rfl) rfl
theorem wd_155 : Cond.lays "CarHouse$Ear" "CarHouse$Ear" "flexible" "I" ∈ GT := gt_1 (List.mem_of_getElem? (i := 155) rfl) rfl
theorem wd_157 : Cond.lays "CarHouse$Ear" "CarHouse$Ear" "code" "I" ∈ GT := gt_1 (List.mem_of_getElem? (i := 157) rfl) rfl
theorem wd_159 : Cond.lays "CarHouse$Ear" "CarHouse$Ear" "codeAt" "I" ∈ GT := gt_1 (List.mem_of_getElem? (i := 159) rfl) rfl
theorem wd_161 : Cond.lays "CarHouse$Ear" "CarHouse$Ear" "octetCount" "I" ∈ GT := gt_1 (List.mem_of_getElem? (i := 161) rfl) rfl
theorem wd_163 : Cond.lays "CarHouse$Ear" "CarHouse$Ear" "octetsEnd" "I" ∈ GT := gt_1 (List.mem_of_getElem? (i := 163) rfl) rfl
theorem wd_165 : Cond.lays "CarHouse$Ear" "CarHouse$Ear" "told" "I" ∈ GT := gt_1 (List.mem_of_getElem? (i := 165) rfl) rfl
theorem wd_167 : Cond.lays "CarHouse$Ear" "CarHouse$Ear" "toldCount" "I" ∈ GT := gt_1 (List.mem_of_getElem? (i := 167) rfl) rfl
theorem wd_170 : Cond.arrayClass .byte ∈ GT := gt_1 (List.mem_of_getElem? (i := 170) rfl) rfl
theorem wd_171 : Cond.fieldLink "CarHouse$Bus" 11 "CarHouse$Bus" "bits" "[B" ∈ GT := gt_1 (List.mem_of_getElem? (i := 171) rfl) rfl
theorem nd_172 : Cond.fieldLinkNest "CarHouse" 157 "CarHouse$Bus" "bits" "[B" "CarHouse" ∈ NT := gn_1 (List.mem_of_getElem? (i := 172) rfl) rfl
theorem wd_173 : Cond.fieldLink "CarHouse$Bus" 15 "CarHouse$Bus" "flips" "[B" ∈ GT := gt_1 (List.mem_of_getElem? (i := 173) rfl) rfl
theorem nd_174 : Cond.fieldLinkNest "CarHouse" 181 "CarHouse$Bus" "flips" "[B" "CarHouse" ∈ NT := gn_1 (List.mem_of_getElem? (i := 174) rfl) rfl
theorem wd_175 : Cond.fieldLink "CarHouse$Bus" 18 "CarHouse$Bus" "errors" "[I" ∈ GT := gt_1 (List.mem_of_getElem? (i := 175) rfl) rfl
theorem wd_176 : Cond.fieldLink "CarHouse$Bus" 24 "CarHouse$Bus" "node" "[[I" ∈ GT := gt_1 (List.mem_of_getElem? (i := 176) rfl) rfl
theorem nd_177 : Cond.fieldLinkNest "CarHouse" 165 "CarHouse$Bus" "node" "[[I" "CarHouse" ∈ NT := gn_1 (List.mem_of_getElem? (i := 177) rfl) rfl
theorem wd_178 : Cond.fieldLink "CarHouse$Bus" 27 "CarHouse$Bus" "wire" "[[I" ∈ GT := gt_1 (List.mem_of_getElem? (i := 178) rfl) rfl
theorem wd_179 : Cond.fieldLink "CarHouse$Bus" 32 "CarHouse$Bus" "ears" "[LCarHouse$Ear;" ∈ GT := gt_1 (List.mem_of_getElem? (i := 179) rfl) rfl
theorem nd_180 : Cond.fieldLinkNest "CarHouse$Car" 197 "CarHouse$Bus" "ears" "[LCarHouse$Ear;" "CarHouse" ∈ NT := gn_1 (List.mem_of_getElem? (i := 180) rfl) rfl
theorem wd_181 : Cond.fieldLink "CarHouse$Bus" 36 "CarHouse$Bus" "frame" "[[I" ∈ GT := gt_1 (List.mem_of_getElem? (i := 181) rfl) rfl
theorem wd_182 : Cond.fieldLink "CarHouse$Bus" 39 "CarHouse$Bus" "octets" "[I" ∈ GT := gt_1 (List.mem_of_getElem? (i := 182) rfl) rfl
theorem wd_183 : Cond.fieldLink "CarHouse$Bus" 49 "CarHouse$Bus" "nodes" "I" ∈ GT := gt_1 (List.mem_of_getElem? (i := 183) rfl) rfl
theorem wd_184 : Cond.fieldLink "CarHouse$Bus" 53 "CarHouse$Bus" "frames" "I" ∈ GT := gt_1 (List.mem_of_getElem? (i := 184) rfl) rfl
theorem wd_185 : Cond.fieldLink "CarHouse$Bus" 56 "CarHouse$Bus" "errorCount" "I" ∈ GT := gt_1 (List.mem_of_getElem? (i := 185) rfl) rfl
theorem nd_186 : Cond.fieldLinkNest "CarHouse" 168 "CarHouse$Bus" "errorCount" "I" "CarHouse" ∈ NT := gn_1 (List.mem_of_getElem? (i := 186) rfl) rfl
theorem wd_187 : Cond.fieldLink "CarHouse$Bus" 59 "CarHouse$Bus" "doneCount" "I" ∈ GT := gt_1 (List.mem_of_getElem? (i := 187) rfl) rfl
theorem nd_188 : Cond.fieldLinkNest "CarHouse" 147 "CarHouse$Bus" "doneCount" "I" "CarHouse" ∈ NT := gn_1 (List.mem_of_getElem? (i := 188) rfl) rfl
theorem wd_189 : Cond.fieldLink "CarHouse$Bus" 62 "CarHouse$Bus" "fresh" "I" ∈ GT := gt_1 (List.mem_of_getElem? (i := 189) rfl) rfl
theorem nd_190 : Cond.fieldLinkNest "CarHouse$Car" 149 "CarHouse$Bus" "fresh" "I" "CarHouse" ∈ NT := gn_1 (List.mem_of_getElem? (i := 190) rfl) rfl
theorem wd_191 : Cond.fieldLink "CarHouse$Bus" 65 "CarHouse$Bus" "asleep" "Z" ∈ GT := gt_1 (List.mem_of_getElem? (i := 191) rfl) rfl
theorem wd_192 : Cond.laysFinal "CarHouse$Bus" "CarHouse$Bus" "bits" "[B" ∈ GT := gt_1 (List.mem_of_getElem? (i := 192) rfl) rfl
theorem wd_194 : Cond.laysFinal "CarHouse$Bus" "CarHouse$Bus" "flips" "[B" ∈ GT := gt_1 (List.mem_of_getElem? (i := 194) rfl) rfl
theorem wd_196 : Cond.laysFinal "CarHouse$Bus" "CarHouse$Bus" "errors" "[I" ∈ GT := gt_1 (List.mem_of_getElem? (i := 196) rfl) rfl
theorem wd_198 : Cond.laysFinal "CarHouse$Bus" "CarHouse$Bus" "node" "[[I" ∈ GT := gt_1 (List.mem_of_getElem? (i := 198) rfl) rfl
theorem wd_200 : Cond.laysFinal "CarHouse$Bus" "CarHouse$Bus" "wire" "[[I" ∈ GT := gt_1 (List.mem_of_getElem? (i := 200) rfl) rfl
theorem wd_202 : Cond.laysFinal "CarHouse$Bus" "CarHouse$Bus" "ears" "[LCarHouse$Ear;" ∈ GT := gt_1 (List.mem_of_getElem? (i := 202) rfl) rfl
theorem wd_204 : Cond.laysFinal "CarHouse$Bus" "CarHouse$Bus" "frame" "[[I" ∈ GT := gt_1 (List.mem_of_getElem? (i := 204) rfl) rfl
theorem wd_206 : Cond.laysFinal "CarHouse$Bus" "CarHouse$Bus" "octets" "[I" ∈ GT := gt_1 (List.mem_of_getElem? (i := 206) rfl) rfl
theorem wd_208 : Cond.lays "CarHouse$Bus" "CarHouse$Bus" "nodes" "I" ∈ GT := gt_1 (List.mem_of_getElem? (i := 208) rfl) rfl
theorem wd_210 : Cond.lays "CarHouse$Bus" "CarHouse$Bus" "frames" "I" ∈ GT := gt_1 (List.mem_of_getElem? (i := 210) rfl) rfl
theorem wd_212 : Cond.lays "CarHouse$Bus" "CarHouse$Bus" "errorCount" "I" ∈ GT := gt_1 (List.mem_of_getElem? (i := 212) rfl) rfl
theorem wd_214 : Cond.lays "CarHouse$Bus" "CarHouse$Bus" "doneCount" "I" ∈ GT := gt_1 (List.mem_of_getElem? (i := 214) rfl) rfl
theorem wd_216 : Cond.lays "CarHouse$Bus" "CarHouse$Bus" "fresh" "I" ∈ GT := gt_1 (List.mem_of_getElem? (i := 216) rfl) rfl
theorem wd_218 : Cond.lays "CarHouse$Bus" "CarHouse$Bus" "asleep" "Z" ∈ GT := gt_1 (List.mem_of_getElem? (i := 218) rfl) rfl
theorem wd_221 : Cond.classLink "CarHouse$Car" 31 "CarHouse$Frames" ∈ GT := gt_1 (List.mem_of_getElem? (i := 221) rfl) rfl
theorem wd_222 : Cond.instantiable "CarHouse$Frames" 15 ∈ GT := gt_1 (List.mem_of_getElem? (i := 222) rfl) rfl
theorem nd_223 : Cond.methodLinkNest "CarHouse$Car" 33 ⟨"CarHouse$Frames", "<init>", "()V"⟩ "CarHouse" ∈ NT := gn_1 (List.mem_of_getElem? (i := 223) rfl) rfl
theorem wd_224 : Cond.instanceMethod ⟨"CarHouse$Frames", "<init>", "()V"⟩ ∈ GT := gt_1 (List.mem_of_getElem? (i := 224) rfl) rfl
theorem wd_225 : Cond.code ⟨"CarHouse$Frames", "<init>", "()V"⟩ prog_8_method_1_code 1 none ∈ GT := gt_1 (List.mem_of_getElem? (i := 225) rfl) rfl
theorem wd_226 : Cond.methodLink "CarHouse$Frames" 3 ⟨"java/lang/Object", "<init>", "()V"⟩ ∈ GT := gt_1 (List.mem_of_getElem? (i := 226) rfl) rfl
theorem wd_227 : Cond.classLink "CarHouse$Frames" 9 "[[I" ∈ GT := gt_1 (List.mem_of_getElem? (i := 227) rfl) rfl
theorem wd_228 : Cond.fieldLink "CarHouse$Frames" 11 "CarHouse$Frames" "signal" "[[I" ∈ GT := gt_1 (List.mem_of_getElem? (i := 228) rfl) rfl
theorem nd_229 : Cond.fieldLinkNest "CarHouse$Reader" 85 "CarHouse$Frames" "signal" "[[I" "CarHouse" ∈ NT := gn_1 (List.mem_of_getElem? (i := 229) rfl) rfl
theorem nd_230 : Cond.fieldLinkNest "CarHouse" 133 "CarHouse$Frames" "signal" "[[I" "CarHouse" ∈ NT := gn_1 (List.mem_of_getElem? (i := 230) rfl) rfl
theorem wd_231 : Cond.fieldLink "CarHouse$Frames" 16 "CarHouse$Frames" "frame" "[[I" ∈ GT := gt_1 (List.mem_of_getElem? (i := 231) rfl) rfl
theorem nd_232 : Cond.fieldLinkNest "CarHouse$Car" 134 "CarHouse$Frames" "frame" "[[I" "CarHouse" ∈ NT := gn_1 (List.mem_of_getElem? (i := 232) rfl) rfl
theorem nd_233 : Cond.fieldLinkNest "CarHouse" 127 "CarHouse$Frames" "frame" "[[I" "CarHouse" ∈ NT := gn_1 (List.mem_of_getElem? (i := 233) rfl) rfl
theorem wd_234 : Cond.fieldLink "CarHouse$Frames" 19 "CarHouse$Frames" "atPosition" "[I" ∈ GT := gt_1 (List.mem_of_getElem? (i := 234) rfl) rfl
theorem wd_235 : Cond.fieldLink "CarHouse$Frames" 23 "CarHouse$Frames" "key" "[[I" ∈ GT := gt_1 (List.mem_of_getElem? (i := 235) rfl) rfl
theorem wd_236 : Cond.fieldLink "CarHouse$Frames" 26 "CarHouse$Frames" "counter" "[[I" ∈ GT := gt_1 (List.mem_of_getElem? (i := 236) rfl) rfl
theorem wd_237 : Cond.fieldLink "CarHouse$Frames" 29 "CarHouse$Frames" "group" "[I" ∈ GT := gt_1 (List.mem_of_getElem? (i := 237) rfl) rfl
theorem wd_238 : Cond.fieldLink "CarHouse$Frames" 32 "CarHouse$Frames" "choice" "[I" ∈ GT := gt_1 (List.mem_of_getElem? (i := 238) rfl) rfl
theorem wd_239 : Cond.fieldLink "CarHouse$Frames" 35 "CarHouse$Frames" "filled" "[I" ∈ GT := gt_1 (List.mem_of_getElem? (i := 239) rfl) rfl
theorem wd_240 : Cond.fieldLink "CarHouse$Frames" 38 "CarHouse$Frames" "octets" "[I" ∈ GT := gt_2 (List.mem_of_getElem? (i := 0) rfl) rfl
theorem nd_241 : Cond.fieldLinkNest "CarHouse$Car" 190 "CarHouse$Frames" "octets" "[I" "CarHouse" ∈ NT := gn_2 (List.mem_of_getElem? (i := 1) rfl) rfl
theorem wd_242 : Cond.fieldLink "CarHouse$Frames" 41 "CarHouse$Frames" "sealed" "[I" ∈ GT := gt_2 (List.mem_of_getElem? (i := 2) rfl) rfl
theorem wd_243 : Cond.fieldLink "CarHouse$Frames" 44 "CarHouse$Frames" "signals" "I" ∈ GT := gt_2 (List.mem_of_getElem? (i := 3) rfl) rfl
theorem nd_244 : Cond.fieldLinkNest "CarHouse" 98 "CarHouse$Frames" "signals" "I" "CarHouse" ∈ NT := gn_2 (List.mem_of_getElem? (i := 4) rfl) rfl
theorem nd_245 : Cond.fieldLinkNest "CarHouse$Reader" 231 "CarHouse$Frames" "signals" "I" "CarHouse" ∈ NT := gn_2 (List.mem_of_getElem? (i := 5) rfl) rfl
theorem wd_246 : Cond.fieldLink "CarHouse$Frames" 48 "CarHouse$Frames" "frames" "I" ∈ GT := gt_2 (List.mem_of_getElem? (i := 6) rfl) rfl
theorem nd_247 : Cond.fieldLinkNest "CarHouse$Car" 132 "CarHouse$Frames" "frames" "I" "CarHouse" ∈ NT := gn_2 (List.mem_of_getElem? (i := 7) rfl) rfl
theorem nd_248 : Cond.fieldLinkNest "CarHouse" 103 "CarHouse$Frames" "frames" "I" "CarHouse" ∈ NT := gn_2 (List.mem_of_getElem? (i := 8) rfl) rfl
theorem wd_249 : Cond.fieldLink "CarHouse$Frames" 51 "CarHouse$Frames" "keys" "I" ∈ GT := gt_2 (List.mem_of_getElem? (i := 9) rfl) rfl
theorem wd_250 : Cond.fieldLink "CarHouse$Frames" 97 "CarHouse$Frames" "groups" "I" ∈ GT := gt_2 (List.mem_of_getElem? (i := 10) rfl) rfl
theorem wd_251 : Cond.fieldLink "CarHouse$Frames" 55 "CarHouse$Frames" "soonest" "I" ∈ GT := gt_2 (List.mem_of_getElem? (i := 11) rfl) rfl
theorem nd_252 : Cond.fieldLinkNest "CarHouse$Car" 165 "CarHouse$Frames" "soonest" "I" "CarHouse" ∈ NT := gn_2 (List.mem_of_getElem? (i := 12) rfl) rfl
theorem wd_253 : Cond.laysFinal "CarHouse$Frames" "CarHouse$Frames" "signal" "[[I" ∈ GT := gt_2 (List.mem_of_getElem? (i := 13) rfl) rfl
theorem wd_255 : Cond.laysFinal "CarHouse$Frames" "CarHouse$Frames" "frame" "[[I" ∈ GT := gt_2 (List.mem_of_getElem? (i := 15) rfl) rfl
theorem wd_257 : Cond.laysFinal "CarHouse$Frames" "CarHouse$Frames" "atPosition" "[I" ∈ GT := gt_2 (List.mem_of_getElem? (i := 17) rfl) rfl
theorem wd_259 : Cond.laysFinal "CarHouse$Frames" "CarHouse$Frames" "key" "[[I" ∈ GT := gt_2 (List.mem_of_getElem? (i := 19) rfl) rfl
theorem wd_261 : Cond.laysFinal "CarHouse$Frames" "CarHouse$Frames" "counter" "[[I" ∈ GT := gt_2 (List.mem_of_getElem? (i := 21) rfl) rfl
theorem wd_263 : Cond.laysFinal "CarHouse$Frames" "CarHouse$Frames" "group" "[I" ∈ GT := gt_2 (List.mem_of_getElem? (i := 23) rfl) rfl
theorem wd_265 : Cond.laysFinal "CarHouse$Frames" "CarHouse$Frames" "choice" "[I" ∈ GT := gt_2 (List.mem_of_getElem? (i := 25) rfl) rfl
theorem wd_267 : Cond.laysFinal "CarHouse$Frames" "CarHouse$Frames" "filled" "[I" ∈ GT := gt_2 (List.mem_of_getElem? (i := 27) rfl) rfl
theorem wd_269 : Cond.laysFinal "CarHouse$Frames" "CarHouse$Frames" "octets" "[I" ∈ GT := gt_2 (List.mem_of_getElem? (i := 29) rfl) rfl
theorem wd_271 : Cond.laysFinal "CarHouse$Frames" "CarHouse$Frames" "sealed" "[I" ∈ GT := gt_2 (List.mem_of_getElem? (i := 31) rfl) rfl
theorem wd_273 : Cond.lays "CarHouse$Frames" "CarHouse$Frames" "signals" "I" ∈ GT := gt_2 (List.mem_of_getElem? (i := 33) rfl) rfl
theorem wd_275 : Cond.lays "CarHouse$Frames" "CarHouse$Frames" "frames" "I" ∈ GT := gt_2 (List.mem_of_getElem? (i := 35) rfl) rfl
theorem wd_277 : Cond.lays "CarHouse$Frames" "CarHouse$Frames" "keys" "I" ∈ GT := gt_2 (List.mem_of_getElem? (i := 37) rfl) rfl
theorem wd_279 : Cond.lays "CarHouse$Frames" "CarHouse$Frames" "groups" "I" ∈ GT := gt_2 (List.mem_of_getElem? (i := 39) rfl) rfl
theorem wd_281 : Cond.lays "CarHouse$Frames" "CarHouse$Frames" "soonest" "I" ∈ GT := gt_2 (List.mem_of_getElem? (i := 41) rfl) rfl
theorem wd_284 : Cond.classLink "CarHouse$Car" 38 "CarHouse$Codes" ∈ GT := gt_2 (List.mem_of_getElem? (i := 44) rfl) rfl
theorem wd_285 : Cond.instantiable "CarHouse$Codes" 7 ∈ GT := gt_2 (List.mem_of_getElem? (i := 45) rfl) rfl
theorem wd_286 : Cond.methodLink "CarHouse$Car" 40 ⟨"CarHouse$Codes", "<init>", "()V"⟩ ∈ GT := gt_2 (List.mem_of_getElem? (i := 46) rfl) rfl
theorem wd_287 : Cond.instanceMethod ⟨"CarHouse$Codes", "<init>", "()V"⟩ ∈ GT := gt_2 (List.mem_of_getElem? (i := 47) rfl) rfl
theorem wd_288 : Cond.code ⟨"CarHouse$Codes", "<init>", "()V"⟩ prog_5_method_1_code 4 none ∈ GT := gt_2 (List.mem_of_getElem? (i := 48) rfl) rfl
theorem wd_289 : Cond.methodLink "CarHouse$Codes" 3 ⟨"java/lang/Object", "<init>", "()V"⟩ ∈ GT := gt_2 (List.mem_of_getElem? (i := 49) rfl) rfl
theorem wd_290 : Cond.classLink "CarHouse$Codes" 16 "[[I" ∈ GT := gt_2 (List.mem_of_getElem? (i := 50) rfl) rfl
theorem wd_291 : Cond.methodLink "CarHouse$Codes" 34 ⟨"CarHouse$Codes", "mixBits", "(I)I"⟩ ∈ GT := gt_2 (List.mem_of_getElem? (i := 51) rfl) rfl
theorem wd_292 : Cond.static ⟨"CarHouse$Codes", "mixBits", "(I)I"⟩ ∈ GT := gt_2 (List.mem_of_getElem? (i := 52) rfl) rfl
theorem wd_293 : Cond.code ⟨"CarHouse$Codes", "mixBits", "(I)I"⟩ prog_5_method_2_code 2 (some .int) ∈ GT := gt_2 (List.mem_of_getElem? (i := 53) rfl) rfl
theorem wd_294 : Cond.methodLink "CarHouse$Codes" 38 ⟨"CarHouse$Codes", "timesInverseOfThree", "(I)I"⟩ ∈ GT := gt_2 (List.mem_of_getElem? (i := 54) rfl) rfl
theorem wd_295 : Cond.static ⟨"CarHouse$Codes", "timesInverseOfThree", "(I)I"⟩ ∈ GT := gt_2 (List.mem_of_getElem? (i := 55) rfl) rfl
theorem wd_296 : Cond.code ⟨"CarHouse$Codes", "timesInverseOfThree", "(I)I"⟩ prog_5_method_3_code 2 (some .int) ∈ GT := gt_2 (List.mem_of_getElem? (i := 56) rfl) rfl
theorem wd_297 : Cond.fieldLink "CarHouse$Codes" 9 "CarHouse$Codes" "replaced" "[I" ∈ GT := gt_2 (List.mem_of_getElem? (i := 57) rfl) rfl
theorem wd_298 : Cond.fieldLink "CarHouse$Codes" 13 "CarHouse$Codes" "doubled" "[I" ∈ GT := gt_2 (List.mem_of_getElem? (i := 58) rfl) rfl
theorem wd_299 : Cond.fieldLink "CarHouse$Codes" 18 "CarHouse$Codes" "roundKey" "[[I" ∈ GT := gt_2 (List.mem_of_getElem? (i := 59) rfl) rfl
theorem wd_300 : Cond.fieldLink "CarHouse$Codes" 21 "CarHouse$Codes" "second" "[[I" ∈ GT := gt_2 (List.mem_of_getElem? (i := 60) rfl) rfl
theorem wd_301 : Cond.fieldLink "CarHouse$Codes" 24 "CarHouse$Codes" "known" "[Z" ∈ GT := gt_2 (List.mem_of_getElem? (i := 61) rfl) rfl
theorem wd_302 : Cond.fieldLink "CarHouse$Codes" 28 "CarHouse$Codes" "block" "[I" ∈ GT := gt_2 (List.mem_of_getElem? (i := 62) rfl) rfl
theorem wd_303 : Cond.fieldLink "CarHouse$Codes" 31 "CarHouse$Codes" "out" "[I" ∈ GT := gt_2 (List.mem_of_getElem? (i := 63) rfl) rfl
theorem nd_304 : Cond.fieldLinkNest "CarHouse$Frames" 139 "CarHouse$Codes" "out" "[I" "CarHouse" ∈ NT := gn_2 (List.mem_of_getElem? (i := 64) rfl) rfl
theorem wd_305 : Cond.laysFinal "CarHouse$Codes" "CarHouse$Codes" "replaced" "[I" ∈ GT := gt_2 (List.mem_of_getElem? (i := 65) rfl) rfl
theorem wd_307 : Cond.laysFinal "CarHouse$Codes" "CarHouse$Codes" "doubled" "[I" ∈ GT := gt_2 (List.mem_of_getElem? (i := 67) rfl) rfl
theorem wd_309 : Cond.laysFinal "CarHouse$Codes" "CarHouse$Codes" "roundKey" "[[I" ∈ GT := gt_2 (List.mem_of_getElem? (i := 69) rfl) rfl
theorem wd_311 : Cond.laysFinal "CarHouse$Codes" "CarHouse$Codes" "second" "[[I" ∈ GT := gt_2 (List.mem_of_getElem? (i := 71) rfl) rfl
theorem wd_313 : Cond.laysFinal "CarHouse$Codes" "CarHouse$Codes" "known" "[Z" ∈ GT := gt_2 (List.mem_of_getElem? (i := 73) rfl) rfl
theorem wd_315 : Cond.laysFinal "CarHouse$Codes" "CarHouse$Codes" "block" "[I" ∈ GT := gt_2 (List.mem_of_getElem? (i := 75) rfl) rfl
theorem wd_317 : Cond.laysFinal "CarHouse$Codes" "CarHouse$Codes" "out" "[I" ∈ GT := gt_2 (List.mem_of_getElem? (i := 77) rfl) rfl
theorem wd_320 : Cond.arrayClass .boolean ∈ GT := gt_2 (List.mem_of_getElem? (i := 80) rfl) rfl
theorem wd_321 : Cond.classLink "CarHouse$Car" 45 "CarHouse$Troubles" ∈ GT := gt_2 (List.mem_of_getElem? (i := 81) rfl) rfl
theorem wd_322 : Cond.instantiable "CarHouse$Troubles" 6 ∈ GT := gt_2 (List.mem_of_getElem? (i := 82) rfl) rfl
theorem nd_323 : Cond.methodLinkNest "CarHouse$Car" 47 ⟨"CarHouse$Troubles", "<init>", "()V"⟩ "CarHouse" ∈ NT := gn_2 (List.mem_of_getElem? (i := 83) rfl) rfl
theorem wd_324 : Cond.instanceMethod ⟨"CarHouse$Troubles", "<init>", "()V"⟩ ∈ GT := gt_2 (List.mem_of_getElem? (i := 84) rfl) rfl
theorem wd_325 : Cond.code ⟨"CarHouse$Troubles", "<init>", "()V"⟩ prog_12_method_1_code 1 none ∈ GT := gt_2 (List.mem_of_getElem? (i := 85) rfl) rfl
theorem wd_326 : Cond.methodLink "CarHouse$Troubles" 3 ⟨"java/lang/Object", "<init>", "()V"⟩ ∈ GT := gt_2 (List.mem_of_getElem? (i := 86) rfl) rfl
theorem wd_327 : Cond.classLink "CarHouse$Troubles" 9 "[[I" ∈ GT := gt_2 (List.mem_of_getElem? (i := 87) rfl) rfl
theorem wd_328 : Cond.fieldLink "CarHouse$Troubles" 11 "CarHouse$Troubles" "code" "[[I" ∈ GT := gt_2 (List.mem_of_getElem? (i := 88) rfl) rfl
theorem wd_329 : Cond.fieldLink "CarHouse$Troubles" 16 "CarHouse$Troubles" "entry" "[I" ∈ GT := gt_2 (List.mem_of_getElem? (i := 89) rfl) rfl
theorem nd_330 : Cond.fieldLinkNest "CarHouse$Questions" 114 "CarHouse$Troubles" "entry" "[I" "CarHouse" ∈ NT := gn_2 (List.mem_of_getElem? (i := 90) rfl) rfl
theorem wd_331 : Cond.fieldLink "CarHouse$Troubles" 20 "CarHouse$Troubles" "codes" "I" ∈ GT := gt_2 (List.mem_of_getElem? (i := 91) rfl) rfl
theorem nd_332 : Cond.fieldLinkNest "CarHouse" 112 "CarHouse$Troubles" "codes" "I" "CarHouse" ∈ NT := gn_2 (List.mem_of_getElem? (i := 92) rfl) rfl
theorem nd_333 : Cond.fieldLinkNest "CarHouse$Car" 228 "CarHouse$Troubles" "codes" "I" "CarHouse" ∈ NT := gn_2 (List.mem_of_getElem? (i := 93) rfl) rfl
theorem wd_334 : Cond.fieldLink "CarHouse$Troubles" 24 "CarHouse$Troubles" "entries" "I" ∈ GT := gt_2 (List.mem_of_getElem? (i := 94) rfl) rfl
theorem nd_335 : Cond.fieldLinkNest "CarHouse$Questions" 111 "CarHouse$Troubles" "entries" "I" "CarHouse" ∈ NT := gn_2 (List.mem_of_getElem? (i := 95) rfl) rfl
theorem wd_336 : Cond.fieldLink "CarHouse$Troubles" 27 "CarHouse$Troubles" "cycles" "I" ∈ GT := gt_2 (List.mem_of_getElem? (i := 96) rfl) rfl
theorem wd_337 : Cond.fieldLink "CarHouse$Troubles" 30 "CarHouse$Troubles" "events" "I" ∈ GT := gt_2 (List.mem_of_getElem? (i := 97) rfl) rfl
theorem wd_338 : Cond.laysFinal "CarHouse$Troubles" "CarHouse$Troubles" "code" "[[I" ∈ GT := gt_2 (List.mem_of_getElem? (i := 98) rfl) rfl
theorem wd_340 : Cond.laysFinal "CarHouse$Troubles" "CarHouse$Troubles" "entry" "[I" ∈ GT := gt_2 (List.mem_of_getElem? (i := 100) rfl) rfl
theorem wd_342 : Cond.lays "CarHouse$Troubles" "CarHouse$Troubles" "codes" "I" ∈ GT := gt_2 (List.mem_of_getElem? (i := 102) rfl) rfl
theorem wd_344 : Cond.lays "CarHouse$Troubles" "CarHouse$Troubles" "entries" "I" ∈ GT := gt_2 (List.mem_of_getElem? (i := 104) rfl) rfl
theorem wd_346 : Cond.lays "CarHouse$Troubles" "CarHouse$Troubles" "cycles" "I" ∈ GT := gt_2 (List.mem_of_getElem? (i := 106) rfl) rfl
theorem wd_348 : Cond.lays "CarHouse$Troubles" "CarHouse$Troubles" "events" "I" ∈ GT := gt_2 (List.mem_of_getElem? (i := 108) rfl) rfl
theorem wd_351 : Cond.classLink "CarHouse$Car" 52 "CarHouse$Transfer" ∈ GT := gt_2 (List.mem_of_getElem? (i := 111) rfl) rfl
theorem wd_352 : Cond.instantiable "CarHouse$Transfer" 11 ∈ GT := gt_2 (List.mem_of_getElem? (i := 112) rfl) rfl
theorem nd_353 : Cond.methodLinkNest "CarHouse$Car" 54 ⟨"CarHouse$Transfer", "<init>", "()V"⟩ "CarHouse" ∈ NT := gn_2 (List.mem_of_getElem? (i := 113) rfl) rfl
theorem wd_354 : Cond.instanceMethod ⟨"CarHouse$Transfer", "<init>", "()V"⟩ ∈ GT := gt_2 (List.mem_of_getElem? (i := 114) rfl) rfl
theorem wd_355 : Cond.code ⟨"CarHouse$Transfer", "<init>", "()V"⟩ prog_11_method_1_code 1 none ∈ GT := gt_2 (List.mem_of_getElem? (i := 115) rfl) rfl
theorem wd_356 : Cond.methodLink "CarHouse$Transfer" 5 ⟨"java/lang/Object", "<init>", "()V"⟩ ∈ GT := gt_2 (List.mem_of_getElem? (i := 116) rfl) rfl
theorem wd_357 : Cond.classLink "CarHouse$Transfer" 11 "[[I" ∈ GT := gt_2 (List.mem_of_getElem? (i := 117) rfl) rfl
theorem wd_358 : Cond.fieldLink "CarHouse$Transfer" 13 "CarHouse$Transfer" "message" "[[I" ∈ GT := gt_2 (List.mem_of_getElem? (i := 118) rfl) rfl
theorem nd_359 : Cond.fieldLinkNest "CarHouse$Car" 266 "CarHouse$Transfer" "message" "[[I" "CarHouse" ∈ NT := gn_2 (List.mem_of_getElem? (i := 119) rfl) rfl
theorem nd_360 : Cond.fieldLinkNest "CarHouse" 294 "CarHouse$Transfer" "message" "[[I" "CarHouse" ∈ NT := gn_2 (List.mem_of_getElem? (i := 120) rfl) rfl
theorem wd_361 : Cond.fieldLink "CarHouse$Transfer" 16 "CarHouse$Transfer" "octets" "[[I" ∈ GT := gt_2 (List.mem_of_getElem? (i := 121) rfl) rfl
theorem nd_362 : Cond.fieldLinkNest "CarHouse$Car" 264 "CarHouse$Transfer" "octets" "[[I" "CarHouse" ∈ NT := gn_2 (List.mem_of_getElem? (i := 122) rfl) rfl
theorem nd_363 : Cond.fieldLinkNest "CarHouse" 291 "CarHouse$Transfer" "octets" "[[I" "CarHouse" ∈ NT := gn_2 (List.mem_of_getElem? (i := 123) rfl) rfl
theorem wd_364 : Cond.fieldLink "CarHouse$Transfer" 19 "CarHouse$Transfer" "receiver" "[[I" ∈ GT := gt_2 (List.mem_of_getElem? (i := 124) rfl) rfl
theorem wd_365 : Cond.fieldLink "CarHouse$Transfer" 22 "CarHouse$Transfer" "frame" "[[I" ∈ GT := gt_2 (List.mem_of_getElem? (i := 125) rfl) rfl
theorem wd_366 : Cond.fieldLink "CarHouse$Transfer" 25 "CarHouse$Transfer" "written" "[I" ∈ GT := gt_2 (List.mem_of_getElem? (i := 126) rfl) rfl
theorem nd_367 : Cond.fieldLinkNest "CarHouse$Car" 306 "CarHouse$Transfer" "written" "[I" "CarHouse" ∈ NT := gn_2 (List.mem_of_getElem? (i := 127) rfl) rfl
theorem wd_368 : Cond.fieldLink "CarHouse$Transfer" 29 "CarHouse$Transfer" "messages" "I" ∈ GT := gt_2 (List.mem_of_getElem? (i := 128) rfl) rfl
theorem nd_369 : Cond.fieldLinkNest "CarHouse" 271 "CarHouse$Transfer" "messages" "I" "CarHouse" ∈ NT := gn_2 (List.mem_of_getElem? (i := 129) rfl) rfl
theorem wd_370 : Cond.fieldLink "CarHouse$Transfer" 33 "CarHouse$Transfer" "frames" "I" ∈ GT := gt_2 (List.mem_of_getElem? (i := 130) rfl) rfl
theorem nd_371 : Cond.fieldLinkNest "CarHouse$Car" 289 "CarHouse$Transfer" "frames" "I" "CarHouse" ∈ NT := gn_2 (List.mem_of_getElem? (i := 131) rfl) rfl
theorem wd_372 : Cond.fieldLink "CarHouse$Transfer" 36 "CarHouse$Transfer" "handed" "I" ∈ GT := gt_2 (List.mem_of_getElem? (i := 132) rfl) rfl
theorem nd_373 : Cond.fieldLinkNest "CarHouse$Car" 286 "CarHouse$Transfer" "handed" "I" "CarHouse" ∈ NT := gn_2 (List.mem_of_getElem? (i := 133) rfl) rfl
theorem wd_374 : Cond.fieldLink "CarHouse$Transfer" 39 "CarHouse$Transfer" "settled" "I" ∈ GT := gt_2 (List.mem_of_getElem? (i := 134) rfl) rfl
theorem wd_375 : Cond.fieldLink "CarHouse$Transfer" 42 "CarHouse$Transfer" "clock" "I" ∈ GT := gt_2 (List.mem_of_getElem? (i := 135) rfl) rfl
theorem wd_376 : Cond.fieldLink "CarHouse$Transfer" 45 "CarHouse$Transfer" "ended" "Z" ∈ GT := gt_2 (List.mem_of_getElem? (i := 136) rfl) rfl
theorem nd_377 : Cond.fieldLinkNest "CarHouse$Car" 293 "CarHouse$Transfer" "ended" "Z" "CarHouse" ∈ NT := gn_2 (List.mem_of_getElem? (i := 137) rfl) rfl
theorem wd_378 : Cond.laysFinal "CarHouse$Transfer" "CarHouse$Transfer" "message" "[[I" ∈ GT := gt_2 (List.mem_of_getElem? (i := 138) rfl) rfl
theorem wd_380 : Cond.laysFinal "CarHouse$Transfer" "CarHouse$Transfer" "octets" "[[I" ∈ GT := gt_2 (List.mem_of_getElem? (i := 140) rfl) rfl
theorem wd_382 : Cond.laysFinal "CarHouse$Transfer" "CarHouse$Transfer" "receiver" "[[I" ∈ GT := gt_2 (List.mem_of_getElem? (i := 142) rfl) rfl
theorem wd_384 : Cond.laysFinal "CarHouse$Transfer" "CarHouse$Transfer" "frame" "[[I" ∈ GT := gt_2 (List.mem_of_getElem? (i := 144) rfl) rfl
theorem wd_386 : Cond.laysFinal "CarHouse$Transfer" "CarHouse$Transfer" "written" "[I" ∈ GT := gt_2 (List.mem_of_getElem? (i := 146) rfl) rfl
theorem wd_388 : Cond.lays "CarHouse$Transfer" "CarHouse$Transfer" "messages" "I" ∈ GT := gt_2 (List.mem_of_getElem? (i := 148) rfl) rfl
theorem wd_390 : Cond.lays "CarHouse$Transfer" "CarHouse$Transfer" "frames" "I" ∈ GT := gt_2 (List.mem_of_getElem? (i := 150) rfl) rfl
theorem wd_392 : Cond.lays "CarHouse$Transfer" "CarHouse$Transfer" "handed" "I" ∈ GT := gt_2 (List.mem_of_getElem? (i := 152) rfl) rfl
theorem wd_394 : Cond.lays "CarHouse$Transfer" "CarHouse$Transfer" "settled" "I" ∈ GT := gt_2 (List.mem_of_getElem? (i := 154) rfl) rfl
theorem wd_396 : Cond.lays "CarHouse$Transfer" "CarHouse$Transfer" "clock" "I" ∈ GT := gt_2 (List.mem_of_getElem? (i := 156) rfl) rfl
theorem wd_398 : Cond.lays "CarHouse$Transfer" "CarHouse$Transfer" "ended" "Z" ∈ GT := gt_2 (List.mem_of_getElem? (i := 158) rfl) rfl
theorem wd_401 : Cond.classLink "CarHouse$Car" 59 "CarHouse$Questions" ∈ GT := gt_2 (List.mem_of_getElem? (i := 161) rfl) rfl
theorem wd_402 : Cond.instantiable "CarHouse$Questions" 9 ∈ GT := gt_2 (List.mem_of_getElem? (i := 162) rfl) rfl
theorem nd_403 : Cond.methodLinkNest "CarHouse$Car" 61 ⟨"CarHouse$Questions", "<init>", "()V"⟩ "CarHouse" ∈ NT := gn_2 (List.mem_of_getElem? (i := 163) rfl) rfl
theorem wd_404 : Cond.instanceMethod ⟨"CarHouse$Questions", "<init>", "()V"⟩ ∈ GT := gt_2 (List.mem_of_getElem? (i := 164) rfl) rfl
theorem wd_405 : Cond.code ⟨"CarHouse$Questions", "<init>", "()V"⟩ prog_9_method_1_code 1 none ∈ GT := gt_2 (List.mem_of_getElem? (i := 165) rfl) rfl
theorem wd_406 : Cond.methodLink "CarHouse$Questions" 3 ⟨"java/lang/Object", "<init>", "()V"⟩ ∈ GT := gt_2 (List.mem_of_getElem? (i := 166) rfl) rfl
theorem wd_407 : Cond.fieldLink "CarHouse$Questions" 9 "CarHouse$Questions" "session" "[I" ∈ GT := gt_2 (List.mem_of_getElem? (i := 167) rfl) rfl
theorem wd_408 : Cond.fieldLink "CarHouse$Questions" 15 "CarHouse$Questions" "rights" "[Z" ∈ GT := gt_2 (List.mem_of_getElem? (i := 168) rfl) rfl
theorem wd_409 : Cond.fieldLink "CarHouse$Questions" 19 "CarHouse$Questions" "seeded" "[Z" ∈ GT := gt_2 (List.mem_of_getElem? (i := 169) rfl) rfl
theorem wd_410 : Cond.fieldLink "CarHouse$Questions" 22 "CarHouse$Questions" "seed" "[I" ∈ GT := gt_2 (List.mem_of_getElem? (i := 170) rfl) rfl
theorem wd_411 : Cond.fieldLink "CarHouse$Questions" 25 "CarHouse$Questions" "wrong" "[I" ∈ GT := gt_2 (List.mem_of_getElem? (i := 171) rfl) rfl
theorem wd_412 : Cond.fieldLink "CarHouse$Questions" 28 "CarHouse$Questions" "seedOctets" "[I" ∈ GT := gt_2 (List.mem_of_getElem? (i := 172) rfl) rfl
theorem wd_413 : Cond.fieldLink "CarHouse$Questions" 31 "CarHouse$Questions" "reply" "[I" ∈ GT := gt_2 (List.mem_of_getElem? (i := 173) rfl) rfl
theorem nd_414 : Cond.fieldLinkNest "CarHouse$Car" 273 "CarHouse$Questions" "reply" "[I" "CarHouse" ∈ NT := gn_2 (List.mem_of_getElem? (i := 174) rfl) rfl
theorem wd_415 : Cond.fieldLink "CarHouse$Questions" 38 "CarHouse$Questions" "size" "I" ∈ GT := gt_2 (List.mem_of_getElem? (i := 175) rfl) rfl
theorem nd_416 : Cond.fieldLinkNest "CarHouse$Car" 276 "CarHouse$Questions" "size" "I" "CarHouse" ∈ NT := gn_2 (List.mem_of_getElem? (i := 176) rfl) rfl
theorem wd_417 : Cond.fieldLink "CarHouse$Questions" 34 "CarHouse$Questions" "seeds" "I" ∈ GT := gt_2 (List.mem_of_getElem? (i := 177) rfl) rfl
theorem wd_418 : Cond.laysFinal "CarHouse$Questions" "CarHouse$Questions" "session" "[I" ∈ GT := gt_2 (List.mem_of_getElem? (i := 178) rfl) rfl
theorem wd_420 : Cond.laysFinal "CarHouse$Questions" "CarHouse$Questions" "rights" "[Z" ∈ GT := gt_2 (List.mem_of_getElem? (i := 180) rfl) rfl
theorem wd_422 : Cond.laysFinal "CarHouse$Questions" "CarHouse$Questions" "seeded" "[Z" ∈ GT := gt_2 (List.mem_of_getElem? (i := 182) rfl) rfl
theorem wd_424 : Cond.laysFinal "CarHouse$Questions" "CarHouse$Questions" "seed" "[I" ∈ GT := gt_2 (List.mem_of_getElem? (i := 184) rfl) rfl
theorem wd_426 : Cond.laysFinal "CarHouse$Questions" "CarHouse$Questions" "wrong" "[I" ∈ GT := gt_2 (List.mem_of_getElem? (i := 186) rfl) rfl
theorem wd_428 : Cond.laysFinal "CarHouse$Questions" "CarHouse$Questions" "seedOctets" "[I" ∈ GT := gt_2 (List.mem_of_getElem? (i := 188) rfl) rfl
theorem wd_430 : Cond.laysFinal "CarHouse$Questions" "CarHouse$Questions" "reply" "[I" ∈ GT := gt_2 (List.mem_of_getElem? (i := 190) rfl) rfl
theorem wd_432 : Cond.lays "CarHouse$Questions" "CarHouse$Questions" "size" "I" ∈ GT := gt_2 (List.mem_of_getElem? (i := 192) rfl) rfl
theorem wd_434 : Cond.lays "CarHouse$Questions" "CarHouse$Questions" "seeds" "I" ∈ GT := gt_2 (List.mem_of_getElem? (i := 194) rfl) rfl
theorem wd_437 : Cond.classLink "CarHouse$Car" 74 "[[I" ∈ GT := gt_2 (List.mem_of_getElem? (i := 197) rfl) rfl
theorem wd_438 : Cond.instantiable "CarHouse$Chart" 17 ∈ GT := gt_2 (List.mem_of_getElem? (i := 198) rfl) rfl
theorem nd_439 : Cond.methodLinkNest "CarHouse$Car" 86 ⟨"CarHouse$Chart", "<init>", "()V"⟩ "CarHouse" ∈ NT := gn_2 (List.mem_of_getElem? (i := 199) rfl) rfl
theorem wd_440 : Cond.instanceMethod ⟨"CarHouse$Chart", "<init>", "()V"⟩ ∈ GT := gt_2 (List.mem_of_getElem? (i := 200) rfl) rfl
theorem wd_441 : Cond.code ⟨"CarHouse$Chart", "<init>", "()V"⟩ prog_4_method_1_code 1 none ∈ GT := gt_2 (List.mem_of_getElem? (i := 201) rfl) rfl
theorem wd_442 : Cond.methodLink "CarHouse$Chart" 3 ⟨"java/lang/Object", "<init>", "()V"⟩ ∈ GT := gt_2 (List.mem_of_getElem? (i := 202) rfl) rfl
theorem wd_443 : Cond.classLink "CarHouse$Chart" 11 "[[I" ∈ GT := gt_2 (List.mem_of_getElem? (i := 203) rfl) rfl
theorem wd_444 : Cond.fieldLink "CarHouse$Chart" 13 "CarHouse$Chart" "state" "[[I" ∈ GT := gt_2 (List.mem_of_getElem? (i := 204) rfl) rfl
theorem wd_445 : Cond.fieldLink "CarHouse$Chart" 16 "CarHouse$Chart" "edge" "[[I" ∈ GT := gt_2 (List.mem_of_getElem? (i := 205) rfl) rfl
theorem wd_446 : Cond.fieldLink "CarHouse$Chart" 19 "CarHouse$Chart" "act" "[[I" ∈ GT := gt_2 (List.mem_of_getElem? (i := 206) rfl) rfl
theorem wd_447 : Cond.fieldLink "CarHouse$Chart" 22 "CarHouse$Chart" "data" "[J" ∈ GT := gt_2 (List.mem_of_getElem? (i := 207) rfl) rfl
theorem nd_448 : Cond.fieldLinkNest "CarHouse$Questions" 107 "CarHouse$Chart" "data" "[J" "CarHouse" ∈ NT := gn_2 (List.mem_of_getElem? (i := 208) rfl) rfl
theorem nd_449 : Cond.fieldLinkNest "CarHouse$Car" 250 "CarHouse$Chart" "data" "[J" "CarHouse" ∈ NT := gn_2 (List.mem_of_getElem? (i := 209) rfl) rfl
theorem nd_450 : Cond.fieldLinkNest "CarHouse" 225 "CarHouse$Chart" "data" "[J" "CarHouse" ∈ NT := gn_2 (List.mem_of_getElem? (i := 210) rfl) rfl
theorem nd_451 : Cond.fieldLinkNest "CarHouse$Frames" 122 "CarHouse$Chart" "data" "[J" "CarHouse" ∈ NT := gn_2 (List.mem_of_getElem? (i := 211) rfl) rfl
theorem wd_452 : Cond.fieldLink "CarHouse$Chart" 26 "CarHouse$Chart" "events" "[I" ∈ GT := gt_2 (List.mem_of_getElem? (i := 212) rfl) rfl
theorem wd_453 : Cond.fieldLink "CarHouse$Chart" 30 "CarHouse$Chart" "controller" "I" ∈ GT := gt_2 (List.mem_of_getElem? (i := 213) rfl) rfl
theorem nd_454 : Cond.fieldLinkNest "CarHouse$Car" 87 "CarHouse$Chart" "controller" "I" "CarHouse" ∈ NT := gn_2 (List.mem_of_getElem? (i := 214) rfl) rfl
theorem nd_455 : Cond.fieldLinkNest "CarHouse$Questions" 98 "CarHouse$Chart" "controller" "I" "CarHouse" ∈ NT := gn_2 (List.mem_of_getElem? (i := 215) rfl) rfl
theorem nd_456 : Cond.fieldLinkNest "CarHouse$Reader" 239 "CarHouse$Chart" "controller" "I" "CarHouse" ∈ NT := gn_2 (List.mem_of_getElem? (i := 216) rfl) rfl
theorem wd_457 : Cond.fieldLink "CarHouse$Chart" 34 "CarHouse$Chart" "limit" "I" ∈ GT := gt_2 (List.mem_of_getElem? (i := 217) rfl) rfl
theorem wd_458 : Cond.fieldLink "CarHouse$Chart" 37 "CarHouse$Chart" "states" "I" ∈ GT := gt_2 (List.mem_of_getElem? (i := 218) rfl) rfl
theorem nd_459 : Cond.fieldLinkNest "CarHouse" 210 "CarHouse$Chart" "states" "I" "CarHouse" ∈ NT := gn_2 (List.mem_of_getElem? (i := 219) rfl) rfl
theorem wd_460 : Cond.fieldLink "CarHouse$Chart" 40 "CarHouse$Chart" "edges" "I" ∈ GT := gt_2 (List.mem_of_getElem? (i := 220) rfl) rfl
theorem nd_461 : Cond.fieldLinkNest "CarHouse$Reader" 222 "CarHouse$Chart" "edges" "I" "CarHouse" ∈ NT := gn_2 (List.mem_of_getElem? (i := 221) rfl) rfl
theorem wd_462 : Cond.fieldLink "CarHouse$Chart" 43 "CarHouse$Chart" "acts" "I" ∈ GT := gt_2 (List.mem_of_getElem? (i := 222) rfl) rfl
theorem wd_463 : Cond.fieldLink "CarHouse$Chart" 46 "CarHouse$Chart" "dataCount" "I" ∈ GT := gt_2 (List.mem_of_getElem? (i := 223) rfl) rfl
theorem wd_464 : Cond.fieldLink "CarHouse$Chart" 49 "CarHouse$Chart" "queued" "I" ∈ GT := gt_2 (List.mem_of_getElem? (i := 224) rfl) rfl
theorem nd_465 : Cond.fieldLinkNest "CarHouse" 236 "CarHouse$Chart" "queued" "I" "CarHouse" ∈ NT := gn_2 (List.mem_of_getElem? (i := 225) rfl) rfl
theorem wd_466 : Cond.fieldLink "CarHouse$Chart" 52 "CarHouse$Chart" "now" "I" ∈ GT := gt_2 (List.mem_of_getElem? (i := 226) rfl) rfl
theorem wd_467 : Cond.fieldLink "CarHouse$Chart" 55 "CarHouse$Chart" "stops" "I" ∈ GT := gt_2 (List.mem_of_getElem? (i := 227) rfl) rfl
theorem nd_468 : Cond.fieldLinkNest "CarHouse" 239 "CarHouse$Chart" "stops" "I" "CarHouse" ∈ NT := gn_2 (List.mem_of_getElem? (i := 228) rfl) rfl
theorem wd_469 : Cond.fieldLink "CarHouse$Chart" 58 "CarHouse$Chart" "dropped" "I" ∈ GT := gt_2 (List.mem_of_getElem? (i := 229) rfl) rfl
theorem nd_470 : Cond.fieldLinkNest "CarHouse" 233 "CarHouse$Chart" "dropped" "I" "CarHouse" ∈ NT := gn_2 (List.mem_of_getElem? (i := 230) rfl) rfl
theorem wd_471 : Cond.fieldLink "CarHouse$Chart" 61 "CarHouse$Chart" "byZero" "I" ∈ GT := gt_2 (List.mem_of_getElem? (i := 231) rfl) rfl
theorem wd_472 : Cond.fieldLink "CarHouse$Chart" 64 "CarHouse$Chart" "started" "Z" ∈ GT := gt_2 (List.mem_of_getElem? (i := 232) rfl) rfl
theorem nd_473 : Cond.fieldLinkNest "CarHouse" 217 "CarHouse$Chart" "started" "Z" "CarHouse" ∈ NT := gn_2 (List.mem_of_getElem? (i := 233) rfl) rfl
theorem wd_474 : Cond.laysFinal "CarHouse$Chart" "CarHouse$Chart" "state" "[[I" ∈ GT := gt_2 (List.mem_of_getElem? (i := 234) rfl) rfl
theorem wd_476 : Cond.laysFinal "CarHouse$Chart" "CarHouse$Chart" "edge" "[[I" ∈ GT := gt_2 (List.mem_of_getElem? (i := 236) rfl) rfl
theorem wd_478 : Cond.laysFinal "CarHouse$Chart" "CarHouse$Chart" "act" "[[I" ∈ GT := gt_2 (List.mem_of_getElem? (i := 238) rfl) rfl
theorem wd_480 : Cond.laysFinal "CarHouse$Chart" "CarHouse$Chart" "data" "[J" ∈ GT := gt_3 (List.mem_of_getElem? (i := 0) rfl) rfl
theorem wd_482 : Cond.laysFinal "CarHouse$Chart" "CarHouse$Chart" "events" "[I" ∈ GT := gt_3 (List.mem_of_getElem? (i := 2) rfl) rfl
theorem wd_484 : Cond.lays "CarHouse$Chart" "CarHouse$Chart" "controller" "I" ∈ GT := gt_3 (List.mem_of_getElem? (i := 4) rfl) rfl
theorem wd_486 : Cond.lays "CarHouse$Chart" "CarHouse$Chart" "limit" "I" ∈ GT := gt_3 (List.mem_of_getElem? (i := 6) rfl) rfl
theorem wd_488 : Cond.lays "CarHouse$Chart" "CarHouse$Chart" "states" "I" ∈ GT := gt_3 (List.mem_of_getElem? (i := 8) rfl) rfl
theorem wd_490 : Cond.lays "CarHouse$Chart" "CarHouse$Chart" "edges" "I" ∈ GT := gt_3 (List.mem_of_getElem? (i := 10) rfl) rfl
theorem wd_492 : Cond.lays "CarHouse$Chart" "CarHouse$Chart" "acts" "I" ∈ GT := gt_3 (List.mem_of_getElem? (i := 12) rfl) rfl
theorem wd_494 : Cond.lays "CarHouse$Chart" "CarHouse$Chart" "dataCount" "I" ∈ GT := gt_3 (List.mem_of_getElem? (i := 14) rfl) rfl
theorem wd_496 : Cond.lays "CarHouse$Chart" "CarHouse$Chart" "queued" "I" ∈ GT := gt_3 (List.mem_of_getElem? (i := 16) rfl) rfl
theorem wd_498 : Cond.lays "CarHouse$Chart" "CarHouse$Chart" "now" "I" ∈ GT := gt_3 (List.mem_of_getElem? (i := 18) rfl) rfl
theorem wd_500 : Cond.lays "CarHouse$Chart" "CarHouse$Chart" "stops" "I" ∈ GT := gt_3 (List.mem_of_getElem? (i := 20) rfl) rfl
theorem wd_502 : Cond.lays "CarHouse$Chart" "CarHouse$Chart" "dropped" "I" ∈ GT := gt_3 (List.mem_of_getElem? (i := 22) rfl) rfl
theorem wd_504 : Cond.lays "CarHouse$Chart" "CarHouse$Chart" "byZero" "I" ∈ GT := gt_3 (List.mem_of_getElem? (i := 24) rfl) rfl
theorem wd_506 : Cond.lays "CarHouse$Chart" "CarHouse$Chart" "started" "Z" ∈ GT := gt_3 (List.mem_of_getElem? (i := 26) rfl) rfl
theorem wd_509 : Cond.arrayClass .long ∈ GT := gt_3 (List.mem_of_getElem? (i := 29) rfl) rfl
theorem wd_510 : Cond.fieldLink "CarHouse$Car" 11 "CarHouse$Car" "charts" "[LCarHouse$Chart;" ∈ GT := gt_3 (List.mem_of_getElem? (i := 30) rfl) rfl
theorem nd_511 : Cond.fieldLinkNest "CarHouse$Questions" 56 "CarHouse$Car" "charts" "[LCarHouse$Chart;" "CarHouse" ∈ NT := gn_3 (List.mem_of_getElem? (i := 31) rfl) rfl
theorem nd_512 : Cond.fieldLinkNest "CarHouse$Reader" 183 "CarHouse$Car" "charts" "[LCarHouse$Chart;" "CarHouse" ∈ NT := gn_3 (List.mem_of_getElem? (i := 32) rfl) rfl
theorem nd_513 : Cond.fieldLinkNest "CarHouse" 206 "CarHouse$Car" "charts" "[LCarHouse$Chart;" "CarHouse" ∈ NT := gn_3 (List.mem_of_getElem? (i := 33) rfl) rfl
theorem wd_514 : Cond.fieldLink "CarHouse$Car" 20 "CarHouse$Car" "cores" "LCarHouse$Cores;" ∈ GT := gt_3 (List.mem_of_getElem? (i := 34) rfl) rfl
theorem nd_515 : Cond.fieldLinkNest "CarHouse" 82 "CarHouse$Car" "cores" "LCarHouse$Cores;" "CarHouse" ∈ NT := gn_3 (List.mem_of_getElem? (i := 35) rfl) rfl
theorem nd_516 : Cond.fieldLinkNest "CarHouse$Reader" 142 "CarHouse$Car" "cores" "LCarHouse$Cores;" "CarHouse" ∈ NT := gn_3 (List.mem_of_getElem? (i := 36) rfl) rfl
theorem wd_517 : Cond.fieldLink "CarHouse$Car" 27 "CarHouse$Car" "bus" "LCarHouse$Bus;" ∈ GT := gt_3 (List.mem_of_getElem? (i := 37) rfl) rfl
theorem nd_518 : Cond.fieldLinkNest "CarHouse" 143 "CarHouse$Car" "bus" "LCarHouse$Bus;" "CarHouse" ∈ NT := gn_3 (List.mem_of_getElem? (i := 38) rfl) rfl
theorem wd_519 : Cond.fieldLink "CarHouse$Car" 34 "CarHouse$Car" "frames" "LCarHouse$Frames;" ∈ GT := gt_3 (List.mem_of_getElem? (i := 39) rfl) rfl
theorem nd_520 : Cond.fieldLinkNest "CarHouse$Reader" 75 "CarHouse$Car" "frames" "LCarHouse$Frames;" "CarHouse" ∈ NT := gn_3 (List.mem_of_getElem? (i := 40) rfl) rfl
theorem nd_521 : Cond.fieldLinkNest "CarHouse" 94 "CarHouse$Car" "frames" "LCarHouse$Frames;" "CarHouse" ∈ NT := gn_3 (List.mem_of_getElem? (i := 41) rfl) rfl
theorem wd_522 : Cond.fieldLink "CarHouse$Car" 41 "CarHouse$Car" "codes" "LCarHouse$Codes;" ∈ GT := gt_3 (List.mem_of_getElem? (i := 42) rfl) rfl
theorem nd_523 : Cond.fieldLinkNest "CarHouse$Questions" 82 "CarHouse$Car" "codes" "LCarHouse$Codes;" "CarHouse" ∈ NT := gn_3 (List.mem_of_getElem? (i := 43) rfl) rfl
theorem wd_524 : Cond.fieldLink "CarHouse$Car" 48 "CarHouse$Car" "troubles" "LCarHouse$Troubles;" ∈ GT := gt_3 (List.mem_of_getElem? (i := 44) rfl) rfl
theorem nd_525 : Cond.fieldLinkNest "CarHouse$Questions" 70 "CarHouse$Car" "troubles" "LCarHouse$Troubles;" "CarHouse" ∈ NT := gn_3 (List.mem_of_getElem? (i := 45) rfl) rfl
theorem nd_526 : Cond.fieldLinkNest "CarHouse" 108 "CarHouse$Car" "troubles" "LCarHouse$Troubles;" "CarHouse" ∈ NT := gn_3 (List.mem_of_getElem? (i := 46) rfl) rfl
theorem nd_527 : Cond.fieldLinkNest "CarHouse$Reader" 258 "CarHouse$Car" "troubles" "LCarHouse$Troubles;" "CarHouse" ∈ NT := gn_3 (List.mem_of_getElem? (i := 47) rfl) rfl
theorem wd_528 : Cond.fieldLink "CarHouse$Car" 55 "CarHouse$Car" "transfer" "LCarHouse$Transfer;" ∈ GT := gt_3 (List.mem_of_getElem? (i := 48) rfl) rfl
theorem nd_529 : Cond.fieldLinkNest "CarHouse" 267 "CarHouse$Car" "transfer" "LCarHouse$Transfer;" "CarHouse" ∈ NT := gn_3 (List.mem_of_getElem? (i := 49) rfl) rfl
theorem wd_530 : Cond.fieldLink "CarHouse$Car" 62 "CarHouse$Car" "questions" "LCarHouse$Questions;" ∈ GT := gt_3 (List.mem_of_getElem? (i := 50) rfl) rfl
theorem wd_531 : Cond.fieldLink "CarHouse$Car" 66 "CarHouse$Car" "chartOf" "[I" ∈ GT := gt_3 (List.mem_of_getElem? (i := 51) rfl) rfl
theorem nd_532 : Cond.fieldLinkNest "CarHouse$Reader" 165 "CarHouse$Car" "chartOf" "[I" "CarHouse" ∈ NT := gn_3 (List.mem_of_getElem? (i := 52) rfl) rfl
theorem wd_533 : Cond.fieldLink "CarHouse$Car" 70 "CarHouse$Car" "silent" "[Z" ∈ GT := gt_3 (List.mem_of_getElem? (i := 53) rfl) rfl
theorem nd_534 : Cond.fieldLinkNest "CarHouse" 186 "CarHouse$Car" "silent" "[Z" "CarHouse" ∈ NT := gn_3 (List.mem_of_getElem? (i := 54) rfl) rfl
theorem wd_535 : Cond.fieldLink "CarHouse$Car" 76 "CarHouse$Car" "read" "[[I" ∈ GT := gt_3 (List.mem_of_getElem? (i := 55) rfl) rfl
theorem wd_536 : Cond.fieldLink "CarHouse$Car" 79 "CarHouse$Car" "lastRead" "[J" ∈ GT := gt_3 (List.mem_of_getElem? (i := 56) rfl) rfl
theorem wd_537 : Cond.fieldLink "CarHouse$Car" 83 "CarHouse$Car" "counts" "[I" ∈ GT := gt_3 (List.mem_of_getElem? (i := 57) rfl) rfl
theorem nd_538 : Cond.fieldLinkNest "CarHouse" 258 "CarHouse$Car" "counts" "[I" "CarHouse" ∈ NT := gn_3 (List.mem_of_getElem? (i := 58) rfl) rfl
theorem wd_539 : Cond.fieldLink "CarHouse$Car" 91 "CarHouse$Car" "controllers" "I" ∈ GT := gt_3 (List.mem_of_getElem? (i := 59) rfl) rfl
theorem nd_540 : Cond.fieldLinkNest "CarHouse$Reader" 68 "CarHouse$Car" "controllers" "I" "CarHouse" ∈ NT := gn_3 (List.mem_of_getElem? (i := 60) rfl) rfl
theorem nd_541 : Cond.fieldLinkNest "CarHouse" 79 "CarHouse$Car" "controllers" "I" "CarHouse" ∈ NT := gn_3 (List.mem_of_getElem? (i := 61) rfl) rfl
theorem wd_542 : Cond.fieldLink "CarHouse$Car" 94 "CarHouse$Car" "chartCount" "I" ∈ GT := gt_3 (List.mem_of_getElem? (i := 62) rfl) rfl
theorem nd_543 : Cond.fieldLinkNest "CarHouse" 91 "CarHouse$Car" "chartCount" "I" "CarHouse" ∈ NT := gn_3 (List.mem_of_getElem? (i := 63) rfl) rfl
theorem nd_544 : Cond.fieldLinkNest "CarHouse$Reader" 162 "CarHouse$Car" "chartCount" "I" "CarHouse" ∈ NT := gn_3 (List.mem_of_getElem? (i := 64) rfl) rfl
theorem wd_545 : Cond.fieldLink "CarHouse$Car" 97 "CarHouse$Car" "reads" "I" ∈ GT := gt_3 (List.mem_of_getElem? (i := 65) rfl) rfl
theorem nd_546 : Cond.fieldLinkNest "CarHouse" 105 "CarHouse$Car" "reads" "I" "CarHouse" ∈ NT := gn_3 (List.mem_of_getElem? (i := 66) rfl) rfl
theorem wd_547 : Cond.fieldLink "CarHouse$Car" 100 "CarHouse$Car" "time" "I" ∈ GT := gt_3 (List.mem_of_getElem? (i := 67) rfl) rfl
theorem nd_548 : Cond.fieldLinkNest "CarHouse" 138 "CarHouse$Car" "time" "I" "CarHouse" ∈ NT := gn_3 (List.mem_of_getElem? (i := 68) rfl) rfl
theorem wd_549 : Cond.fieldLink "CarHouse$Car" 103 "CarHouse$Car" "asked" "I" ∈ GT := gt_3 (List.mem_of_getElem? (i := 69) rfl) rfl
theorem nd_550 : Cond.fieldLinkNest "CarHouse" 264 "CarHouse$Car" "asked" "I" "CarHouse" ∈ NT := gn_3 (List.mem_of_getElem? (i := 70) rfl) rfl
theorem wd_551 : Cond.fieldLink "CarHouse$Car" 106 "CarHouse$Car" "answer" "I" ∈ GT := gt_3 (List.mem_of_getElem? (i := 71) rfl) rfl
theorem nd_552 : Cond.fieldLinkNest "CarHouse" 282 "CarHouse$Car" "answer" "I" "CarHouse" ∈ NT := gn_3 (List.mem_of_getElem? (i := 72) rfl) rfl
theorem wd_553 : Cond.laysFinal "CarHouse$Car" "CarHouse$Car" "charts" "[LCarHouse$Chart;" ∈ GT := gt_3 (List.mem_of_getElem? (i := 73) rfl) rfl
theorem wd_555 : Cond.laysFinal "CarHouse$Car" "CarHouse$Car" "cores" "LCarHouse$Cores;" ∈ GT := gt_3 (List.mem_of_getElem? (i := 75) rfl) rfl
theorem wd_557 : Cond.laysFinal "CarHouse$Car" "CarHouse$Car" "bus" "LCarHouse$Bus;" ∈ GT := gt_3 (List.mem_of_getElem? (i := 77) rfl) rfl
theorem wd_559 : Cond.laysFinal "CarHouse$Car" "CarHouse$Car" "frames" "LCarHouse$Frames;" ∈ GT := gt_3 (List.mem_of_getElem? (i := 79) rfl) rfl
theorem wd_561 : Cond.laysFinal "CarHouse$Car" "CarHouse$Car" "codes" "LCarHouse$Codes;" ∈ GT := gt_3 (List.mem_of_getElem? (i := 81) rfl) rfl
theorem wd_563 : Cond.laysFinal "CarHouse$Car" "CarHouse$Car" "troubles" "LCarHouse$Troubles;" ∈ GT := gt_3 (List.mem_of_getElem? (i := 83) rfl) rfl
theorem wd_565 : Cond.laysFinal "CarHouse$Car" "CarHouse$Car" "transfer" "LCarHouse$Transfer;" ∈ GT := gt_3 (List.mem_of_getElem? (i := 85) rfl) rfl
theorem wd_567 : Cond.laysFinal "CarHouse$Car" "CarHouse$Car" "questions" "LCarHouse$Questions;" ∈ GT := gt_3 (List.mem_of_getElem? (i := 87) rfl) rfl
theorem wd_569 : Cond.laysFinal "CarHouse$Car" "CarHouse$Car" "chartOf" "[I" ∈ GT := gt_3 (List.mem_of_getElem? (i := 89) rfl) rfl
theorem wd_571 : Cond.laysFinal "CarHouse$Car" "CarHouse$Car" "silent" "[Z" ∈ GT := gt_3 (List.mem_of_getElem? (i := 91) rfl) rfl
theorem wd_573 : Cond.laysFinal "CarHouse$Car" "CarHouse$Car" "read" "[[I" ∈ GT := gt_3 (List.mem_of_getElem? (i := 93) rfl) rfl
theorem wd_575 : Cond.laysFinal "CarHouse$Car" "CarHouse$Car" "lastRead" "[J" ∈ GT := gt_3 (List.mem_of_getElem? (i := 95) rfl) rfl
theorem wd_577 : Cond.laysFinal "CarHouse$Car" "CarHouse$Car" "counts" "[I" ∈ GT := gt_3 (List.mem_of_getElem? (i := 97) rfl) rfl
theorem wd_579 : Cond.lays "CarHouse$Car" "CarHouse$Car" "controllers" "I" ∈ GT := gt_3 (List.mem_of_getElem? (i := 99) rfl) rfl
theorem wd_581 : Cond.lays "CarHouse$Car" "CarHouse$Car" "chartCount" "I" ∈ GT := gt_3 (List.mem_of_getElem? (i := 101) rfl) rfl
theorem wd_583 : Cond.lays "CarHouse$Car" "CarHouse$Car" "reads" "I" ∈ GT := gt_3 (List.mem_of_getElem? (i := 103) rfl) rfl
theorem wd_585 : Cond.lays "CarHouse$Car" "CarHouse$Car" "time" "I" ∈ GT := gt_3 (List.mem_of_getElem? (i := 105) rfl) rfl
theorem wd_587 : Cond.lays "CarHouse$Car" "CarHouse$Car" "asked" "I" ∈ GT := gt_3 (List.mem_of_getElem? (i := 107) rfl) rfl
theorem wd_589 : Cond.lays "CarHouse$Car" "CarHouse$Car" "answer" "I" ∈ GT := gt_3 (List.mem_of_getElem? (i := 109) rfl) rfl
theorem wd_592 : Cond.classLink "CarHouse$Reader" 22 "[[I" ∈ GT := gt_3 (List.mem_of_getElem? (i := 112) rfl) rfl
theorem wd_593 : Cond.fieldLink "CarHouse$Reader" 9 "CarHouse$Reader" "letters" "[C" ∈ GT := gt_3 (List.mem_of_getElem? (i := 113) rfl) rfl
theorem nd_594 : Cond.fieldLinkNest "CarHouse" 16 "CarHouse$Reader" "car" "LCarHouse$Car;" "CarHouse" ∈ NT := gn_3 (List.mem_of_getElem? (i := 114) rfl) rfl
theorem wd_595 : Cond.fieldLink "CarHouse$Reader" 18 "CarHouse$Reader" "car" "LCarHouse$Car;" ∈ GT := gt_3 (List.mem_of_getElem? (i := 115) rfl) rfl
theorem wd_596 : Cond.fieldLink "CarHouse$Reader" 24 "CarHouse$Reader" "name" "[[I" ∈ GT := gt_3 (List.mem_of_getElem? (i := 116) rfl) rfl
theorem wd_597 : Cond.fieldLink "CarHouse$Reader" 31 "CarHouse$Reader" "names" "I" ∈ GT := gt_3 (List.mem_of_getElem? (i := 117) rfl) rfl
theorem nd_598 : Cond.fieldLinkNest "CarHouse" 25 "CarHouse$Reader" "length" "I" "CarHouse" ∈ NT := gn_3 (List.mem_of_getElem? (i := 118) rfl) rfl
theorem wd_599 : Cond.fieldLink "CarHouse$Reader" 27 "CarHouse$Reader" "length" "I" ∈ GT := gt_3 (List.mem_of_getElem? (i := 119) rfl) rfl
theorem wd_600 : Cond.fieldLink "CarHouse$Reader" 44 "CarHouse$Reader" "at" "I" ∈ GT := gt_3 (List.mem_of_getElem? (i := 120) rfl) rfl
theorem wd_601 : Cond.fieldLink "CarHouse$Reader" 62 "CarHouse$Reader" "lineEnd" "I" ∈ GT := gt_3 (List.mem_of_getElem? (i := 121) rfl) rfl
theorem wd_602 : Cond.fieldLink "CarHouse$Reader" 53 "CarHouse$Reader" "firstWord" "I" ∈ GT := gt_3 (List.mem_of_getElem? (i := 122) rfl) rfl
theorem wd_603 : Cond.fieldLink "CarHouse$Reader" 50 "CarHouse$Reader" "word" "I" ∈ GT := gt_3 (List.mem_of_getElem? (i := 123) rfl) rfl
theorem wd_604 : Cond.fieldLink "CarHouse$Reader" 56 "CarHouse$Reader" "size" "I" ∈ GT := gt_3 (List.mem_of_getElem? (i := 124) rfl) rfl
theorem wd_605 : Cond.fieldLink "CarHouse$Reader" 236 "CarHouse$Reader" "newPlace" "I" ∈ GT := gt_3 (List.mem_of_getElem? (i := 125) rfl) rfl
theorem wd_606 : Cond.fieldLink "CarHouse$Reader" 267 "CarHouse$Reader" "newSize" "I" ∈ GT := gt_3 (List.mem_of_getElem? (i := 126) rfl) rfl
theorem wd_607 : Cond.fieldLink "CarHouse$Reader" 34 "CarHouse$Reader" "fault" "I" ∈ GT := gt_3 (List.mem_of_getElem? (i := 127) rfl) rfl
theorem nd_608 : Cond.fieldLinkNest "CarHouse" 62 "CarHouse$Reader" "fault" "I" "CarHouse" ∈ NT := gn_3 (List.mem_of_getElem? (i := 128) rfl) rfl
theorem wd_609 : Cond.fieldLink "CarHouse$Reader" 37 "CarHouse$Reader" "place" "I" ∈ GT := gt_3 (List.mem_of_getElem? (i := 129) rfl) rfl
theorem nd_610 : Cond.fieldLinkNest "CarHouse" 72 "CarHouse$Reader" "place" "I" "CarHouse" ∈ NT := gn_3 (List.mem_of_getElem? (i := 130) rfl) rfl
theorem wd_611 : Cond.laysFinal "CarHouse$Reader" "CarHouse$Reader" "letters" "[C" ∈ GT := gt_3 (List.mem_of_getElem? (i := 131) rfl) rfl
theorem wd_613 : Cond.laysFinal "CarHouse$Reader" "CarHouse$Reader" "car" "LCarHouse$Car;" ∈ GT := gt_3 (List.mem_of_getElem? (i := 133) rfl) rfl
theorem wd_615 : Cond.laysFinal "CarHouse$Reader" "CarHouse$Reader" "name" "[[I" ∈ GT := gt_3 (List.mem_of_getElem? (i := 135) rfl) rfl
theorem wd_617 : Cond.lays "CarHouse$Reader" "CarHouse$Reader" "names" "I" ∈ GT := gt_3 (List.mem_of_getElem? (i := 137) rfl) rfl
theorem wd_619 : Cond.lays "CarHouse$Reader" "CarHouse$Reader" "length" "I" ∈ GT := gt_3 (List.mem_of_getElem? (i := 139) rfl) rfl
theorem wd_621 : Cond.lays "CarHouse$Reader" "CarHouse$Reader" "at" "I" ∈ GT := gt_3 (List.mem_of_getElem? (i := 141) rfl) rfl
theorem wd_623 : Cond.lays "CarHouse$Reader" "CarHouse$Reader" "lineEnd" "I" ∈ GT := gt_3 (List.mem_of_getElem? (i := 143) rfl) rfl
theorem wd_625 : Cond.lays "CarHouse$Reader" "CarHouse$Reader" "firstWord" "I" ∈ GT := gt_3 (List.mem_of_getElem? (i := 145) rfl) rfl
theorem wd_627 : Cond.lays "CarHouse$Reader" "CarHouse$Reader" "word" "I" ∈ GT := gt_3 (List.mem_of_getElem? (i := 147) rfl) rfl
theorem wd_629 : Cond.lays "CarHouse$Reader" "CarHouse$Reader" "size" "I" ∈ GT := gt_3 (List.mem_of_getElem? (i := 149) rfl) rfl
theorem wd_631 : Cond.lays "CarHouse$Reader" "CarHouse$Reader" "newPlace" "I" ∈ GT := gt_3 (List.mem_of_getElem? (i := 151) rfl) rfl
theorem wd_633 : Cond.lays "CarHouse$Reader" "CarHouse$Reader" "newSize" "I" ∈ GT := gt_3 (List.mem_of_getElem? (i := 153) rfl) rfl
theorem wd_635 : Cond.lays "CarHouse$Reader" "CarHouse$Reader" "fault" "I" ∈ GT := gt_3 (List.mem_of_getElem? (i := 155) rfl) rfl
theorem wd_637 : Cond.lays "CarHouse$Reader" "CarHouse$Reader" "place" "I" ∈ GT := gt_3 (List.mem_of_getElem? (i := 157) rfl) rfl
theorem wd_640 : Cond.fieldLink "CarHouse" 10 "CarHouse" "reader" "LCarHouse$Reader;" ∈ GT := gt_3 (List.mem_of_getElem? (i := 160) rfl) rfl
theorem wd_641 : Cond.fieldLink "CarHouse" 20 "CarHouse" "car" "LCarHouse$Car;" ∈ GT := gt_3 (List.mem_of_getElem? (i := 161) rfl) rfl
theorem wd_642 : Cond.fieldLink "CarHouse" 21 "CarHouse" "said" "[I" ∈ GT := gt_3 (List.mem_of_getElem? (i := 162) rfl) rfl
theorem wd_643 : Cond.fieldLink "CarHouse" 261 "CarHouse" "saidCount" "I" ∈ GT := gt_3 (List.mem_of_getElem? (i := 163) rfl) rfl
theorem wd_644 : Cond.fieldLink "CarHouse" 49 "CarHouse" "systems" "I" ∈ GT := gt_3 (List.mem_of_getElem? (i := 164) rfl) rfl
theorem wd_645 : Cond.fieldLink "CarHouse" 65 "CarHouse" "made" "Z" ∈ GT := gt_3 (List.mem_of_getElem? (i := 165) rfl) rfl
theorem wd_646 : Cond.laysFinal "CarHouse" "CarHouse" "reader" "LCarHouse$Reader;" ∈ GT := gt_3 (List.mem_of_getElem? (i := 166) rfl) rfl
theorem wd_648 : Cond.laysFinal "CarHouse" "CarHouse" "car" "LCarHouse$Car;" ∈ GT := gt_3 (List.mem_of_getElem? (i := 168) rfl) rfl
theorem wd_650 : Cond.laysFinal "CarHouse" "CarHouse" "said" "[I" ∈ GT := gt_3 (List.mem_of_getElem? (i := 170) rfl) rfl
theorem wd_652 : Cond.lays "CarHouse" "CarHouse" "saidCount" "I" ∈ GT := gt_3 (List.mem_of_getElem? (i := 172) rfl) rfl
theorem wd_654 : Cond.lays "CarHouse" "CarHouse" "systems" "I" ∈ GT := gt_3 (List.mem_of_getElem? (i := 174) rfl) rfl
theorem wd_656 : Cond.lays "CarHouse" "CarHouse" "made" "Z" ∈ GT := gt_3 (List.mem_of_getElem? (i := 176) rfl) rfl
theorem wd_659 : Cond.methodLink "CarHouseLaw" 110 ⟨"CarHouse", "place", "()I"⟩ ∈ GT := gt_3 (List.mem_of_getElem? (i := 179) rfl) rfl
theorem wd_660 : Cond.instanceMethod ⟨"CarHouse", "place", "()I"⟩ ∈ GT := gt_3 (List.mem_of_getElem? (i := 180) rfl) rfl
theorem wd_661 : Cond.selects "CarHouse" ⟨"CarHouse", "place", "()I"⟩ ⟨"CarHouse", "place", "()I"⟩ ∈ GT := gt_3 (List.mem_of_getElem? (i := 181) rfl) rfl
theorem wd_662 : Cond.code ⟨"CarHouse", "place", "()I"⟩ prog_1_method_5_code 1 (some .int) ∈ GT := gt_3 (List.mem_of_getElem? (i := 182) rfl) rfl
theorem wd_663 : Cond.methodLink "CarHouseLaw" 128 ⟨"CarHouse", "time", "()I"⟩ ∈ GT := gt_3 (List.mem_of_getElem? (i := 183) rfl) rfl
theorem wd_664 : Cond.instanceMethod ⟨"CarHouse", "time", "()I"⟩ ∈ GT := gt_3 (List.mem_of_getElem? (i := 184) rfl) rfl
theorem wd_665 : Cond.selects "CarHouse" ⟨"CarHouse", "time", "()I"⟩ ⟨"CarHouse", "time", "()I"⟩ ∈ GT := gt_3 (List.mem_of_getElem? (i := 185) rfl) rfl
theorem wd_666 : Cond.code ⟨"CarHouse", "time", "()I"⟩ prog_1_method_10_code 1 (some .int) ∈ GT := gt_3 (List.mem_of_getElem? (i := 186) rfl) rfl
theorem wd_667 : Cond.methodLink "CarHouseLaw" 173 ⟨"CarHouse", "say", "(B)I"⟩ ∈ GT := gt_3 (List.mem_of_getElem? (i := 187) rfl) rfl
theorem wd_668 : Cond.instanceMethod ⟨"CarHouse", "say", "(B)I"⟩ ∈ GT := gt_3 (List.mem_of_getElem? (i := 188) rfl) rfl
theorem wd_669 : Cond.selects "CarHouse" ⟨"CarHouse", "say", "(B)I"⟩ ⟨"CarHouse", "say", "(B)I"⟩ ∈ GT := gt_3 (List.mem_of_getElem? (i := 189) rfl) rfl
theorem wd_670 : Cond.code ⟨"CarHouse", "say", "(B)I"⟩ prog_1_method_24_code 2 (some .int) ∈ GT := gt_3 (List.mem_of_getElem? (i := 190) rfl) rfl
theorem wd_671 : Cond.methodLink "CarHouseLaw" 181 ⟨"CarHouse", "asking", "()I"⟩ ∈ GT := gt_3 (List.mem_of_getElem? (i := 191) rfl) rfl
theorem wd_672 : Cond.instanceMethod ⟨"CarHouse", "asking", "()I"⟩ ∈ GT := gt_3 (List.mem_of_getElem? (i := 192) rfl) rfl
theorem wd_673 : Cond.selects "CarHouse" ⟨"CarHouse", "asking", "()I"⟩ ⟨"CarHouse", "asking", "()I"⟩ ∈ GT := gt_3 (List.mem_of_getElem? (i := 193) rfl) rfl
theorem wd_674 : Cond.code ⟨"CarHouse", "asking", "()I"⟩ prog_1_method_26_code 1 (some .int) ∈ GT := gt_3 (List.mem_of_getElem? (i := 194) rfl) rfl
theorem wd_675 : Cond.methodLink "CarHouseLaw" 188 ⟨"CarHouse", "answers", "()I"⟩ ∈ GT := gt_3 (List.mem_of_getElem? (i := 195) rfl) rfl
theorem wd_676 : Cond.instanceMethod ⟨"CarHouse", "answers", "()I"⟩ ∈ GT := gt_3 (List.mem_of_getElem? (i := 196) rfl) rfl
theorem wd_677 : Cond.selects "CarHouse" ⟨"CarHouse", "answers", "()I"⟩ ⟨"CarHouse", "answers", "()I"⟩ ∈ GT := gt_3 (List.mem_of_getElem? (i := 197) rfl) rfl
theorem wd_678 : Cond.code ⟨"CarHouse", "answers", "()I"⟩ prog_1_method_28_code 1 (some .int) ∈ GT := gt_3 (List.mem_of_getElem? (i := 198) rfl) rfl
theorem wd_679 : Cond.methodLink "CarHouse" 285 ⟨"CarHouse", "answerLength", "()I"⟩ ∈ GT := gt_3 (List.mem_of_getElem? (i := 199) rfl) rfl
theorem wd_681 : Cond.instanceMethod ⟨"CarHouse", "answerLength", "()I"⟩ ∈ GT := gt_3 (List.mem_of_getElem? (i := 201) rfl) rfl
theorem wd_682 : Cond.code ⟨"CarHouse", "answerLength", "()I"⟩ prog_1_method_29_code 1 (some .int) ∈ GT := gt_3 (List.mem_of_getElem? (i := 202) rfl) rfl
theorem wd_683 : Cond.methodLink "CarHouseLaw" 93 ⟨"CarHouseLaw", "text", "(LCarHouse;IIII)I"⟩ ∈ GT := gt_3 (List.mem_of_getElem? (i := 203) rfl) rfl
theorem wd_684 : Cond.static ⟨"CarHouseLaw", "text", "(LCarHouse;IIII)I"⟩ ∈ GT := gt_3 (List.mem_of_getElem? (i := 204) rfl) rfl
theorem wd_686 : Cond.classLink "CarHouseLaw" 13 "java/lang/IllegalStateException" ∈ GT := gt_3 (List.mem_of_getElem? (i := 206) rfl) rfl
theorem wd_687 : Cond.methodLink "CarHouseLaw" 7 ⟨"CarHouse", "text", "(IIII)V"⟩ ∈ GT := gt_3 (List.mem_of_getElem? (i := 207) rfl) rfl
theorem wd_688 : Cond.instanceMethod ⟨"CarHouse", "text", "(IIII)V"⟩ ∈ GT := gt_3 (List.mem_of_getElem? (i := 208) rfl) rfl
theorem wd_689 : Cond.selects "CarHouse" ⟨"CarHouse", "text", "(IIII)V"⟩ ⟨"CarHouse", "text", "(IIII)V"⟩ ∈ GT := gt_3 (List.mem_of_getElem? (i := 209) rfl) rfl
theorem wd_690 : Cond.code ⟨"CarHouse", "text", "(IIII)V"⟩ prog_1_method_2_code 5 none ∈ GT := gt_3 (List.mem_of_getElem? (i := 210) rfl) rfl
theorem wd_691 : Cond.methodLink "CarHouse" 29 ⟨"CarHouse", "lettersIn", "(I)I"⟩ ∈ GT := gt_3 (List.mem_of_getElem? (i := 211) rfl) rfl
theorem wd_692 : Cond.static ⟨"CarHouse", "lettersIn", "(I)I"⟩ ∈ GT := gt_3 (List.mem_of_getElem? (i := 212) rfl) rfl
theorem wd_693 : Cond.code ⟨"CarHouse", "lettersIn", "(I)I"⟩ prog_1_method_31_code 3 (some .int) ∈ GT := gt_3 (List.mem_of_getElem? (i := 213) rfl) rfl
theorem wd_694 : Cond.classLink "CarHouse" 33 "java/lang/IllegalStateException" ∈ GT := gt_3 (List.mem_of_getElem? (i := 214) rfl) rfl
theorem wd_695 : Cond.instantiable "java/lang/IllegalStateException" 6 ∈ GT := gt_3 (List.mem_of_getElem? (i := 215) rfl) rfl
theorem wd_703 : Cond.selects "java/lang/IllegalStateException" ⟨"java/lang/Throwable", "fillInStackTrace", "(I)Ljava/lang/Throwable;"⟩ ⟨"java/lang/Throwable", "fillInStackTrace", "(I)Ljava/lang/Throwable;"⟩ ∈ GT := gt_3 (List.mem_of_getElem? (i := 223) rfl) rfl
theorem wd_704 : Cond.selects "java/lang/IllegalStateException" ⟨"java/lang/Throwable", "fillInStackTrace", "()Ljava/lang/Throwable;"⟩ ⟨"java/lang/Throwable", "fillInStackTrace", "()Ljava/lang/Throwable;"⟩ ∈ GT := gt_3 (List.mem_of_getElem? (i := 224) rfl) rfl
theorem wd_705 : Cond.lays "java/lang/IllegalStateException" "java/lang/Throwable" "cause" "Ljava/lang/Throwable;" ∈ GT := gt_3 (List.mem_of_getElem? (i := 225) rfl) rfl
theorem wd_706 : Cond.lays "java/lang/Throwable" "java/lang/Throwable" "cause" "Ljava/lang/Throwable;" ∈ GT := gt_3 (List.mem_of_getElem? (i := 226) rfl) rfl
theorem wd_707 : Cond.lays "java/lang/IllegalStateException" "java/lang/Throwable" "stackTrace" "[Ljava/lang/StackTraceElement;" ∈ GT := gt_3 (List.mem_of_getElem? (i := 227) rfl) rfl
theorem wd_708 : Cond.lays "java/lang/Throwable" "java/lang/Throwable" "stackTrace" "[Ljava/lang/StackTraceElement;" ∈ GT := gt_3 (List.mem_of_getElem? (i := 228) rfl) rfl
theorem wd_709 : Cond.lays "java/lang/IllegalStateException" "java/lang/Throwable" "suppressedExceptions" "Ljava/util/List;" ∈ GT := gt_3 (List.mem_of_getElem? (i := 229) rfl) rfl
theorem wd_710 : Cond.lays "java/lang/Throwable" "java/lang/Throwable" "suppressedExceptions" "Ljava/util/List;" ∈ GT := gt_3 (List.mem_of_getElem? (i := 230) rfl) rfl
theorem wd_711 : Cond.lays "java/lang/IllegalStateException" "java/lang/Throwable" "detailMessage" "Ljava/lang/String;" ∈ GT := gt_3 (List.mem_of_getElem? (i := 231) rfl) rfl
theorem wd_712 : Cond.lays "java/lang/Throwable" "java/lang/Throwable" "detailMessage" "Ljava/lang/String;" ∈ GT := gt_3 (List.mem_of_getElem? (i := 232) rfl) rfl
theorem wd_713 : Cond.lays "java/lang/IllegalStateException" "java/lang/Throwable" "backtrace" "Ljava/lang/Object;" ∈ GT := gt_3 (List.mem_of_getElem? (i := 233) rfl) rfl
theorem wd_714 : Cond.lays "java/lang/Throwable" "java/lang/Throwable" "backtrace" "Ljava/lang/Object;" ∈ GT := gt_3 (List.mem_of_getElem? (i := 234) rfl) rfl
theorem wd_715 : Cond.fieldLink "java/lang/Throwable" 198 "java/lang/Throwable" "backtrace" "Ljava/lang/Object;" ∈ GT := gt_3 (List.mem_of_getElem? (i := 235) rfl) rfl
theorem wd_717 : Cond.instanceMethod ⟨"java/lang/Throwable", "<init>", "()V"⟩ ∈ GT := gt_3 (List.mem_of_getElem? (i := 237) rfl) rfl
theorem wd_718 : Cond.code ⟨"java/lang/Throwable", "<init>", "()V"⟩ prog_32_method_1_code 1 none ∈ GT := gt_3 (List.mem_of_getElem? (i := 238) rfl) rfl
theorem wd_719 : Cond.methodLink "java/lang/Throwable" 1 ⟨"java/lang/Object", "<init>", "()V"⟩ ∈ GT := gt_3 (List.mem_of_getElem? (i := 239) rfl) rfl
theorem wd_720 : Cond.fieldLink "java/lang/Throwable" 13 "java/lang/Throwable" "UNASSIGNED_STACK" "[Ljava/lang/StackTraceElement;" ∈ GT := gt_4 (List.mem_of_getElem? (i := 0) rfl) rfl
theorem wd_722 : Cond.fieldLink "java/lang/Throwable" 20 "java/lang/Throwable" "SUPPRESSED_SENTINEL" "Ljava/util/List;" ∈ GT := gt_4 (List.mem_of_getElem? (i := 2) rfl) rfl
theorem wd_724 : Cond.methodLink "java/lang/Throwable" 27 ⟨"java/lang/Throwable", "fillInStackTrace", "()Ljava/lang/Throwable;"⟩ ∈ GT := gt_4 (List.mem_of_getElem? (i := 4) rfl) rfl
theorem wd_725 : Cond.instanceMethod ⟨"java/lang/Throwable", "fillInStackTrace", "()Ljava/lang/Throwable;"⟩ ∈ GT := gt_4 (List.mem_of_getElem? (i := 5) rfl) rfl
theorem wd_727 : Cond.selects "java/lang/IllegalArgumentException" ⟨"java/lang/Throwable", "fillInStackTrace", "()Ljava/lang/Throwable;"⟩ ⟨"java/lang/Throwable", "fillInStackTrace", "()Ljava/lang/Throwable;"⟩ ∈ GT := gt_4 (List.mem_of_getElem? (i := 7) rfl) rfl
theorem wd_728 : Cond.selects "java/lang/IndexOutOfBoundsException" ⟨"java/lang/Throwable", "fillInStackTrace", "()Ljava/lang/Throwable;"⟩ ⟨"java/lang/Throwable", "fillInStackTrace", "()Ljava/lang/Throwable;"⟩ ∈ GT := gt_4 (List.mem_of_getElem? (i := 8) rfl) rfl
theorem wd_730 : Cond.methodLink "java/lang/Throwable" 202 ⟨"java/lang/Throwable", "fillInStackTrace", "(I)Ljava/lang/Throwable;"⟩ ∈ GT := gt_4 (List.mem_of_getElem? (i := 10) rfl) rfl
theorem wd_732 : Cond.instanceMethod ⟨"java/lang/Throwable", "fillInStackTrace", "(I)Ljava/lang/Throwable;"⟩ ∈ GT := gt_4 (List.mem_of_getElem? (i := 12) rfl) rfl
theorem wd_733 : Cond.instantiable "java/lang/Throwable" 6 ∈ GT := gt_4 (List.mem_of_getElem? (i := 13) rfl) rfl
theorem wd_736 : Cond.methodLink "CarHouse" 37 ⟨"java/lang/IllegalStateException", "<init>", "(Ljava/lang/String;)V"⟩ ∈ GT := gt_4 (List.mem_of_getElem? (i := 16) rfl) rfl
theorem wd_737 : Cond.instanceMethod ⟨"java/lang/IllegalStateException", "<init>", "(Ljava/lang/String;)V"⟩ ∈ GT := gt_4 (List.mem_of_getElem? (i := 17) rfl) rfl
theorem wd_738 : Cond.code ⟨"java/lang/IllegalStateException", "<init>", "(Ljava/lang/String;)V"⟩ prog_24_method_2_code 2 none ∈ GT := gt_4 (List.mem_of_getElem? (i := 18) rfl) rfl
theorem wd_739 : Cond.methodLink "java/lang/IllegalStateException" 7 ⟨"java/lang/RuntimeException", "<init>", "(Ljava/lang/String;)V"⟩ ∈ GT := gt_4 (List.mem_of_getElem? (i := 19) rfl) rfl
theorem wd_740 : Cond.instanceMethod ⟨"java/lang/RuntimeException", "<init>", "(Ljava/lang/String;)V"⟩ ∈ GT := gt_4 (List.mem_of_getElem? (i := 20) rfl) rfl
theorem wd_741 : Cond.code ⟨"java/lang/RuntimeException", "<init>", "(Ljava/lang/String;)V"⟩ prog_28_method_2_code 2 none ∈ GT := gt_4 (List.mem_of_getElem? (i := 21) rfl) rfl
theorem wd_742 : Cond.methodLink "java/lang/RuntimeException" 7 ⟨"java/lang/Exception", "<init>", "(Ljava/lang/String;)V"⟩ ∈ GT := gt_4 (List.mem_of_getElem? (i := 22) rfl) rfl
theorem wd_743 : Cond.instanceMethod ⟨"java/lang/Exception", "<init>", "(Ljava/lang/String;)V"⟩ ∈ GT := gt_4 (List.mem_of_getElem? (i := 23) rfl) rfl
theorem wd_744 : Cond.code ⟨"java/lang/Exception", "<init>", "(Ljava/lang/String;)V"⟩ prog_22_method_2_code 2 none ∈ GT := gt_4 (List.mem_of_getElem? (i := 24) rfl) rfl
theorem wd_745 : Cond.methodLink "java/lang/Exception" 7 ⟨"java/lang/Throwable", "<init>", "(Ljava/lang/String;)V"⟩ ∈ GT := gt_4 (List.mem_of_getElem? (i := 25) rfl) rfl
theorem wd_746 : Cond.instanceMethod ⟨"java/lang/Throwable", "<init>", "(Ljava/lang/String;)V"⟩ ∈ GT := gt_4 (List.mem_of_getElem? (i := 26) rfl) rfl
theorem wd_747 : Cond.code ⟨"java/lang/Throwable", "<init>", "(Ljava/lang/String;)V"⟩ prog_32_method_2_code 2 none ∈ GT := gt_4 (List.mem_of_getElem? (i := 27) rfl) rfl
theorem wd_749 : Cond.fieldLink "java/lang/Throwable" 31 "java/lang/Throwable" "detailMessage" "Ljava/lang/String;" ∈ GT := gt_4 (List.mem_of_getElem? (i := 29) rfl) rfl
theorem wd_750 : Cond.fieldLink "java/lang/Throwable" 7 "java/lang/Throwable" "cause" "Ljava/lang/Throwable;" ∈ GT := gt_4 (List.mem_of_getElem? (i := 30) rfl) rfl
theorem wd_751 : Cond.fieldLink "java/lang/Throwable" 17 "java/lang/Throwable" "stackTrace" "[Ljava/lang/StackTraceElement;" ∈ GT := gt_4 (List.mem_of_getElem? (i := 31) rfl) rfl
theorem wd_752 : Cond.fieldLink "java/lang/Throwable" 24 "java/lang/Throwable" "suppressedExceptions" "Ljava/util/List;" ∈ GT := gt_4 (List.mem_of_getElem? (i := 32) rfl) rfl
theorem wd_757 : Cond.lays "java/lang/IllegalStateException" "java/lang/Throwable" "depth" "I" ∈ GT := gt_4 (List.mem_of_getElem? (i := 37) rfl) rfl
theorem wd_761 : Cond.methodLink "CarHouse" 40 ⟨"CarHouse$Reader", "append", "(I)V"⟩ ∈ GT := gt_4 (List.mem_of_getElem? (i := 41) rfl) rfl
theorem wd_762 : Cond.instanceMethod ⟨"CarHouse$Reader", "append", "(I)V"⟩ ∈ GT := gt_4 (List.mem_of_getElem? (i := 42) rfl) rfl
theorem wd_763 : Cond.selects "CarHouse$Reader" ⟨"CarHouse$Reader", "append", "(I)V"⟩ ⟨"CarHouse$Reader", "append", "(I)V"⟩ ∈ GT := gt_4 (List.mem_of_getElem? (i := 43) rfl) rfl
theorem wd_764 : Cond.code ⟨"CarHouse$Reader", "append", "(I)V"⟩ prog_10_method_2_code 4 none ∈ GT := gt_4 (List.mem_of_getElem? (i := 44) rfl) rfl
theorem wd_765 : Cond.methodLink "CarHouseLaw" 102 ⟨"CarHouseLaw", "cut", "(LCarHouse;I[J)I"⟩ ∈ GT := gt_4 (List.mem_of_getElem? (i := 45) rfl) rfl
theorem wd_766 : Cond.static ⟨"CarHouseLaw", "cut", "(LCarHouse;I[J)I"⟩ ∈ GT := gt_4 (List.mem_of_getElem? (i := 46) rfl) rfl
theorem wd_768 : Cond.classLink "CarHouseLaw" 19 "java/lang/IllegalArgumentException" ∈ GT := gt_4 (List.mem_of_getElem? (i := 48) rfl) rfl
theorem wd_769 : Cond.methodLink "CarHouseLaw" 15 ⟨"CarHouse", "cut", "(I)I"⟩ ∈ GT := gt_4 (List.mem_of_getElem? (i := 49) rfl) rfl
theorem wd_770 : Cond.instanceMethod ⟨"CarHouse", "cut", "(I)I"⟩ ∈ GT := gt_4 (List.mem_of_getElem? (i := 50) rfl) rfl
theorem wd_771 : Cond.selects "CarHouse" ⟨"CarHouse", "cut", "(I)I"⟩ ⟨"CarHouse", "cut", "(I)I"⟩ ∈ GT := gt_4 (List.mem_of_getElem? (i := 51) rfl) rfl
theorem wd_772 : Cond.code ⟨"CarHouse", "cut", "(I)I"⟩ prog_1_method_3_code 2 (some .int) ∈ GT := gt_4 (List.mem_of_getElem? (i := 52) rfl) rfl
theorem wd_773 : Cond.classLink "CarHouse" 44 "java/lang/IllegalArgumentException" ∈ GT := gt_4 (List.mem_of_getElem? (i := 53) rfl) rfl
theorem wd_774 : Cond.instantiable "java/lang/IllegalArgumentException" 6 ∈ GT := gt_4 (List.mem_of_getElem? (i := 54) rfl) rfl
theorem wd_776 : Cond.selects "java/lang/IllegalArgumentException" ⟨"java/lang/Throwable", "fillInStackTrace", "(I)Ljava/lang/Throwable;"⟩ ⟨"java/lang/Throwable", "fillInStackTrace", "(I)Ljava/lang/Throwable;"⟩ ∈ GT := gt_4 (List.mem_of_getElem? (i := 56) rfl) rfl
theorem wd_777 : Cond.lays "java/lang/IllegalArgumentException" "java/lang/Throwable" "cause" "Ljava/lang/Throwable;" ∈ GT := gt_4 (List.mem_of_getElem? (i := 57) rfl) rfl
theorem wd_778 : Cond.lays "java/lang/IllegalArgumentException" "java/lang/Throwable" "stackTrace" "[Ljava/lang/StackTraceElement;" ∈ GT := gt_4 (List.mem_of_getElem? (i := 58) rfl) rfl
theorem wd_779 : Cond.lays "java/lang/IllegalArgumentException" "java/lang/Throwable" "suppressedExceptions" "Ljava/util/List;" ∈ GT := gt_4 (List.mem_of_getElem? (i := 59) rfl) rfl
theorem wd_780 : Cond.lays "java/lang/IllegalArgumentException" "java/lang/Throwable" "detailMessage" "Ljava/lang/String;" ∈ GT := gt_4 (List.mem_of_getElem? (i := 60) rfl) rfl
theorem wd_781 : Cond.lays "java/lang/IllegalArgumentException" "java/lang/Throwable" "backtrace" "Ljava/lang/Object;" ∈ GT := gt_4 (List.mem_of_getElem? (i := 61) rfl) rfl
theorem wd_783 : Cond.methodLink "CarHouse" 48 ⟨"java/lang/IllegalArgumentException", "<init>", "(Ljava/lang/String;)V"⟩ ∈ GT := gt_4 (List.mem_of_getElem? (i := 63) rfl) rfl
theorem wd_784 : Cond.instanceMethod ⟨"java/lang/IllegalArgumentException", "<init>", "(Ljava/lang/String;)V"⟩ ∈ GT := gt_4 (List.mem_of_getElem? (i := 64) rfl) rfl
theorem wd_785 : Cond.code ⟨"java/lang/IllegalArgumentException", "<init>", "(Ljava/lang/String;)V"⟩ prog_23_method_2_code 2 none ∈ GT := gt_4 (List.mem_of_getElem? (i := 65) rfl) rfl
theorem wd_786 : Cond.methodLink "java/lang/IllegalArgumentException" 7 ⟨"java/lang/RuntimeException", "<init>", "(Ljava/lang/String;)V"⟩ ∈ GT := gt_4 (List.mem_of_getElem? (i := 66) rfl) rfl
theorem wd_787 : Cond.lays "java/lang/IllegalArgumentException" "java/lang/Throwable" "depth" "I" ∈ GT := gt_4 (List.mem_of_getElem? (i := 67) rfl) rfl
theorem wd_789 : Cond.methodLink "CarHouseLaw" 106 ⟨"CarHouseLaw", "system", "(LCarHouse;[J)I"⟩ ∈ GT := gt_4 (List.mem_of_getElem? (i := 69) rfl) rfl
theorem wd_790 : Cond.static ⟨"CarHouseLaw", "system", "(LCarHouse;[J)I"⟩ ∈ GT := gt_4 (List.mem_of_getElem? (i := 70) rfl) rfl
theorem wd_792 : Cond.methodLink "CarHouseLaw" 21 ⟨"CarHouse", "system", "()I"⟩ ∈ GT := gt_4 (List.mem_of_getElem? (i := 72) rfl) rfl
theorem wd_793 : Cond.instanceMethod ⟨"CarHouse", "system", "()I"⟩ ∈ GT := gt_4 (List.mem_of_getElem? (i := 73) rfl) rfl
theorem wd_794 : Cond.selects "CarHouse" ⟨"CarHouse", "system", "()I"⟩ ⟨"CarHouse", "system", "()I"⟩ ∈ GT := gt_4 (List.mem_of_getElem? (i := 74) rfl) rfl
theorem wd_795 : Cond.code ⟨"CarHouse", "system", "()I"⟩ prog_1_method_4_code 1 (some .int) ∈ GT := gt_4 (List.mem_of_getElem? (i := 75) rfl) rfl
theorem wd_797 : Cond.methodLink "CarHouse" 54 ⟨"CarHouse$Car", "clear", "()V"⟩ ∈ GT := gt_4 (List.mem_of_getElem? (i := 77) rfl) rfl
theorem wd_798 : Cond.instanceMethod ⟨"CarHouse$Car", "clear", "()V"⟩ ∈ GT := gt_4 (List.mem_of_getElem? (i := 78) rfl) rfl
theorem wd_799 : Cond.selects "CarHouse$Car" ⟨"CarHouse$Car", "clear", "()V"⟩ ⟨"CarHouse$Car", "clear", "()V"⟩ ∈ GT := gt_4 (List.mem_of_getElem? (i := 79) rfl) rfl
theorem wd_800 : Cond.code ⟨"CarHouse$Car", "clear", "()V"⟩ prog_3_method_2_code 2 none ∈ GT := gt_4 (List.mem_of_getElem? (i := 80) rfl) rfl
theorem wd_801 : Cond.methodLink "CarHouse$Car" 109 ⟨"CarHouse$Cores", "clear", "()V"⟩ ∈ GT := gt_4 (List.mem_of_getElem? (i := 81) rfl) rfl
theorem wd_802 : Cond.instanceMethod ⟨"CarHouse$Cores", "clear", "()V"⟩ ∈ GT := gt_4 (List.mem_of_getElem? (i := 82) rfl) rfl
theorem wd_803 : Cond.selects "CarHouse$Cores" ⟨"CarHouse$Cores", "clear", "()V"⟩ ⟨"CarHouse$Cores", "clear", "()V"⟩ ∈ GT := gt_4 (List.mem_of_getElem? (i := 83) rfl) rfl
theorem wd_804 : Cond.code ⟨"CarHouse$Cores", "clear", "()V"⟩ prog_6_method_2_code 2 none ∈ GT := gt_4 (List.mem_of_getElem? (i := 84) rfl) rfl
theorem wd_805 : Cond.methodLink "CarHouse$Car" 112 ⟨"CarHouse$Frames", "clear", "()V"⟩ ∈ GT := gt_4 (List.mem_of_getElem? (i := 85) rfl) rfl
theorem wd_806 : Cond.instanceMethod ⟨"CarHouse$Frames", "clear", "()V"⟩ ∈ GT := gt_4 (List.mem_of_getElem? (i := 86) rfl) rfl
theorem wd_807 : Cond.selects "CarHouse$Frames" ⟨"CarHouse$Frames", "clear", "()V"⟩ ⟨"CarHouse$Frames", "clear", "()V"⟩ ∈ GT := gt_4 (List.mem_of_getElem? (i := 87) rfl) rfl
theorem wd_808 : Cond.code ⟨"CarHouse$Frames", "clear", "()V"⟩ prog_8_method_2_code 1 none ∈ GT := gt_4 (List.mem_of_getElem? (i := 88) rfl) rfl
theorem wd_809 : Cond.constant "CarHouse$Frames" 54 1000000 ∈ GT := gt_4 (List.mem_of_getElem? (i := 89) rfl) rfl
theorem wd_810 : Cond.methodLink "CarHouse$Car" 113 ⟨"CarHouse$Troubles", "clear", "()V"⟩ ∈ GT := gt_4 (List.mem_of_getElem? (i := 90) rfl) rfl
theorem wd_811 : Cond.instanceMethod ⟨"CarHouse$Troubles", "clear", "()V"⟩ ∈ GT := gt_4 (List.mem_of_getElem? (i := 91) rfl) rfl
theorem wd_812 : Cond.selects "CarHouse$Troubles" ⟨"CarHouse$Troubles", "clear", "()V"⟩ ⟨"CarHouse$Troubles", "clear", "()V"⟩ ∈ GT := gt_4 (List.mem_of_getElem? (i := 92) rfl) rfl
theorem wd_813 : Cond.code ⟨"CarHouse$Troubles", "clear", "()V"⟩ prog_12_method_2_code 1 none ∈ GT := gt_4 (List.mem_of_getElem? (i := 93) rfl) rfl
theorem wd_814 : Cond.methodLink "CarHouse$Car" 114 ⟨"CarHouse$Transfer", "clear", "()V"⟩ ∈ GT := gt_4 (List.mem_of_getElem? (i := 94) rfl) rfl
theorem wd_815 : Cond.instanceMethod ⟨"CarHouse$Transfer", "clear", "()V"⟩ ∈ GT := gt_4 (List.mem_of_getElem? (i := 95) rfl) rfl
theorem wd_816 : Cond.selects "CarHouse$Transfer" ⟨"CarHouse$Transfer", "clear", "()V"⟩ ⟨"CarHouse$Transfer", "clear", "()V"⟩ ∈ GT := gt_4 (List.mem_of_getElem? (i := 96) rfl) rfl
theorem wd_817 : Cond.code ⟨"CarHouse$Transfer", "clear", "()V"⟩ prog_11_method_2_code 2 none ∈ GT := gt_4 (List.mem_of_getElem? (i := 97) rfl) rfl
theorem wd_818 : Cond.methodLink "CarHouse$Car" 115 ⟨"CarHouse$Questions", "clear", "()V"⟩ ∈ GT := gt_4 (List.mem_of_getElem? (i := 98) rfl) rfl
theorem wd_819 : Cond.instanceMethod ⟨"CarHouse$Questions", "clear", "()V"⟩ ∈ GT := gt_4 (List.mem_of_getElem? (i := 99) rfl) rfl
theorem wd_820 : Cond.selects "CarHouse$Questions" ⟨"CarHouse$Questions", "clear", "()V"⟩ ⟨"CarHouse$Questions", "clear", "()V"⟩ ∈ GT := gt_4 (List.mem_of_getElem? (i := 100) rfl) rfl
theorem wd_821 : Cond.code ⟨"CarHouse$Questions", "clear", "()V"⟩ prog_9_method_2_code 2 none ∈ GT := gt_4 (List.mem_of_getElem? (i := 101) rfl) rfl
theorem wd_822 : Cond.methodLink "CarHouse" 59 ⟨"CarHouse$Reader", "readText", "()V"⟩ ∈ GT := gt_4 (List.mem_of_getElem? (i := 102) rfl) rfl
theorem wd_823 : Cond.instanceMethod ⟨"CarHouse$Reader", "readText", "()V"⟩ ∈ GT := gt_4 (List.mem_of_getElem? (i := 103) rfl) rfl
theorem wd_824 : Cond.selects "CarHouse$Reader" ⟨"CarHouse$Reader", "readText", "()V"⟩ ⟨"CarHouse$Reader", "readText", "()V"⟩ ∈ GT := gt_4 (List.mem_of_getElem? (i := 104) rfl) rfl
theorem wd_825 : Cond.code ⟨"CarHouse$Reader", "readText", "()V"⟩ prog_10_method_3_code 3 none ∈ GT := gt_4 (List.mem_of_getElem? (i := 105) rfl) rfl
theorem wd_826 : Cond.methodLink "CarHouse$Reader" 40 ⟨"CarHouse$Reader", "findLineEnd", "(I)V"⟩ ∈ GT := gt_4 (List.mem_of_getElem? (i := 106) rfl) rfl
theorem wd_828 : Cond.instanceMethod ⟨"CarHouse$Reader", "findLineEnd", "(I)V"⟩ ∈ GT := gt_4 (List.mem_of_getElem? (i := 108) rfl) rfl
theorem wd_829 : Cond.code ⟨"CarHouse$Reader", "findLineEnd", "(I)V"⟩ prog_10_method_5_code 2 none ∈ GT := gt_4 (List.mem_of_getElem? (i := 109) rfl) rfl
theorem wd_830 : Cond.methodLink "CarHouse$Reader" 47 ⟨"CarHouse$Reader", "nextWord", "()V"⟩ ∈ GT := gt_4 (List.mem_of_getElem? (i := 110) rfl) rfl
theorem wd_832 : Cond.instanceMethod ⟨"CarHouse$Reader", "nextWord", "()V"⟩ ∈ GT := gt_4 (List.mem_of_getElem? (i := 112) rfl) rfl
theorem wd_833 : Cond.code ⟨"CarHouse$Reader", "nextWord", "()V"⟩ prog_10_method_6_code 1 none ∈ GT := gt_4 (List.mem_of_getElem? (i := 113) rfl) rfl
theorem wd_834 : Cond.methodLink "CarHouse$Reader" 59 ⟨"CarHouse$Reader", "readLine", "()V"⟩ ∈ GT := gt_4 (List.mem_of_getElem? (i := 114) rfl) rfl
theorem wd_836 : Cond.instanceMethod ⟨"CarHouse$Reader", "readLine", "()V"⟩ ∈ GT := gt_4 (List.mem_of_getElem? (i := 116) rfl) rfl
theorem wd_837 : Cond.code ⟨"CarHouse$Reader", "readLine", "()V"⟩ prog_10_method_8_code 1 none ∈ GT := gt_4 (List.mem_of_getElem? (i := 117) rfl) rfl
theorem wd_839 : Cond.methodLink "CarHouse$Reader" 90 ⟨"CarHouse$Reader", "indexIn", "(Ljava/lang/String;)I"⟩ ∈ GT := gt_4 (List.mem_of_getElem? (i := 119) rfl) rfl
theorem wd_841 : Cond.instanceMethod ⟨"CarHouse$Reader", "indexIn", "(Ljava/lang/String;)I"⟩ ∈ GT := gt_4 (List.mem_of_getElem? (i := 121) rfl) rfl
theorem wd_842 : Cond.code ⟨"CarHouse$Reader", "indexIn", "(Ljava/lang/String;)I"⟩ prog_10_method_39_code 5 (some .int) ∈ GT := gt_4 (List.mem_of_getElem? (i := 122) rfl) rfl
theorem wd_843 : Cond.methodLink "CarHouse$Reader" 301 ⟨"java/lang/String", "length", "()I"⟩ ∈ GT := gt_4 (List.mem_of_getElem? (i := 123) rfl) rfl
theorem wd_844 : Cond.instanceMethod ⟨"java/lang/String", "length", "()I"⟩ ∈ GT := gt_4 (List.mem_of_getElem? (i := 124) rfl) rfl
theorem wd_845 : Cond.selects "java/lang/String" ⟨"java/lang/String", "length", "()I"⟩ ⟨"java/lang/String", "length", "()I"⟩ ∈ GT := gt_4 (List.mem_of_getElem? (i := 125) rfl) rfl
theorem wd_846 : Cond.code ⟨"java/lang/String", "length", "()I"⟩ prog_29_method_54_code 1 (some .int) ∈ GT := gt_4 (List.mem_of_getElem? (i := 126) rfl) rfl
theorem wd_847 : Cond.methodLink "java/lang/String" 335 ⟨"java/lang/String", "coder", "()B"⟩ ∈ GT := gt_4 (List.mem_of_getElem? (i := 127) rfl) rfl
theorem wd_848 : Cond.instanceMethod ⟨"java/lang/String", "coder", "()B"⟩ ∈ GT := gt_4 (List.mem_of_getElem? (i := 128) rfl) rfl
theorem wd_849 : Cond.selects "java/lang/String" ⟨"java/lang/String", "coder", "()B"⟩ ⟨"java/lang/String", "coder", "()B"⟩ ∈ GT := gt_4 (List.mem_of_getElem? (i := 129) rfl) rfl
theorem wd_850 : Cond.code ⟨"java/lang/String", "coder", "()B"⟩ prog_29_method_152_code 1 (some .byte) ∈ GT := gt_4 (List.mem_of_getElem? (i := 130) rfl) rfl
theorem wd_851 : Cond.fieldLink "java/lang/String" 38 "java/lang/String" "COMPACT_STRINGS" "Z" ∈ GT := gt_4 (List.mem_of_getElem? (i := 131) rfl) rfl
theorem wd_853 : Cond.methodLink "CarHouse$Reader" 309 ⟨"java/lang/String", "charAt", "(I)C"⟩ ∈ GT := gt_4 (List.mem_of_getElem? (i := 133) rfl) rfl
theorem wd_854 : Cond.instanceMethod ⟨"java/lang/String", "charAt", "(I)C"⟩ ∈ GT := gt_4 (List.mem_of_getElem? (i := 134) rfl) rfl
theorem wd_855 : Cond.selects "java/lang/String" ⟨"java/lang/String", "charAt", "(I)C"⟩ ⟨"java/lang/String", "charAt", "(I)C"⟩ ∈ GT := gt_4 (List.mem_of_getElem? (i := 135) rfl) rfl
theorem wd_856 : Cond.code ⟨"java/lang/String", "charAt", "(I)C"⟩ prog_29_method_56_code 2 (some .char) ∈ GT := gt_4 (List.mem_of_getElem? (i := 136) rfl) rfl
theorem wd_857 : Cond.methodLink "java/lang/String" 492 ⟨"java/lang/String", "isLatin1", "()Z"⟩ ∈ GT := gt_4 (List.mem_of_getElem? (i := 137) rfl) rfl
theorem wd_858 : Cond.instanceMethod ⟨"java/lang/String", "isLatin1", "()Z"⟩ ∈ GT := gt_4 (List.mem_of_getElem? (i := 138) rfl) rfl
theorem wd_859 : Cond.selects "java/lang/String" ⟨"java/lang/String", "isLatin1", "()Z"⟩ ⟨"java/lang/String", "isLatin1", "()Z"⟩ ∈ GT := gt_4 (List.mem_of_getElem? (i := 139) rfl) rfl
theorem wd_860 : Cond.code ⟨"java/lang/String", "isLatin1", "()Z"⟩ prog_29_method_154_code 1 (some .boolean) ∈ GT := gt_4 (List.mem_of_getElem? (i := 140) rfl) rfl
theorem wd_861 : Cond.methodLink "java/lang/String" 495 ⟨"java/lang/StringLatin1", "charAt", "([BI)C"⟩ ∈ GT := gt_4 (List.mem_of_getElem? (i := 141) rfl) rfl
theorem wd_862 : Cond.static ⟨"java/lang/StringLatin1", "charAt", "([BI)C"⟩ ∈ GT := gt_4 (List.mem_of_getElem? (i := 142) rfl) rfl
theorem wd_863 : Cond.code ⟨"java/lang/StringLatin1", "charAt", "([BI)C"⟩ prog_30_method_2_code 2 (some .char) ∈ GT := gt_4 (List.mem_of_getElem? (i := 143) rfl) rfl
theorem wd_864 : Cond.methodLink "java/lang/StringLatin1" 9 ⟨"java/lang/String", "checkIndex", "(II)V"⟩ ∈ GT := gt_4 (List.mem_of_getElem? (i := 144) rfl) rfl
theorem wd_865 : Cond.static ⟨"java/lang/String", "checkIndex", "(II)V"⟩ ∈ GT := gt_4 (List.mem_of_getElem? (i := 145) rfl) rfl
theorem wd_866 : Cond.code ⟨"java/lang/String", "checkIndex", "(II)V"⟩ prog_29_method_155_code 2 none ∈ GT := gt_4 (List.mem_of_getElem? (i := 146) rfl) rfl
theorem wd_867 : Cond.fieldLink "java/lang/String" 1053 "jdk/internal/util/Preconditions" "SIOOBE_FORMATTER" "Ljava/util/function/BiFunction;" ∈ GT := gt_4 (List.mem_of_getElem? (i := 147) rfl) rfl
theorem wd_869 : Cond.methodLink "java/lang/String" 1059 ⟨"jdk/internal/util/Preconditions", "checkIndex", "(IILjava/util/function/BiFunction;)I"⟩ ∈ GT := gt_4 (List.mem_of_getElem? (i := 149) rfl) rfl
theorem wd_870 : Cond.static ⟨"jdk/internal/util/Preconditions", "checkIndex", "(IILjava/util/function/BiFunction;)I"⟩ ∈ GT := gt_4 (List.mem_of_getElem? (i := 150) rfl) rfl
theorem wd_871 : Cond.code ⟨"jdk/internal/util/Preconditions", "checkIndex", "(IILjava/util/function/BiFunction;)I"⟩ prog_33_method_11_code 3 (some .int) ∈ GT := gt_4 (List.mem_of_getElem? (i := 151) rfl) rfl
theorem wd_872 : Cond.methodLink "java/lang/String" 498 ⟨"java/lang/StringUTF16", "charAt", "([BI)C"⟩ ∈ GT := gt_4 (List.mem_of_getElem? (i := 152) rfl) rfl
theorem wd_873 : Cond.static ⟨"java/lang/StringUTF16", "charAt", "([BI)C"⟩ ∈ GT := gt_4 (List.mem_of_getElem? (i := 153) rfl) rfl
theorem wd_874 : Cond.code ⟨"java/lang/StringUTF16", "charAt", "([BI)C"⟩ prog_31_method_83_code 2 (some .char) ∈ GT := gt_4 (List.mem_of_getElem? (i := 154) rfl) rfl
theorem wd_875 : Cond.methodLink "java/lang/StringUTF16" 67 ⟨"java/lang/StringUTF16", "checkIndex", "(I[B)V"⟩ ∈ GT := gt_4 (List.mem_of_getElem? (i := 155) rfl) rfl
theorem wd_876 : Cond.static ⟨"java/lang/StringUTF16", "checkIndex", "(I[B)V"⟩ ∈ GT := gt_4 (List.mem_of_getElem? (i := 156) rfl) rfl
theorem wd_877 : Cond.code ⟨"java/lang/StringUTF16", "checkIndex", "(I[B)V"⟩ prog_31_method_91_code 2 none ∈ GT := gt_4 (List.mem_of_getElem? (i := 157) rfl) rfl
theorem wd_878 : Cond.methodLink "java/lang/StringUTF16" 48 ⟨"java/lang/StringUTF16", "length", "([B)I"⟩ ∈ GT := gt_4 (List.mem_of_getElem? (i := 158) rfl) rfl
theorem wd_879 : Cond.static ⟨"java/lang/StringUTF16", "length", "([B)I"⟩ ∈ GT := gt_4 (List.mem_of_getElem? (i := 159) rfl) rfl
theorem wd_880 : Cond.code ⟨"java/lang/StringUTF16", "length", "([B)I"⟩ prog_31_method_6_code 1 (some .int) ∈ GT := gt_4 (List.mem_of_getElem? (i := 160) rfl) rfl
theorem wd_881 : Cond.methodLink "java/lang/StringUTF16" 414 ⟨"java/lang/String", "checkIndex", "(II)V"⟩ ∈ GT := gt_4 (List.mem_of_getElem? (i := 161) rfl) rfl
theorem wd_882 : Cond.methodLink "java/lang/StringUTF16" 71 ⟨"java/lang/StringUTF16", "getChar", "([BI)C"⟩ ∈ GT := gt_4 (List.mem_of_getElem? (i := 162) rfl) rfl
theorem wd_883 : Cond.static ⟨"java/lang/StringUTF16", "getChar", "([BI)C"⟩ ∈ GT := gt_4 (List.mem_of_getElem? (i := 163) rfl) rfl
theorem wd_884 : Cond.code ⟨"java/lang/StringUTF16", "getChar", "([BI)C"⟩ prog_31_method_5_code 2 (some .char) ∈ GT := gt_4 (List.mem_of_getElem? (i := 164) rfl) rfl
theorem wd_885 : Cond.fieldLink "java/lang/StringUTF16" 44 "java/lang/StringUTF16" "$assertionsDisabled" "Z" ∈ GT := gt_4 (List.mem_of_getElem? (i := 165) rfl) rfl
theorem wd_887 : Cond.fieldLink "java/lang/StringUTF16" 59 "java/lang/StringUTF16" "HI_BYTE_SHIFT" "I" ∈ GT := gt_4 (List.mem_of_getElem? (i := 167) rfl) rfl
theorem wd_889 : Cond.fieldLink "java/lang/StringUTF16" 63 "java/lang/StringUTF16" "LO_BYTE_SHIFT" "I" ∈ GT := gt_4 (List.mem_of_getElem? (i := 169) rfl) rfl
theorem wd_891 : Cond.methodLink "CarHouse$Reader" 305 ⟨"CarHouse$Reader", "standsAt", "(Ljava/lang/String;I)Z"⟩ ∈ GT := gt_4 (List.mem_of_getElem? (i := 171) rfl) rfl
theorem wd_893 : Cond.instanceMethod ⟨"CarHouse$Reader", "standsAt", "(Ljava/lang/String;I)Z"⟩ ∈ GT := gt_4 (List.mem_of_getElem? (i := 173) rfl) rfl
theorem wd_894 : Cond.code ⟨"CarHouse$Reader", "standsAt", "(Ljava/lang/String;I)Z"⟩ prog_10_method_38_code 4 (some .boolean) ∈ GT := gt_4 (List.mem_of_getElem? (i := 174) rfl) rfl
theorem wd_895 : Cond.methodLink "CarHouse$Reader" 94 ⟨"CarHouse$Reader", "readController", "()V"⟩ ∈ GT := gt_4 (List.mem_of_getElem? (i := 175) rfl) rfl
theorem wd_897 : Cond.instanceMethod ⟨"CarHouse$Reader", "readController", "()V"⟩ ∈ GT := gt_4 (List.mem_of_getElem? (i := 177) rfl) rfl
theorem wd_898 : Cond.code ⟨"CarHouse$Reader", "readController", "()V"⟩ prog_10_method_9_code 1 none ∈ GT := gt_4 (List.mem_of_getElem? (i := 178) rfl) rfl
theorem wd_899 : Cond.methodLink "CarHouse$Reader" 132 ⟨"CarHouse$Reader", "newName", "(III)V"⟩ ∈ GT := gt_4 (List.mem_of_getElem? (i := 179) rfl) rfl
theorem wd_901 : Cond.instanceMethod ⟨"CarHouse$Reader", "newName", "(III)V"⟩ ∈ GT := gt_4 (List.mem_of_getElem? (i := 181) rfl) rfl
theorem wd_902 : Cond.code ⟨"CarHouse$Reader", "newName", "(III)V"⟩ prog_10_method_23_code 4 none ∈ GT := gt_4 (List.mem_of_getElem? (i := 182) rfl) rfl
theorem wd_903 : Cond.methodLink "CarHouse$Reader" 270 ⟨"CarHouse$Reader", "isName", "()Z"⟩ ∈ GT := gt_4 (List.mem_of_getElem? (i := 183) rfl) rfl
theorem wd_905 : Cond.instanceMethod ⟨"CarHouse$Reader", "isName", "()Z"⟩ ∈ GT := gt_4 (List.mem_of_getElem? (i := 185) rfl) rfl
theorem wd_906 : Cond.code ⟨"CarHouse$Reader", "isName", "()Z"⟩ prog_10_method_40_code 2 (some .boolean) ∈ GT := gt_4 (List.mem_of_getElem? (i := 186) rfl) rfl
theorem wd_907 : Cond.methodLink "CarHouse$Reader" 313 ⟨"CarHouse$Reader", "isLetter", "(C)Z"⟩ ∈ GT := gt_4 (List.mem_of_getElem? (i := 187) rfl) rfl
theorem wd_908 : Cond.static ⟨"CarHouse$Reader", "isLetter", "(C)Z"⟩ ∈ GT := gt_4 (List.mem_of_getElem? (i := 188) rfl) rfl
theorem wd_909 : Cond.code ⟨"CarHouse$Reader", "isLetter", "(C)Z"⟩ prog_10_method_43_code 1 (some .boolean) ∈ GT := gt_4 (List.mem_of_getElem? (i := 189) rfl) rfl
theorem wd_910 : Cond.methodLink "CarHouse$Reader" 317 ⟨"CarHouse$Reader", "isDigit", "(C)Z"⟩ ∈ GT := gt_4 (List.mem_of_getElem? (i := 190) rfl) rfl
theorem wd_911 : Cond.static ⟨"CarHouse$Reader", "isDigit", "(C)Z"⟩ ∈ GT := gt_4 (List.mem_of_getElem? (i := 191) rfl) rfl
theorem wd_912 : Cond.code ⟨"CarHouse$Reader", "isDigit", "(C)Z"⟩ prog_10_method_44_code 1 (some .boolean) ∈ GT := gt_4 (List.mem_of_getElem? (i := 192) rfl) rfl
theorem wd_914 : Cond.methodLink "CarHouse$Reader" 276 ⟨"CarHouse$Reader", "isWord", "(Ljava/lang/String;)Z"⟩ ∈ GT := gt_4 (List.mem_of_getElem? (i := 194) rfl) rfl
theorem wd_916 : Cond.instanceMethod ⟨"CarHouse$Reader", "isWord", "(Ljava/lang/String;)Z"⟩ ∈ GT := gt_4 (List.mem_of_getElem? (i := 196) rfl) rfl
theorem wd_917 : Cond.code ⟨"CarHouse$Reader", "isWord", "(Ljava/lang/String;)Z"⟩ prog_10_method_37_code 2 (some .boolean) ∈ GT := gt_4 (List.mem_of_getElem? (i := 197) rfl) rfl
theorem wd_918 : Cond.methodLink "CarHouse$Reader" 71 ⟨"CarHouse$Reader", "fail", "(II)V"⟩ ∈ GT := gt_4 (List.mem_of_getElem? (i := 198) rfl) rfl
theorem wd_920 : Cond.instanceMethod ⟨"CarHouse$Reader", "fail", "(II)V"⟩ ∈ GT := gt_4 (List.mem_of_getElem? (i := 200) rfl) rfl
theorem wd_921 : Cond.code ⟨"CarHouse$Reader", "fail", "(II)V"⟩ prog_10_method_7_code 3 none ∈ GT := gt_4 (List.mem_of_getElem? (i := 201) rfl) rfl
theorem wd_922 : Cond.methodLink "CarHouse$Reader" 279 ⟨"CarHouse$Reader", "findName", "(I)I"⟩ ∈ GT := gt_4 (List.mem_of_getElem? (i := 202) rfl) rfl
theorem wd_924 : Cond.instanceMethod ⟨"CarHouse$Reader", "findName", "(I)I"⟩ ∈ GT := gt_4 (List.mem_of_getElem? (i := 204) rfl) rfl
theorem wd_925 : Cond.code ⟨"CarHouse$Reader", "findName", "(I)I"⟩ prog_10_method_35_code 3 (some .int) ∈ GT := gt_4 (List.mem_of_getElem? (i := 205) rfl) rfl
theorem wd_926 : Cond.methodLink "CarHouse$Reader" 297 ⟨"CarHouse$Reader", "isSame", "(I)Z"⟩ ∈ GT := gt_4 (List.mem_of_getElem? (i := 206) rfl) rfl
theorem wd_928 : Cond.instanceMethod ⟨"CarHouse$Reader", "isSame", "(I)Z"⟩ ∈ GT := gt_4 (List.mem_of_getElem? (i := 208) rfl) rfl
theorem wd_929 : Cond.code ⟨"CarHouse$Reader", "isSame", "(I)Z"⟩ prog_10_method_36_code 3 (some .boolean) ∈ GT := gt_4 (List.mem_of_getElem? (i := 209) rfl) rfl
theorem wd_930 : Cond.methodLink "CarHouse$Reader" 136 ⟨"CarHouse$Reader", "endLine", "()V"⟩ ∈ GT := gt_4 (List.mem_of_getElem? (i := 210) rfl) rfl
theorem wd_932 : Cond.instanceMethod ⟨"CarHouse$Reader", "endLine", "()V"⟩ ∈ GT := gt_4 (List.mem_of_getElem? (i := 212) rfl) rfl
theorem wd_933 : Cond.code ⟨"CarHouse$Reader", "endLine", "()V"⟩ prog_10_method_33_code 1 none ∈ GT := gt_4 (List.mem_of_getElem? (i := 213) rfl) rfl
theorem wd_934 : Cond.methodLink "CarHouse$Reader" 139 ⟨"CarHouse$Reader", "keepName", "(III)V"⟩ ∈ GT := gt_4 (List.mem_of_getElem? (i := 214) rfl) rfl
theorem wd_936 : Cond.instanceMethod ⟨"CarHouse$Reader", "keepName", "(III)V"⟩ ∈ GT := gt_4 (List.mem_of_getElem? (i := 216) rfl) rfl
theorem wd_937 : Cond.code ⟨"CarHouse$Reader", "keepName", "(III)V"⟩ prog_10_method_24_code 4 none ∈ GT := gt_4 (List.mem_of_getElem? (i := 217) rfl) rfl
theorem wd_938 : Cond.methodLink "CarHouse$Reader" 97 ⟨"CarHouse$Reader", "readTask", "()V"⟩ ∈ GT := gt_4 (List.mem_of_getElem? (i := 218) rfl) rfl
theorem wd_940 : Cond.instanceMethod ⟨"CarHouse$Reader", "readTask", "()V"⟩ ∈ GT := gt_4 (List.mem_of_getElem? (i := 220) rfl) rfl
theorem wd_941 : Cond.code ⟨"CarHouse$Reader", "readTask", "()V"⟩ prog_10_method_10_code 6 none ∈ GT := gt_4 (List.mem_of_getElem? (i := 221) rfl) rfl
theorem wd_942 : Cond.methodLink "CarHouse$Reader" 151 ⟨"CarHouse$Reader", "toldName", "(II)I"⟩ ∈ GT := gt_4 (List.mem_of_getElem? (i := 222) rfl) rfl
theorem wd_944 : Cond.instanceMethod ⟨"CarHouse$Reader", "toldName", "(II)I"⟩ ∈ GT := gt_4 (List.mem_of_getElem? (i := 224) rfl) rfl
theorem wd_945 : Cond.code ⟨"CarHouse$Reader", "toldName", "(II)I"⟩ prog_10_method_25_code 4 (some .int) ∈ GT := gt_4 (List.mem_of_getElem? (i := 225) rfl) rfl
theorem wd_946 : Cond.methodLink "CarHouse$Reader" 282 ⟨"CarHouse$Reader", "fetchWord", "()Z"⟩ ∈ GT := gt_4 (List.mem_of_getElem? (i := 226) rfl) rfl
theorem wd_948 : Cond.instanceMethod ⟨"CarHouse$Reader", "fetchWord", "()Z"⟩ ∈ GT := gt_4 (List.mem_of_getElem? (i := 228) rfl) rfl
theorem wd_949 : Cond.code ⟨"CarHouse$Reader", "fetchWord", "()Z"⟩ prog_10_method_34_code 1 (some .boolean) ∈ GT := gt_4 (List.mem_of_getElem? (i := 229) rfl) rfl
theorem wd_950 : Cond.methodLink "CarHouse$Reader" 155 ⟨"CarHouse$Reader", "number", "(II)I"⟩ ∈ GT := gt_4 (List.mem_of_getElem? (i := 230) rfl) rfl
theorem wd_952 : Cond.instanceMethod ⟨"CarHouse$Reader", "number", "(II)I"⟩ ∈ GT := gt_4 (List.mem_of_getElem? (i := 232) rfl) rfl
theorem wd_953 : Cond.code ⟨"CarHouse$Reader", "number", "(II)I"⟩ prog_10_method_29_code 3 (some .int) ∈ GT := gt_4 (List.mem_of_getElem? (i := 233) rfl) rfl
theorem wd_954 : Cond.methodLink "CarHouse$Reader" 287 ⟨"CarHouse$Reader", "boundedNumber", "(II)I"⟩ ∈ GT := gt_4 (List.mem_of_getElem? (i := 234) rfl) rfl
theorem wd_956 : Cond.instanceMethod ⟨"CarHouse$Reader", "boundedNumber", "(II)I"⟩ ∈ GT := gt_4 (List.mem_of_getElem? (i := 236) rfl) rfl
theorem wd_957 : Cond.code ⟨"CarHouse$Reader", "boundedNumber", "(II)I"⟩ prog_10_method_30_code 4 (some .int) ∈ GT := gt_4 (List.mem_of_getElem? (i := 237) rfl) rfl
theorem wd_958 : Cond.methodLink "CarHouse$Reader" 290 ⟨"CarHouse$Reader", "isNumber", "()Z"⟩ ∈ GT := gt_4 (List.mem_of_getElem? (i := 238) rfl) rfl
theorem wd_960 : Cond.instanceMethod ⟨"CarHouse$Reader", "isNumber", "()Z"⟩ ∈ GT := gt_5 (List.mem_of_getElem? (i := 0) rfl) rfl
theorem wd_961 : Cond.code ⟨"CarHouse$Reader", "isNumber", "()Z"⟩ prog_10_method_41_code 3 (some .boolean) ∈ GT := gt_5 (List.mem_of_getElem? (i := 1) rfl) rfl
theorem wd_962 : Cond.methodLink "CarHouse$Reader" 293 ⟨"CarHouse$Reader", "numberAtHand", "()I"⟩ ∈ GT := gt_5 (List.mem_of_getElem? (i := 2) rfl) rfl
theorem wd_964 : Cond.instanceMethod ⟨"CarHouse$Reader", "numberAtHand", "()I"⟩ ∈ GT := gt_5 (List.mem_of_getElem? (i := 4) rfl) rfl
theorem wd_965 : Cond.code ⟨"CarHouse$Reader", "numberAtHand", "()I"⟩ prog_10_method_42_code 4 (some .int) ∈ GT := gt_5 (List.mem_of_getElem? (i := 5) rfl) rfl
theorem wd_966 : Cond.methodLink "CarHouse$Reader" 158 ⟨"CarHouse$Cores", "addTask", "(IIIII)V"⟩ ∈ GT := gt_5 (List.mem_of_getElem? (i := 6) rfl) rfl
theorem wd_967 : Cond.instanceMethod ⟨"CarHouse$Cores", "addTask", "(IIIII)V"⟩ ∈ GT := gt_5 (List.mem_of_getElem? (i := 7) rfl) rfl
theorem wd_968 : Cond.selects "CarHouse$Cores" ⟨"CarHouse$Cores", "addTask", "(IIIII)V"⟩ ⟨"CarHouse$Cores", "addTask", "(IIIII)V"⟩ ∈ GT := gt_5 (List.mem_of_getElem? (i := 8) rfl) rfl
theorem wd_969 : Cond.code ⟨"CarHouse$Cores", "addTask", "(IIIII)V"⟩ prog_6_method_3_code 6 none ∈ GT := gt_5 (List.mem_of_getElem? (i := 9) rfl) rfl
theorem wd_970 : Cond.methodLink "CarHouse$Reader" 100 ⟨"CarHouse$Reader", "readChart", "()V"⟩ ∈ GT := gt_5 (List.mem_of_getElem? (i := 10) rfl) rfl
theorem wd_972 : Cond.instanceMethod ⟨"CarHouse$Reader", "readChart", "()V"⟩ ∈ GT := gt_5 (List.mem_of_getElem? (i := 12) rfl) rfl
theorem wd_973 : Cond.code ⟨"CarHouse$Reader", "readChart", "()V"⟩ prog_10_method_11_code 4 none ∈ GT := gt_5 (List.mem_of_getElem? (i := 13) rfl) rfl
theorem wd_974 : Cond.methodLink "CarHouse$Reader" 169 ⟨"CarHouse$Car", "addChart", "(II)V"⟩ ∈ GT := gt_5 (List.mem_of_getElem? (i := 14) rfl) rfl
theorem wd_975 : Cond.instanceMethod ⟨"CarHouse$Car", "addChart", "(II)V"⟩ ∈ GT := gt_5 (List.mem_of_getElem? (i := 15) rfl) rfl
theorem wd_976 : Cond.selects "CarHouse$Car" ⟨"CarHouse$Car", "addChart", "(II)V"⟩ ⟨"CarHouse$Car", "addChart", "(II)V"⟩ ∈ GT := gt_5 (List.mem_of_getElem? (i := 16) rfl) rfl
theorem wd_977 : Cond.code ⟨"CarHouse$Car", "addChart", "(II)V"⟩ prog_3_method_3_code 3 none ∈ GT := gt_5 (List.mem_of_getElem? (i := 17) rfl) rfl
theorem wd_978 : Cond.methodLink "CarHouse$Car" 119 ⟨"CarHouse$Chart", "begin", "(II)V"⟩ ∈ GT := gt_5 (List.mem_of_getElem? (i := 18) rfl) rfl
theorem wd_979 : Cond.instanceMethod ⟨"CarHouse$Chart", "begin", "(II)V"⟩ ∈ GT := gt_5 (List.mem_of_getElem? (i := 19) rfl) rfl
theorem wd_980 : Cond.selects "CarHouse$Chart" ⟨"CarHouse$Chart", "begin", "(II)V"⟩ ⟨"CarHouse$Chart", "begin", "(II)V"⟩ ∈ GT := gt_5 (List.mem_of_getElem? (i := 20) rfl) rfl
theorem wd_981 : Cond.code ⟨"CarHouse$Chart", "begin", "(II)V"⟩ prog_4_method_2_code 4 none ∈ GT := gt_5 (List.mem_of_getElem? (i := 21) rfl) rfl
theorem wd_982 : Cond.methodLink "CarHouse$Chart" 68 ⟨"CarHouse$Chart", "clearState", "(I)V"⟩ ∈ GT := gt_5 (List.mem_of_getElem? (i := 22) rfl) rfl
theorem wd_984 : Cond.instanceMethod ⟨"CarHouse$Chart", "clearState", "(I)V"⟩ ∈ GT := gt_5 (List.mem_of_getElem? (i := 24) rfl) rfl
theorem wd_985 : Cond.code ⟨"CarHouse$Chart", "clearState", "(I)V"⟩ prog_4_method_3_code 3 none ∈ GT := gt_5 (List.mem_of_getElem? (i := 25) rfl) rfl
theorem wd_986 : Cond.methodLink "CarHouse$Reader" 103 ⟨"CarHouse$Reader", "readState", "()V"⟩ ∈ GT := gt_5 (List.mem_of_getElem? (i := 26) rfl) rfl
theorem wd_988 : Cond.instanceMethod ⟨"CarHouse$Reader", "readState", "()V"⟩ ∈ GT := gt_5 (List.mem_of_getElem? (i := 28) rfl) rfl
theorem wd_989 : Cond.code ⟨"CarHouse$Reader", "readState", "()V"⟩ prog_10_method_12_code 5 none ∈ GT := gt_5 (List.mem_of_getElem? (i := 29) rfl) rfl
theorem wd_990 : Cond.methodLink "CarHouse$Reader" 172 ⟨"CarHouse$Reader", "statesOf", "(I)I"⟩ ∈ GT := gt_5 (List.mem_of_getElem? (i := 30) rfl) rfl
theorem wd_991 : Cond.static ⟨"CarHouse$Reader", "statesOf", "(I)I"⟩ ∈ GT := gt_5 (List.mem_of_getElem? (i := 31) rfl) rfl
theorem wd_992 : Cond.code ⟨"CarHouse$Reader", "statesOf", "(I)I"⟩ prog_10_method_45_code 1 (some .int) ∈ GT := gt_5 (List.mem_of_getElem? (i := 32) rfl) rfl
theorem wd_993 : Cond.methodLink "CarHouse$Reader" 175 ⟨"CarHouse$Reader", "parentState", "(I)I"⟩ ∈ GT := gt_5 (List.mem_of_getElem? (i := 33) rfl) rfl
theorem wd_995 : Cond.instanceMethod ⟨"CarHouse$Reader", "parentState", "(I)I"⟩ ∈ GT := gt_5 (List.mem_of_getElem? (i := 35) rfl) rfl
theorem wd_996 : Cond.code ⟨"CarHouse$Reader", "parentState", "(I)I"⟩ prog_10_method_26_code 3 (some .int) ∈ GT := gt_5 (List.mem_of_getElem? (i := 36) rfl) rfl
theorem wd_998 : Cond.methodLink "CarHouse$Reader" 180 ⟨"CarHouse$Reader", "oneOf", "(Ljava/lang/String;)I"⟩ ∈ GT := gt_5 (List.mem_of_getElem? (i := 38) rfl) rfl
theorem wd_1000 : Cond.instanceMethod ⟨"CarHouse$Reader", "oneOf", "(Ljava/lang/String;)I"⟩ ∈ GT := gt_5 (List.mem_of_getElem? (i := 40) rfl) rfl
theorem wd_1001 : Cond.code ⟨"CarHouse$Reader", "oneOf", "(Ljava/lang/String;)I"⟩ prog_10_method_31_code 3 (some .int) ∈ GT := gt_5 (List.mem_of_getElem? (i := 41) rfl) rfl
theorem wd_1002 : Cond.methodLink "CarHouse$Reader" 187 ⟨"CarHouse$Chart", "addState", "(II)I"⟩ ∈ GT := gt_5 (List.mem_of_getElem? (i := 42) rfl) rfl
theorem wd_1003 : Cond.instanceMethod ⟨"CarHouse$Chart", "addState", "(II)I"⟩ ∈ GT := gt_5 (List.mem_of_getElem? (i := 43) rfl) rfl
theorem wd_1004 : Cond.selects "CarHouse$Chart" ⟨"CarHouse$Chart", "addState", "(II)I"⟩ ⟨"CarHouse$Chart", "addState", "(II)I"⟩ ∈ GT := gt_5 (List.mem_of_getElem? (i := 44) rfl) rfl
theorem wd_1005 : Cond.code ⟨"CarHouse$Chart", "addState", "(II)I"⟩ prog_4_method_4_code 4 (some .int) ∈ GT := gt_5 (List.mem_of_getElem? (i := 45) rfl) rfl
theorem wd_1006 : Cond.methodLink "CarHouse$Chart" 72 ⟨"CarHouse$Chart", "isMark", "(I)Z"⟩ ∈ GT := gt_5 (List.mem_of_getElem? (i := 46) rfl) rfl
theorem wd_1008 : Cond.instanceMethod ⟨"CarHouse$Chart", "isMark", "(I)Z"⟩ ∈ GT := gt_5 (List.mem_of_getElem? (i := 48) rfl) rfl
theorem wd_1009 : Cond.code ⟨"CarHouse$Chart", "isMark", "(I)Z"⟩ prog_4_method_10_code 2 (some .boolean) ∈ GT := gt_5 (List.mem_of_getElem? (i := 49) rfl) rfl
theorem wd_1010 : Cond.methodLink "CarHouse$Chart" 76 ⟨"CarHouse$Chart", "putInOrder", "(II)V"⟩ ∈ GT := gt_5 (List.mem_of_getElem? (i := 50) rfl) rfl
theorem wd_1012 : Cond.instanceMethod ⟨"CarHouse$Chart", "putInOrder", "(II)V"⟩ ∈ GT := gt_5 (List.mem_of_getElem? (i := 52) rfl) rfl
theorem wd_1013 : Cond.code ⟨"CarHouse$Chart", "putInOrder", "(II)V"⟩ prog_4_method_5_code 5 none ∈ GT := gt_5 (List.mem_of_getElem? (i := 53) rfl) rfl
theorem wd_1014 : Cond.methodLink "CarHouse$Reader" 190 ⟨"CarHouse$Reader", "heed", "(I)V"⟩ ∈ GT := gt_5 (List.mem_of_getElem? (i := 54) rfl) rfl
theorem wd_1016 : Cond.instanceMethod ⟨"CarHouse$Reader", "heed", "(I)V"⟩ ∈ GT := gt_5 (List.mem_of_getElem? (i := 56) rfl) rfl
theorem wd_1017 : Cond.code ⟨"CarHouse$Reader", "heed", "(I)V"⟩ prog_10_method_22_code 2 none ∈ GT := gt_5 (List.mem_of_getElem? (i := 57) rfl) rfl
theorem wd_1018 : Cond.methodLink "CarHouse$Reader" 106 ⟨"CarHouse$Reader", "readEdge", "()V"⟩ ∈ GT := gt_5 (List.mem_of_getElem? (i := 58) rfl) rfl
theorem wd_1020 : Cond.instanceMethod ⟨"CarHouse$Reader", "readEdge", "()V"⟩ ∈ GT := gt_5 (List.mem_of_getElem? (i := 60) rfl) rfl
theorem wd_1021 : Cond.code ⟨"CarHouse$Reader", "readEdge", "()V"⟩ prog_10_method_13_code 8 none ∈ GT := gt_5 (List.mem_of_getElem? (i := 61) rfl) rfl
theorem wd_1022 : Cond.methodLink "CarHouse$Reader" 193 ⟨"CarHouse$Reader", "eventOrTime", "(I)I"⟩ ∈ GT := gt_5 (List.mem_of_getElem? (i := 62) rfl) rfl
theorem wd_1024 : Cond.instanceMethod ⟨"CarHouse$Reader", "eventOrTime", "(I)I"⟩ ∈ GT := gt_5 (List.mem_of_getElem? (i := 64) rfl) rfl
theorem wd_1025 : Cond.code ⟨"CarHouse$Reader", "eventOrTime", "(I)I"⟩ prog_10_method_27_code 2 (some .int) ∈ GT := gt_5 (List.mem_of_getElem? (i := 65) rfl) rfl
theorem wd_1028 : Cond.methodLink "CarHouse$Reader" 198 ⟨"CarHouse$Reader", "optional", "(Ljava/lang/String;)Z"⟩ ∈ GT := gt_5 (List.mem_of_getElem? (i := 68) rfl) rfl
theorem wd_1030 : Cond.instanceMethod ⟨"CarHouse$Reader", "optional", "(Ljava/lang/String;)Z"⟩ ∈ GT := gt_5 (List.mem_of_getElem? (i := 70) rfl) rfl
theorem wd_1031 : Cond.code ⟨"CarHouse$Reader", "optional", "(Ljava/lang/String;)Z"⟩ prog_10_method_32_code 2 (some .boolean) ∈ GT := gt_5 (List.mem_of_getElem? (i := 71) rfl) rfl
theorem wd_1032 : Cond.methodLink "CarHouse$Reader" 202 ⟨"CarHouse$Reader", "dataOf", "(I)I"⟩ ∈ GT := gt_5 (List.mem_of_getElem? (i := 72) rfl) rfl
theorem wd_1033 : Cond.static ⟨"CarHouse$Reader", "dataOf", "(I)I"⟩ ∈ GT := gt_5 (List.mem_of_getElem? (i := 73) rfl) rfl
theorem wd_1034 : Cond.code ⟨"CarHouse$Reader", "dataOf", "(I)I"⟩ prog_10_method_46_code 1 (some .int) ∈ GT := gt_5 (List.mem_of_getElem? (i := 74) rfl) rfl
theorem wd_1036 : Cond.methodLink "CarHouse$Reader" 207 ⟨"CarHouse$Reader", "otherOperand", "(I)I"⟩ ∈ GT := gt_5 (List.mem_of_getElem? (i := 76) rfl) rfl
theorem wd_1038 : Cond.instanceMethod ⟨"CarHouse$Reader", "otherOperand", "(I)I"⟩ ∈ GT := gt_5 (List.mem_of_getElem? (i := 78) rfl) rfl
theorem wd_1039 : Cond.code ⟨"CarHouse$Reader", "otherOperand", "(I)I"⟩ prog_10_method_28_code 3 (some .int) ∈ GT := gt_5 (List.mem_of_getElem? (i := 79) rfl) rfl
theorem wd_1040 : Cond.methodLink "CarHouse$Reader" 210 ⟨"CarHouse$Chart", "addEdge", "(IIII)I"⟩ ∈ GT := gt_5 (List.mem_of_getElem? (i := 80) rfl) rfl
theorem wd_1041 : Cond.instanceMethod ⟨"CarHouse$Chart", "addEdge", "(IIII)I"⟩ ∈ GT := gt_5 (List.mem_of_getElem? (i := 81) rfl) rfl
theorem wd_1042 : Cond.selects "CarHouse$Chart" ⟨"CarHouse$Chart", "addEdge", "(IIII)I"⟩ ⟨"CarHouse$Chart", "addEdge", "(IIII)I"⟩ ∈ GT := gt_5 (List.mem_of_getElem? (i := 82) rfl) rfl
theorem wd_1043 : Cond.code ⟨"CarHouse$Chart", "addEdge", "(IIII)I"⟩ prog_4_method_6_code 5 (some .int) ∈ GT := gt_5 (List.mem_of_getElem? (i := 83) rfl) rfl
theorem wd_1044 : Cond.methodLink "CarHouse$Reader" 109 ⟨"CarHouse$Reader", "readAfter", "()V"⟩ ∈ GT := gt_5 (List.mem_of_getElem? (i := 84) rfl) rfl
theorem wd_1046 : Cond.instanceMethod ⟨"CarHouse$Reader", "readAfter", "()V"⟩ ∈ GT := gt_5 (List.mem_of_getElem? (i := 86) rfl) rfl
theorem wd_1047 : Cond.code ⟨"CarHouse$Reader", "readAfter", "()V"⟩ prog_10_method_14_code 4 none ∈ GT := gt_5 (List.mem_of_getElem? (i := 87) rfl) rfl
theorem wd_1048 : Cond.methodLink "CarHouse$Reader" 214 ⟨"CarHouse$Chart", "setTicks", "(II)I"⟩ ∈ GT := gt_5 (List.mem_of_getElem? (i := 88) rfl) rfl
theorem wd_1049 : Cond.instanceMethod ⟨"CarHouse$Chart", "setTicks", "(II)I"⟩ ∈ GT := gt_5 (List.mem_of_getElem? (i := 89) rfl) rfl
theorem wd_1050 : Cond.selects "CarHouse$Chart" ⟨"CarHouse$Chart", "setTicks", "(II)I"⟩ ⟨"CarHouse$Chart", "setTicks", "(II)I"⟩ ∈ GT := gt_5 (List.mem_of_getElem? (i := 90) rfl) rfl
theorem wd_1051 : Cond.code ⟨"CarHouse$Chart", "setTicks", "(II)I"⟩ prog_4_method_9_code 3 (some .int) ∈ GT := gt_5 (List.mem_of_getElem? (i := 91) rfl) rfl
theorem wd_1052 : Cond.methodLink "CarHouse$Reader" 112 ⟨"CarHouse$Reader", "readDatum", "()V"⟩ ∈ GT := gt_5 (List.mem_of_getElem? (i := 92) rfl) rfl
theorem wd_1054 : Cond.instanceMethod ⟨"CarHouse$Reader", "readDatum", "()V"⟩ ∈ GT := gt_5 (List.mem_of_getElem? (i := 94) rfl) rfl
theorem wd_1055 : Cond.code ⟨"CarHouse$Reader", "readDatum", "()V"⟩ prog_10_method_15_code 4 none ∈ GT := gt_5 (List.mem_of_getElem? (i := 95) rfl) rfl
theorem wd_1056 : Cond.constant "CarHouse$Reader" 217 (-999999999) ∈ GT := gt_5 (List.mem_of_getElem? (i := 96) rfl) rfl
theorem wd_1057 : Cond.constant "CarHouse$Reader" 218 999999999 ∈ GT := gt_5 (List.mem_of_getElem? (i := 97) rfl) rfl
theorem wd_1058 : Cond.methodLink "CarHouse$Reader" 219 ⟨"CarHouse$Chart", "addDatum", "(I)I"⟩ ∈ GT := gt_5 (List.mem_of_getElem? (i := 98) rfl) rfl
theorem wd_1059 : Cond.instanceMethod ⟨"CarHouse$Chart", "addDatum", "(I)I"⟩ ∈ GT := gt_5 (List.mem_of_getElem? (i := 99) rfl) rfl
theorem wd_1060 : Cond.selects "CarHouse$Chart" ⟨"CarHouse$Chart", "addDatum", "(I)I"⟩ ⟨"CarHouse$Chart", "addDatum", "(I)I"⟩ ∈ GT := gt_5 (List.mem_of_getElem? (i := 100) rfl) rfl
theorem wd_1061 : Cond.code ⟨"CarHouse$Chart", "addDatum", "(I)I"⟩ prog_4_method_8_code 2 (some .int) ∈ GT := gt_5 (List.mem_of_getElem? (i := 101) rfl) rfl
theorem wd_1062 : Cond.methodLink "CarHouse$Reader" 117 ⟨"CarHouse$Reader", "readAct", "(I)V"⟩ ∈ GT := gt_5 (List.mem_of_getElem? (i := 102) rfl) rfl
theorem wd_1064 : Cond.instanceMethod ⟨"CarHouse$Reader", "readAct", "(I)V"⟩ ∈ GT := gt_5 (List.mem_of_getElem? (i := 104) rfl) rfl
theorem wd_1065 : Cond.code ⟨"CarHouse$Reader", "readAct", "(I)V"⟩ prog_10_method_16_code 7 none ∈ GT := gt_5 (List.mem_of_getElem? (i := 105) rfl) rfl
theorem wd_1067 : Cond.methodLink "CarHouse$Reader" 227 ⟨"CarHouse$Chart", "addAct", "(IIIIZ)I"⟩ ∈ GT := gt_5 (List.mem_of_getElem? (i := 107) rfl) rfl
theorem wd_1068 : Cond.instanceMethod ⟨"CarHouse$Chart", "addAct", "(IIIIZ)I"⟩ ∈ GT := gt_5 (List.mem_of_getElem? (i := 108) rfl) rfl
theorem wd_1069 : Cond.selects "CarHouse$Chart" ⟨"CarHouse$Chart", "addAct", "(IIIIZ)I"⟩ ⟨"CarHouse$Chart", "addAct", "(IIIIZ)I"⟩ ∈ GT := gt_5 (List.mem_of_getElem? (i := 109) rfl) rfl
theorem wd_1070 : Cond.code ⟨"CarHouse$Chart", "addAct", "(IIIIZ)I"⟩ prog_4_method_7_code 6 (some .int) ∈ GT := gt_5 (List.mem_of_getElem? (i := 110) rfl) rfl
theorem wd_1071 : Cond.methodLink "CarHouse$Reader" 120 ⟨"CarHouse$Reader", "readSignal", "()V"⟩ ∈ GT := gt_5 (List.mem_of_getElem? (i := 111) rfl) rfl
theorem wd_1073 : Cond.instanceMethod ⟨"CarHouse$Reader", "readSignal", "()V"⟩ ∈ GT := gt_5 (List.mem_of_getElem? (i := 113) rfl) rfl
theorem wd_1074 : Cond.code ⟨"CarHouse$Reader", "readSignal", "()V"⟩ prog_10_method_17_code 6 none ∈ GT := gt_5 (List.mem_of_getElem? (i := 114) rfl) rfl
theorem wd_1076 : Cond.methodLink "CarHouse$Reader" 242 ⟨"CarHouse$Frames", "addSignal", "(IIIIIZI)V"⟩ ∈ GT := gt_5 (List.mem_of_getElem? (i := 116) rfl) rfl
theorem wd_1077 : Cond.instanceMethod ⟨"CarHouse$Frames", "addSignal", "(IIIIIZI)V"⟩ ∈ GT := gt_5 (List.mem_of_getElem? (i := 117) rfl) rfl
theorem wd_1078 : Cond.selects "CarHouse$Frames" ⟨"CarHouse$Frames", "addSignal", "(IIIIIZI)V"⟩ ⟨"CarHouse$Frames", "addSignal", "(IIIIIZI)V"⟩ ∈ GT := gt_5 (List.mem_of_getElem? (i := 118) rfl) rfl
theorem wd_1079 : Cond.code ⟨"CarHouse$Frames", "addSignal", "(IIIIIZI)V"⟩ prog_8_method_3_code 8 none ∈ GT := gt_5 (List.mem_of_getElem? (i := 119) rfl) rfl
theorem wd_1080 : Cond.methodLink "CarHouse$Reader" 123 ⟨"CarHouse$Reader", "readProtect", "()V"⟩ ∈ GT := gt_5 (List.mem_of_getElem? (i := 120) rfl) rfl
theorem wd_1082 : Cond.instanceMethod ⟨"CarHouse$Reader", "readProtect", "()V"⟩ ∈ GT := gt_5 (List.mem_of_getElem? (i := 122) rfl) rfl
theorem wd_1083 : Cond.code ⟨"CarHouse$Reader", "readProtect", "()V"⟩ prog_10_method_18_code 5 none ∈ GT := gt_5 (List.mem_of_getElem? (i := 123) rfl) rfl
theorem wd_1084 : Cond.methodLink "CarHouse$Reader" 246 ⟨"CarHouse$Frames", "keyOf", "(II)I"⟩ ∈ GT := gt_5 (List.mem_of_getElem? (i := 124) rfl) rfl
theorem wd_1085 : Cond.instanceMethod ⟨"CarHouse$Frames", "keyOf", "(II)I"⟩ ∈ GT := gt_5 (List.mem_of_getElem? (i := 125) rfl) rfl
theorem wd_1086 : Cond.selects "CarHouse$Frames" ⟨"CarHouse$Frames", "keyOf", "(II)I"⟩ ⟨"CarHouse$Frames", "keyOf", "(II)I"⟩ ∈ GT := gt_5 (List.mem_of_getElem? (i := 126) rfl) rfl
theorem wd_1087 : Cond.code ⟨"CarHouse$Frames", "keyOf", "(II)I"⟩ prog_8_method_5_code 4 (some .int) ∈ GT := gt_5 (List.mem_of_getElem? (i := 127) rfl) rfl
theorem wd_1088 : Cond.methodLink "CarHouse$Reader" 249 ⟨"CarHouse$Frames", "addKey", "(III)V"⟩ ∈ GT := gt_5 (List.mem_of_getElem? (i := 128) rfl) rfl
theorem wd_1089 : Cond.instanceMethod ⟨"CarHouse$Frames", "addKey", "(III)V"⟩ ∈ GT := gt_5 (List.mem_of_getElem? (i := 129) rfl) rfl
theorem wd_1090 : Cond.selects "CarHouse$Frames" ⟨"CarHouse$Frames", "addKey", "(III)V"⟩ ⟨"CarHouse$Frames", "addKey", "(III)V"⟩ ∈ GT := gt_5 (List.mem_of_getElem? (i := 130) rfl) rfl
theorem wd_1091 : Cond.code ⟨"CarHouse$Frames", "addKey", "(III)V"⟩ prog_8_method_4_code 4 none ∈ GT := gt_5 (List.mem_of_getElem? (i := 131) rfl) rfl
theorem wd_1092 : Cond.methodLink "CarHouse$Reader" 126 ⟨"CarHouse$Reader", "readRead", "()V"⟩ ∈ GT := gt_5 (List.mem_of_getElem? (i := 132) rfl) rfl
theorem wd_1094 : Cond.instanceMethod ⟨"CarHouse$Reader", "readRead", "()V"⟩ ∈ GT := gt_5 (List.mem_of_getElem? (i := 134) rfl) rfl
theorem wd_1095 : Cond.code ⟨"CarHouse$Reader", "readRead", "()V"⟩ prog_10_method_19_code 5 none ∈ GT := gt_5 (List.mem_of_getElem? (i := 135) rfl) rfl
theorem wd_1096 : Cond.methodLink "CarHouse$Reader" 252 ⟨"CarHouse$Reader", "refuseOwn", "(II)V"⟩ ∈ GT := gt_5 (List.mem_of_getElem? (i := 136) rfl) rfl
theorem wd_1098 : Cond.instanceMethod ⟨"CarHouse$Reader", "refuseOwn", "(II)V"⟩ ∈ GT := gt_5 (List.mem_of_getElem? (i := 138) rfl) rfl
theorem wd_1099 : Cond.code ⟨"CarHouse$Reader", "refuseOwn", "(II)V"⟩ prog_10_method_21_code 3 none ∈ GT := gt_5 (List.mem_of_getElem? (i := 139) rfl) rfl
theorem wd_1100 : Cond.methodLink "CarHouse$Reader" 255 ⟨"CarHouse$Car", "addRead", "(IIII)I"⟩ ∈ GT := gt_5 (List.mem_of_getElem? (i := 140) rfl) rfl
theorem wd_1101 : Cond.instanceMethod ⟨"CarHouse$Car", "addRead", "(IIII)I"⟩ ∈ GT := gt_5 (List.mem_of_getElem? (i := 141) rfl) rfl
theorem wd_1102 : Cond.selects "CarHouse$Car" ⟨"CarHouse$Car", "addRead", "(IIII)I"⟩ ⟨"CarHouse$Car", "addRead", "(IIII)I"⟩ ∈ GT := gt_5 (List.mem_of_getElem? (i := 142) rfl) rfl
theorem wd_1103 : Cond.code ⟨"CarHouse$Car", "addRead", "(IIII)I"⟩ prog_3_method_4_code 5 (some .int) ∈ GT := gt_5 (List.mem_of_getElem? (i := 143) rfl) rfl
theorem wd_1104 : Cond.methodLink "CarHouse$Reader" 129 ⟨"CarHouse$Reader", "readWatch", "()V"⟩ ∈ GT := gt_5 (List.mem_of_getElem? (i := 144) rfl) rfl
theorem wd_1106 : Cond.instanceMethod ⟨"CarHouse$Reader", "readWatch", "()V"⟩ ∈ GT := gt_5 (List.mem_of_getElem? (i := 146) rfl) rfl
theorem wd_1107 : Cond.code ⟨"CarHouse$Reader", "readWatch", "()V"⟩ prog_10_method_20_code 5 none ∈ GT := gt_5 (List.mem_of_getElem? (i := 147) rfl) rfl
theorem wd_1108 : Cond.methodLink "CarHouse$Reader" 262 ⟨"CarHouse$Troubles", "addWatch", "(IIII)I"⟩ ∈ GT := gt_5 (List.mem_of_getElem? (i := 148) rfl) rfl
theorem wd_1109 : Cond.instanceMethod ⟨"CarHouse$Troubles", "addWatch", "(IIII)I"⟩ ∈ GT := gt_5 (List.mem_of_getElem? (i := 149) rfl) rfl
theorem wd_1110 : Cond.selects "CarHouse$Troubles" ⟨"CarHouse$Troubles", "addWatch", "(IIII)I"⟩ ⟨"CarHouse$Troubles", "addWatch", "(IIII)I"⟩ ∈ GT := gt_5 (List.mem_of_getElem? (i := 150) rfl) rfl
theorem wd_1111 : Cond.code ⟨"CarHouse$Troubles", "addWatch", "(IIII)I"⟩ prog_12_method_3_code 5 (some .int) ∈ GT := gt_5 (List.mem_of_getElem? (i := 151) rfl) rfl
theorem wd_1112 : Cond.methodLink "CarHouse$Troubles" 33 ⟨"CarHouse$Troubles", "forget", "(I)V"⟩ ∈ GT := gt_5 (List.mem_of_getElem? (i := 152) rfl) rfl
theorem wd_1114 : Cond.instanceMethod ⟨"CarHouse$Troubles", "forget", "(I)V"⟩ ∈ GT := gt_5 (List.mem_of_getElem? (i := 154) rfl) rfl
theorem wd_1115 : Cond.code ⟨"CarHouse$Troubles", "forget", "(I)V"⟩ prog_12_method_4_code 2 none ∈ GT := gt_5 (List.mem_of_getElem? (i := 155) rfl) rfl
theorem wd_1116 : Cond.methodLink "CarHouse$Reader" 65 ⟨"CarHouse$Reader", "judgeWhole", "()V"⟩ ∈ GT := gt_5 (List.mem_of_getElem? (i := 156) rfl) rfl
theorem wd_1118 : Cond.instanceMethod ⟨"CarHouse$Reader", "judgeWhole", "()V"⟩ ∈ GT := gt_5 (List.mem_of_getElem? (i := 158) rfl) rfl
theorem wd_1119 : Cond.code ⟨"CarHouse$Reader", "judgeWhole", "()V"⟩ prog_10_method_4_code 2 none ∈ GT := gt_5 (List.mem_of_getElem? (i := 159) rfl) rfl
theorem wd_1120 : Cond.methodLink "CarHouse$Reader" 79 ⟨"CarHouse$Frames", "findTooLarge", "(I)I"⟩ ∈ GT := gt_5 (List.mem_of_getElem? (i := 160) rfl) rfl
theorem wd_1121 : Cond.instanceMethod ⟨"CarHouse$Frames", "findTooLarge", "(I)I"⟩ ∈ GT := gt_5 (List.mem_of_getElem? (i := 161) rfl) rfl
theorem wd_1122 : Cond.selects "CarHouse$Frames" ⟨"CarHouse$Frames", "findTooLarge", "(I)I"⟩ ⟨"CarHouse$Frames", "findTooLarge", "(I)I"⟩ ∈ GT := gt_5 (List.mem_of_getElem? (i := 162) rfl) rfl
theorem wd_1123 : Cond.code ⟨"CarHouse$Frames", "findTooLarge", "(I)I"⟩ prog_8_method_6_code 5 (some .int) ∈ GT := gt_5 (List.mem_of_getElem? (i := 163) rfl) rfl
theorem wd_1124 : Cond.methodLink "CarHouse$Frames" 58 ⟨"CarHouse$Frames", "keyOf", "(II)I"⟩ ∈ GT := gt_5 (List.mem_of_getElem? (i := 164) rfl) rfl
theorem wd_1125 : Cond.methodLink "CarHouse$Frames" 62 ⟨"CarHouse$Frames", "octetsOf", "(I)I"⟩ ∈ GT := gt_5 (List.mem_of_getElem? (i := 165) rfl) rfl
theorem wd_1127 : Cond.instanceMethod ⟨"CarHouse$Frames", "octetsOf", "(I)I"⟩ ∈ GT := gt_5 (List.mem_of_getElem? (i := 167) rfl) rfl
theorem wd_1128 : Cond.code ⟨"CarHouse$Frames", "octetsOf", "(I)I"⟩ prog_8_method_25_code 2 (some .int) ∈ GT := gt_5 (List.mem_of_getElem? (i := 168) rfl) rfl
theorem wd_1129 : Cond.methodLink "CarHouse" 69 ⟨"CarHouse$Car", "join", "()V"⟩ ∈ GT := gt_5 (List.mem_of_getElem? (i := 169) rfl) rfl
theorem wd_1130 : Cond.instanceMethod ⟨"CarHouse$Car", "join", "()V"⟩ ∈ GT := gt_5 (List.mem_of_getElem? (i := 170) rfl) rfl
theorem wd_1131 : Cond.selects "CarHouse$Car" ⟨"CarHouse$Car", "join", "()V"⟩ ⟨"CarHouse$Car", "join", "()V"⟩ ∈ GT := gt_5 (List.mem_of_getElem? (i := 171) rfl) rfl
theorem wd_1132 : Cond.code ⟨"CarHouse$Car", "join", "()V"⟩ prog_3_method_5_code 2 none ∈ GT := gt_5 (List.mem_of_getElem? (i := 172) rfl) rfl
theorem wd_1133 : Cond.methodLink "CarHouse$Car" 123 ⟨"CarHouse$Frames", "pack", "(I)V"⟩ ∈ GT := gt_5 (List.mem_of_getElem? (i := 173) rfl) rfl
theorem wd_1134 : Cond.instanceMethod ⟨"CarHouse$Frames", "pack", "(I)V"⟩ ∈ GT := gt_5 (List.mem_of_getElem? (i := 174) rfl) rfl
theorem wd_1135 : Cond.selects "CarHouse$Frames" ⟨"CarHouse$Frames", "pack", "(I)V"⟩ ⟨"CarHouse$Frames", "pack", "(I)V"⟩ ∈ GT := gt_5 (List.mem_of_getElem? (i := 175) rfl) rfl
theorem wd_1136 : Cond.code ⟨"CarHouse$Frames", "pack", "(I)V"⟩ prog_8_method_7_code 3 none ∈ GT := gt_5 (List.mem_of_getElem? (i := 176) rfl) rfl
theorem wd_1137 : Cond.methodLink "CarHouse$Frames" 66 ⟨"CarHouse$Frames", "packOf", "(IZ)V"⟩ ∈ GT := gt_5 (List.mem_of_getElem? (i := 177) rfl) rfl
theorem wd_1139 : Cond.instanceMethod ⟨"CarHouse$Frames", "packOf", "(IZ)V"⟩ ∈ GT := gt_5 (List.mem_of_getElem? (i := 179) rfl) rfl
theorem wd_1140 : Cond.code ⟨"CarHouse$Frames", "packOf", "(IZ)V"⟩ prog_8_method_8_code 5 none ∈ GT := gt_5 (List.mem_of_getElem? (i := 180) rfl) rfl
theorem wd_1141 : Cond.methodLink "CarHouse$Frames" 76 ⟨"CarHouse$Frames", "nextPeriod", "(IZI)I"⟩ ∈ GT := gt_5 (List.mem_of_getElem? (i := 181) rfl) rfl
theorem wd_1143 : Cond.instanceMethod ⟨"CarHouse$Frames", "nextPeriod", "(IZI)I"⟩ ∈ GT := gt_5 (List.mem_of_getElem? (i := 183) rfl) rfl
theorem wd_1144 : Cond.code ⟨"CarHouse$Frames", "nextPeriod", "(IZI)I"⟩ prog_8_method_9_code 6 (some .int) ∈ GT := gt_5 (List.mem_of_getElem? (i := 184) rfl) rfl
theorem wd_1145 : Cond.methodLink "CarHouse$Frames" 88 ⟨"CarHouse$Frames", "isOf", "(IIZ)Z"⟩ ∈ GT := gt_5 (List.mem_of_getElem? (i := 185) rfl) rfl
theorem wd_1147 : Cond.instanceMethod ⟨"CarHouse$Frames", "isOf", "(IIZ)Z"⟩ ∈ GT := gt_5 (List.mem_of_getElem? (i := 187) rfl) rfl
theorem wd_1148 : Cond.code ⟨"CarHouse$Frames", "isOf", "(IIZ)Z"⟩ prog_8_method_10_code 4 (some .boolean) ∈ GT := gt_5 (List.mem_of_getElem? (i := 188) rfl) rfl
theorem wd_1149 : Cond.methodLink "CarHouse$Frames" 92 ⟨"java/lang/Math", "min", "(II)I"⟩ ∈ GT := gt_5 (List.mem_of_getElem? (i := 189) rfl) rfl
theorem wd_1150 : Cond.static ⟨"java/lang/Math", "min", "(II)I"⟩ ∈ GT := gt_5 (List.mem_of_getElem? (i := 190) rfl) rfl
theorem wd_1151 : Cond.code ⟨"java/lang/Math", "min", "(II)I"⟩ prog_27_method_69_code 2 (some .int) ∈ GT := gt_5 (List.mem_of_getElem? (i := 191) rfl) rfl
theorem wd_1152 : Cond.methodLink "CarHouse$Frames" 80 ⟨"CarHouse$Frames", "collectGroups", "(IZI)V"⟩ ∈ GT := gt_5 (List.mem_of_getElem? (i := 192) rfl) rfl
theorem wd_1154 : Cond.instanceMethod ⟨"CarHouse$Frames", "collectGroups", "(IZI)V"⟩ ∈ GT := gt_5 (List.mem_of_getElem? (i := 194) rfl) rfl
theorem wd_1155 : Cond.code ⟨"CarHouse$Frames", "collectGroups", "(IZI)V"⟩ prog_8_method_11_code 6 none ∈ GT := gt_5 (List.mem_of_getElem? (i := 195) rfl) rfl
theorem wd_1156 : Cond.methodLink "CarHouse$Frames" 84 ⟨"CarHouse$Frames", "packGroups", "(I)V"⟩ ∈ GT := gt_5 (List.mem_of_getElem? (i := 196) rfl) rfl
theorem wd_1158 : Cond.instanceMethod ⟨"CarHouse$Frames", "packGroups", "(I)V"⟩ ∈ GT := gt_5 (List.mem_of_getElem? (i := 198) rfl) rfl
theorem wd_1159 : Cond.code ⟨"CarHouse$Frames", "packGroups", "(I)V"⟩ prog_8_method_12_code 2 none ∈ GT := gt_5 (List.mem_of_getElem? (i := 199) rfl) rfl
theorem wd_1160 : Cond.methodLink "CarHouse$Frames" 100 ⟨"CarHouse$Frames", "packBest", "(I)I"⟩ ∈ GT := gt_5 (List.mem_of_getElem? (i := 200) rfl) rfl
theorem wd_1162 : Cond.instanceMethod ⟨"CarHouse$Frames", "packBest", "(I)I"⟩ ∈ GT := gt_5 (List.mem_of_getElem? (i := 202) rfl) rfl
theorem wd_1163 : Cond.code ⟨"CarHouse$Frames", "packBest", "(I)I"⟩ prog_8_method_13_code 3 (some .int) ∈ GT := gt_5 (List.mem_of_getElem? (i := 203) rfl) rfl
theorem wd_1164 : Cond.methodLink "CarHouse$Frames" 109 ⟨"CarHouse$Frames", "fits", "(IIII)Z"⟩ ∈ GT := gt_5 (List.mem_of_getElem? (i := 204) rfl) rfl
theorem wd_1166 : Cond.instanceMethod ⟨"CarHouse$Frames", "fits", "(IIII)Z"⟩ ∈ GT := gt_5 (List.mem_of_getElem? (i := 206) rfl) rfl
theorem wd_1167 : Cond.code ⟨"CarHouse$Frames", "fits", "(IIII)Z"⟩ prog_8_method_14_code 7 (some .boolean) ∈ GT := gt_5 (List.mem_of_getElem? (i := 207) rfl) rfl
theorem wd_1168 : Cond.methodLink "CarHouse$Frames" 113 ⟨"CarHouse$Frames", "emptyFrames", "()V"⟩ ∈ GT := gt_5 (List.mem_of_getElem? (i := 208) rfl) rfl
theorem wd_1170 : Cond.instanceMethod ⟨"CarHouse$Frames", "emptyFrames", "()V"⟩ ∈ GT := gt_5 (List.mem_of_getElem? (i := 210) rfl) rfl
theorem wd_1171 : Cond.code ⟨"CarHouse$Frames", "emptyFrames", "()V"⟩ prog_8_method_16_code 2 none ∈ GT := gt_5 (List.mem_of_getElem? (i := 211) rfl) rfl
theorem wd_1172 : Cond.methodLink "CarHouse$Frames" 116 ⟨"java/lang/Math", "max", "(II)I"⟩ ∈ GT := gt_5 (List.mem_of_getElem? (i := 212) rfl) rfl
theorem wd_1173 : Cond.static ⟨"java/lang/Math", "max", "(II)I"⟩ ∈ GT := gt_5 (List.mem_of_getElem? (i := 213) rfl) rfl
theorem wd_1174 : Cond.code ⟨"java/lang/Math", "max", "(II)I"⟩ prog_27_method_65_code 2 (some .int) ∈ GT := gt_5 (List.mem_of_getElem? (i := 214) rfl) rfl
theorem wd_1175 : Cond.methodLink "CarHouse$Frames" 103 ⟨"CarHouse$Frames", "packFirstFit", "(I)I"⟩ ∈ GT := gt_5 (List.mem_of_getElem? (i := 215) rfl) rfl
theorem wd_1177 : Cond.instanceMethod ⟨"CarHouse$Frames", "packFirstFit", "(I)I"⟩ ∈ GT := gt_5 (List.mem_of_getElem? (i := 217) rfl) rfl
theorem wd_1178 : Cond.code ⟨"CarHouse$Frames", "packFirstFit", "(I)I"⟩ prog_8_method_15_code 6 (some .int) ∈ GT := gt_5 (List.mem_of_getElem? (i := 218) rfl) rfl
theorem wd_1179 : Cond.methodLink "CarHouse$Frames" 106 ⟨"CarHouse$Frames", "placeGroups", "(I)V"⟩ ∈ GT := gt_5 (List.mem_of_getElem? (i := 219) rfl) rfl
theorem wd_1181 : Cond.instanceMethod ⟨"CarHouse$Frames", "placeGroups", "(I)V"⟩ ∈ GT := gt_5 (List.mem_of_getElem? (i := 221) rfl) rfl
theorem wd_1182 : Cond.code ⟨"CarHouse$Frames", "placeGroups", "(I)V"⟩ prog_8_method_17_code 4 none ∈ GT := gt_5 (List.mem_of_getElem? (i := 222) rfl) rfl
theorem wd_1183 : Cond.methodLink "CarHouse$Frames" 119 ⟨"CarHouse$Frames", "openFrame", "(I)V"⟩ ∈ GT := gt_5 (List.mem_of_getElem? (i := 223) rfl) rfl
theorem wd_1185 : Cond.instanceMethod ⟨"CarHouse$Frames", "openFrame", "(I)V"⟩ ∈ GT := gt_5 (List.mem_of_getElem? (i := 225) rfl) rfl
theorem wd_1186 : Cond.code ⟨"CarHouse$Frames", "openFrame", "(I)V"⟩ prog_8_method_18_code 3 none ∈ GT := gt_5 (List.mem_of_getElem? (i := 226) rfl) rfl
theorem wd_1187 : Cond.methodLink "CarHouse$Frames" 70 ⟨"CarHouse$Frames", "findPositions", "()V"⟩ ∈ GT := gt_5 (List.mem_of_getElem? (i := 227) rfl) rfl
theorem wd_1189 : Cond.instanceMethod ⟨"CarHouse$Frames", "findPositions", "()V"⟩ ∈ GT := gt_5 (List.mem_of_getElem? (i := 229) rfl) rfl
theorem wd_1190 : Cond.code ⟨"CarHouse$Frames", "findPositions", "()V"⟩ prog_8_method_19_code 5 none ∈ GT := gt_5 (List.mem_of_getElem? (i := 230) rfl) rfl
theorem wd_1191 : Cond.methodLink "CarHouse$Frames" 73 ⟨"CarHouse$Frames", "findSoonest", "()V"⟩ ∈ GT := gt_5 (List.mem_of_getElem? (i := 231) rfl) rfl
theorem wd_1192 : Cond.instanceMethod ⟨"CarHouse$Frames", "findSoonest", "()V"⟩ ∈ GT := gt_5 (List.mem_of_getElem? (i := 232) rfl) rfl
theorem wd_1193 : Cond.selects "CarHouse$Frames" ⟨"CarHouse$Frames", "findSoonest", "()V"⟩ ⟨"CarHouse$Frames", "findSoonest", "()V"⟩ ∈ GT := gt_5 (List.mem_of_getElem? (i := 233) rfl) rfl
theorem wd_1194 : Cond.code ⟨"CarHouse$Frames", "findSoonest", "()V"⟩ prog_8_method_24_code 2 none ∈ GT := gt_5 (List.mem_of_getElem? (i := 234) rfl) rfl
theorem wd_1195 : Cond.methodLink "CarHouse$Car" 127 ⟨"CarHouse$Bus", "begin", "(I)V"⟩ ∈ GT := gt_5 (List.mem_of_getElem? (i := 235) rfl) rfl
theorem wd_1196 : Cond.instanceMethod ⟨"CarHouse$Bus", "begin", "(I)V"⟩ ∈ GT := gt_5 (List.mem_of_getElem? (i := 236) rfl) rfl
theorem wd_1197 : Cond.selects "CarHouse$Bus" ⟨"CarHouse$Bus", "begin", "(I)V"⟩ ⟨"CarHouse$Bus", "begin", "(I)V"⟩ ∈ GT := gt_5 (List.mem_of_getElem? (i := 237) rfl) rfl
theorem wd_1198 : Cond.code ⟨"CarHouse$Bus", "begin", "(I)V"⟩ prog_2_method_2_code 3 none ∈ GT := gt_5 (List.mem_of_getElem? (i := 238) rfl) rfl
theorem wd_1199 : Cond.methodLink "CarHouse$Bus" 43 ⟨"java/lang/Math", "min", "(II)I"⟩ ∈ GT := gt_5 (List.mem_of_getElem? (i := 239) rfl) rfl
theorem wd_1200 : Cond.methodLink "CarHouse$Car" 129 ⟨"CarHouse$Codes", "learn", "(I)V"⟩ ∈ GT := gt_6 (List.mem_of_getElem? (i := 0) rfl) rfl
theorem wd_1201 : Cond.instanceMethod ⟨"CarHouse$Codes", "learn", "(I)V"⟩ ∈ GT := gt_6 (List.mem_of_getElem? (i := 1) rfl) rfl
theorem wd_1202 : Cond.selects "CarHouse$Codes" ⟨"CarHouse$Codes", "learn", "(I)V"⟩ ⟨"CarHouse$Codes", "learn", "(I)V"⟩ ∈ GT := gt_6 (List.mem_of_getElem? (i := 2) rfl) rfl
theorem wd_1203 : Cond.code ⟨"CarHouse$Codes", "learn", "(I)V"⟩ prog_5_method_4_code 2 none ∈ GT := gt_6 (List.mem_of_getElem? (i := 3) rfl) rfl
theorem wd_1204 : Cond.methodLink "CarHouse$Codes" 41 ⟨"CarHouse$Codes", "spreadKey", "(I)V"⟩ ∈ GT := gt_6 (List.mem_of_getElem? (i := 4) rfl) rfl
theorem wd_1206 : Cond.instanceMethod ⟨"CarHouse$Codes", "spreadKey", "(I)V"⟩ ∈ GT := gt_6 (List.mem_of_getElem? (i := 6) rfl) rfl
theorem wd_1207 : Cond.code ⟨"CarHouse$Codes", "spreadKey", "(I)V"⟩ prog_5_method_7_code 7 none ∈ GT := gt_6 (List.mem_of_getElem? (i := 7) rfl) rfl
theorem wd_1208 : Cond.methodLink "CarHouse$Codes" 45 ⟨"CarHouse$Codes", "makeSecond", "(I)V"⟩ ∈ GT := gt_6 (List.mem_of_getElem? (i := 8) rfl) rfl
theorem wd_1210 : Cond.instanceMethod ⟨"CarHouse$Codes", "makeSecond", "(I)V"⟩ ∈ GT := gt_6 (List.mem_of_getElem? (i := 10) rfl) rfl
theorem wd_1211 : Cond.code ⟨"CarHouse$Codes", "makeSecond", "(I)V"⟩ prog_5_method_8_code 6 none ∈ GT := gt_6 (List.mem_of_getElem? (i := 11) rfl) rfl
theorem wd_1212 : Cond.methodLink "CarHouse$Codes" 48 ⟨"CarHouse$Codes", "encrypt", "(I)V"⟩ ∈ GT := gt_6 (List.mem_of_getElem? (i := 12) rfl) rfl
theorem wd_1214 : Cond.instanceMethod ⟨"CarHouse$Codes", "encrypt", "(I)V"⟩ ∈ GT := gt_6 (List.mem_of_getElem? (i := 14) rfl) rfl
theorem wd_1215 : Cond.code ⟨"CarHouse$Codes", "encrypt", "(I)V"⟩ prog_5_method_9_code 11 none ∈ GT := gt_6 (List.mem_of_getElem? (i := 15) rfl) rfl
theorem wd_1216 : Cond.methodLink "CarHouse$Car" 137 ⟨"CarHouse$Chart", "findDomains", "()V"⟩ ∈ GT := gt_6 (List.mem_of_getElem? (i := 16) rfl) rfl
theorem wd_1217 : Cond.instanceMethod ⟨"CarHouse$Chart", "findDomains", "()V"⟩ ∈ GT := gt_6 (List.mem_of_getElem? (i := 17) rfl) rfl
theorem wd_1218 : Cond.selects "CarHouse$Chart" ⟨"CarHouse$Chart", "findDomains", "()V"⟩ ⟨"CarHouse$Chart", "findDomains", "()V"⟩ ∈ GT := gt_6 (List.mem_of_getElem? (i := 18) rfl) rfl
theorem wd_1219 : Cond.code ⟨"CarHouse$Chart", "findDomains", "()V"⟩ prog_4_method_11_code 4 none ∈ GT := gt_6 (List.mem_of_getElem? (i := 19) rfl) rfl
theorem wd_1220 : Cond.methodLink "CarHouse$Chart" 80 ⟨"CarHouse$Chart", "firstInto", "(I)I"⟩ ∈ GT := gt_6 (List.mem_of_getElem? (i := 20) rfl) rfl
theorem wd_1222 : Cond.instanceMethod ⟨"CarHouse$Chart", "firstInto", "(I)I"⟩ ∈ GT := gt_6 (List.mem_of_getElem? (i := 22) rfl) rfl
theorem wd_1223 : Cond.code ⟨"CarHouse$Chart", "firstInto", "(I)I"⟩ prog_4_method_12_code 3 (some .int) ∈ GT := gt_6 (List.mem_of_getElem? (i := 23) rfl) rfl
theorem wd_1224 : Cond.methodLink "CarHouse$Chart" 84 ⟨"CarHouse$Chart", "isAround", "(II)Z"⟩ ∈ GT := gt_6 (List.mem_of_getElem? (i := 24) rfl) rfl
theorem wd_1226 : Cond.instanceMethod ⟨"CarHouse$Chart", "isAround", "(II)Z"⟩ ∈ GT := gt_6 (List.mem_of_getElem? (i := 26) rfl) rfl
theorem wd_1227 : Cond.code ⟨"CarHouse$Chart", "isAround", "(II)Z"⟩ prog_4_method_13_code 7 (some .boolean) ∈ GT := gt_6 (List.mem_of_getElem? (i := 27) rfl) rfl
theorem wd_1228 : Cond.methodLink "CarHouse$Chart" 88 ⟨"CarHouse$Chart", "isIn", "(II)Z"⟩ ∈ GT := gt_6 (List.mem_of_getElem? (i := 28) rfl) rfl
theorem wd_1230 : Cond.instanceMethod ⟨"CarHouse$Chart", "isIn", "(II)Z"⟩ ∈ GT := gt_6 (List.mem_of_getElem? (i := 30) rfl) rfl
theorem wd_1231 : Cond.code ⟨"CarHouse$Chart", "isIn", "(II)Z"⟩ prog_4_method_15_code 5 (some .boolean) ∈ GT := gt_6 (List.mem_of_getElem? (i := 31) rfl) rfl
theorem wd_1232 : Cond.methodLink "CarHouse$Chart" 91 ⟨"CarHouse$Chart", "isAim", "(I)Z"⟩ ∈ GT := gt_6 (List.mem_of_getElem? (i := 32) rfl) rfl
theorem wd_1234 : Cond.instanceMethod ⟨"CarHouse$Chart", "isAim", "(I)Z"⟩ ∈ GT := gt_6 (List.mem_of_getElem? (i := 34) rfl) rfl
theorem wd_1235 : Cond.code ⟨"CarHouse$Chart", "isAim", "(I)Z"⟩ prog_4_method_14_code 2 (some .boolean) ∈ GT := gt_6 (List.mem_of_getElem? (i := 35) rfl) rfl
theorem wd_1236 : Cond.methodLink "CarHouseLaw" 114 ⟨"CarHouseLaw", "count", "(LCarHouse;I[J)I"⟩ ∈ GT := gt_6 (List.mem_of_getElem? (i := 36) rfl) rfl
theorem wd_1237 : Cond.static ⟨"CarHouseLaw", "count", "(LCarHouse;I[J)I"⟩ ∈ GT := gt_6 (List.mem_of_getElem? (i := 37) rfl) rfl
theorem wd_1239 : Cond.methodLink "CarHouseLaw" 25 ⟨"CarHouse", "count", "(I)I"⟩ ∈ GT := gt_6 (List.mem_of_getElem? (i := 39) rfl) rfl
theorem wd_1240 : Cond.instanceMethod ⟨"CarHouse", "count", "(I)I"⟩ ∈ GT := gt_6 (List.mem_of_getElem? (i := 40) rfl) rfl
theorem wd_1241 : Cond.selects "CarHouse" ⟨"CarHouse", "count", "(I)I"⟩ ⟨"CarHouse", "count", "(I)I"⟩ ∈ GT := gt_6 (List.mem_of_getElem? (i := 41) rfl) rfl
theorem wd_1242 : Cond.code ⟨"CarHouse", "count", "(I)I"⟩ prog_1_method_6_code 2 (some .int) ∈ GT := gt_6 (List.mem_of_getElem? (i := 42) rfl) rfl
theorem wd_1245 : Cond.methodLink "CarHouseLaw" 117 ⟨"CarHouseLaw", "frame", "(LCarHouse;II[J)I"⟩ ∈ GT := gt_6 (List.mem_of_getElem? (i := 45) rfl) rfl
theorem wd_1246 : Cond.static ⟨"CarHouseLaw", "frame", "(LCarHouse;II[J)I"⟩ ∈ GT := gt_6 (List.mem_of_getElem? (i := 46) rfl) rfl
theorem wd_1248 : Cond.classLink "CarHouseLaw" 32 "java/lang/IndexOutOfBoundsException" ∈ GT := gt_6 (List.mem_of_getElem? (i := 48) rfl) rfl
theorem wd_1249 : Cond.methodLink "CarHouseLaw" 28 ⟨"CarHouse", "frame", "(II)I"⟩ ∈ GT := gt_6 (List.mem_of_getElem? (i := 49) rfl) rfl
theorem wd_1250 : Cond.instanceMethod ⟨"CarHouse", "frame", "(II)I"⟩ ∈ GT := gt_6 (List.mem_of_getElem? (i := 50) rfl) rfl
theorem wd_1251 : Cond.selects "CarHouse" ⟨"CarHouse", "frame", "(II)I"⟩ ⟨"CarHouse", "frame", "(II)I"⟩ ∈ GT := gt_6 (List.mem_of_getElem? (i := 51) rfl) rfl
theorem wd_1252 : Cond.code ⟨"CarHouse", "frame", "(II)I"⟩ prog_1_method_7_code 3 (some .int) ∈ GT := gt_6 (List.mem_of_getElem? (i := 52) rfl) rfl
theorem wd_1253 : Cond.classLink "CarHouse" 117 "java/lang/IndexOutOfBoundsException" ∈ GT := gt_6 (List.mem_of_getElem? (i := 53) rfl) rfl
theorem wd_1254 : Cond.instantiable "java/lang/IndexOutOfBoundsException" 6 ∈ GT := gt_6 (List.mem_of_getElem? (i := 54) rfl) rfl
theorem wd_1256 : Cond.selects "java/lang/IndexOutOfBoundsException" ⟨"java/lang/Throwable", "fillInStackTrace", "(I)Ljava/lang/Throwable;"⟩ ⟨"java/lang/Throwable", "fillInStackTrace", "(I)Ljava/lang/Throwable;"⟩ ∈ GT := gt_6 (List.mem_of_getElem? (i := 56) rfl) rfl
theorem wd_1257 : Cond.lays "java/lang/IndexOutOfBoundsException" "java/lang/Throwable" "cause" "Ljava/lang/Throwable;" ∈ GT := gt_6 (List.mem_of_getElem? (i := 57) rfl) rfl
theorem wd_1258 : Cond.lays "java/lang/IndexOutOfBoundsException" "java/lang/Throwable" "stackTrace" "[Ljava/lang/StackTraceElement;" ∈ GT := gt_6 (List.mem_of_getElem? (i := 58) rfl) rfl
theorem wd_1259 : Cond.lays "java/lang/IndexOutOfBoundsException" "java/lang/Throwable" "suppressedExceptions" "Ljava/util/List;" ∈ GT := gt_6 (List.mem_of_getElem? (i := 59) rfl) rfl
theorem wd_1260 : Cond.lays "java/lang/IndexOutOfBoundsException" "java/lang/Throwable" "detailMessage" "Ljava/lang/String;" ∈ GT := gt_6 (List.mem_of_getElem? (i := 60) rfl) rfl
theorem wd_1261 : Cond.lays "java/lang/IndexOutOfBoundsException" "java/lang/Throwable" "backtrace" "Ljava/lang/Object;" ∈ GT := gt_6 (List.mem_of_getElem? (i := 61) rfl) rfl
theorem wd_1263 : Cond.methodLink "CarHouse" 121 ⟨"java/lang/IndexOutOfBoundsException", "<init>", "(Ljava/lang/String;)V"⟩ ∈ GT := gt_6 (List.mem_of_getElem? (i := 63) rfl) rfl
theorem wd_1264 : Cond.instanceMethod ⟨"java/lang/IndexOutOfBoundsException", "<init>", "(Ljava/lang/String;)V"⟩ ∈ GT := gt_6 (List.mem_of_getElem? (i := 64) rfl) rfl
theorem wd_1265 : Cond.code ⟨"java/lang/IndexOutOfBoundsException", "<init>", "(Ljava/lang/String;)V"⟩ prog_25_method_2_code 2 none ∈ GT := gt_6 (List.mem_of_getElem? (i := 65) rfl) rfl
theorem wd_1266 : Cond.methodLink "java/lang/IndexOutOfBoundsException" 7 ⟨"java/lang/RuntimeException", "<init>", "(Ljava/lang/String;)V"⟩ ∈ GT := gt_6 (List.mem_of_getElem? (i := 66) rfl) rfl
theorem wd_1267 : Cond.lays "java/lang/IndexOutOfBoundsException" "java/lang/Throwable" "depth" "I" ∈ GT := gt_6 (List.mem_of_getElem? (i := 67) rfl) rfl
theorem wd_1270 : Cond.methodLink "CarHouse" 124 ⟨"CarHouse$Frames", "identifierOf", "(I)I"⟩ ∈ GT := gt_6 (List.mem_of_getElem? (i := 70) rfl) rfl
theorem wd_1271 : Cond.instanceMethod ⟨"CarHouse$Frames", "identifierOf", "(I)I"⟩ ∈ GT := gt_6 (List.mem_of_getElem? (i := 71) rfl) rfl
theorem wd_1272 : Cond.selects "CarHouse$Frames" ⟨"CarHouse$Frames", "identifierOf", "(I)I"⟩ ⟨"CarHouse$Frames", "identifierOf", "(I)I"⟩ ∈ GT := gt_6 (List.mem_of_getElem? (i := 72) rfl) rfl
theorem wd_1273 : Cond.code ⟨"CarHouse$Frames", "identifierOf", "(I)I"⟩ prog_8_method_20_code 2 (some .int) ∈ GT := gt_6 (List.mem_of_getElem? (i := 73) rfl) rfl
theorem wd_1274 : Cond.methodLink "CarHouseLaw" 121 ⟨"CarHouseLaw", "signal", "(LCarHouse;IZ[J)I"⟩ ∈ GT := gt_6 (List.mem_of_getElem? (i := 74) rfl) rfl
theorem wd_1275 : Cond.static ⟨"CarHouseLaw", "signal", "(LCarHouse;IZ[J)I"⟩ ∈ GT := gt_6 (List.mem_of_getElem? (i := 75) rfl) rfl
theorem wd_1277 : Cond.methodLink "CarHouseLaw" 34 ⟨"CarHouse", "signal", "(IZ)I"⟩ ∈ GT := gt_6 (List.mem_of_getElem? (i := 77) rfl) rfl
theorem wd_1278 : Cond.instanceMethod ⟨"CarHouse", "signal", "(IZ)I"⟩ ∈ GT := gt_6 (List.mem_of_getElem? (i := 78) rfl) rfl
theorem wd_1279 : Cond.selects "CarHouse" ⟨"CarHouse", "signal", "(IZ)I"⟩ ⟨"CarHouse", "signal", "(IZ)I"⟩ ∈ GT := gt_6 (List.mem_of_getElem? (i := 79) rfl) rfl
theorem wd_1280 : Cond.code ⟨"CarHouse", "signal", "(IZ)I"⟩ prog_1_method_8_code 3 (some .int) ∈ GT := gt_6 (List.mem_of_getElem? (i := 80) rfl) rfl
theorem wd_1282 : Cond.methodLink "CarHouseLaw" 125 ⟨"CarHouseLaw", "run", "(LCarHouse;I[J)I"⟩ ∈ GT := gt_6 (List.mem_of_getElem? (i := 82) rfl) rfl
theorem wd_1283 : Cond.static ⟨"CarHouseLaw", "run", "(LCarHouse;I[J)I"⟩ ∈ GT := gt_6 (List.mem_of_getElem? (i := 83) rfl) rfl
theorem wd_1285 : Cond.methodLink "CarHouseLaw" 38 ⟨"CarHouse", "run", "(I)I"⟩ ∈ GT := gt_6 (List.mem_of_getElem? (i := 85) rfl) rfl
theorem wd_1286 : Cond.instanceMethod ⟨"CarHouse", "run", "(I)I"⟩ ∈ GT := gt_6 (List.mem_of_getElem? (i := 86) rfl) rfl
theorem wd_1287 : Cond.selects "CarHouse" ⟨"CarHouse", "run", "(I)I"⟩ ⟨"CarHouse", "run", "(I)I"⟩ ∈ GT := gt_6 (List.mem_of_getElem? (i := 87) rfl) rfl
theorem wd_1288 : Cond.code ⟨"CarHouse", "run", "(I)I"⟩ prog_1_method_9_code 4 (some .int) ∈ GT := gt_6 (List.mem_of_getElem? (i := 88) rfl) rfl
theorem wd_1291 : Cond.methodLink "CarHouse" 152 ⟨"CarHouse$Car", "passMicrosecond", "()V"⟩ ∈ GT := gt_6 (List.mem_of_getElem? (i := 91) rfl) rfl
theorem wd_1292 : Cond.instanceMethod ⟨"CarHouse$Car", "passMicrosecond", "()V"⟩ ∈ GT := gt_6 (List.mem_of_getElem? (i := 92) rfl) rfl
theorem wd_1293 : Cond.selects "CarHouse$Car" ⟨"CarHouse$Car", "passMicrosecond", "()V"⟩ ⟨"CarHouse$Car", "passMicrosecond", "()V"⟩ ∈ GT := gt_6 (List.mem_of_getElem? (i := 93) rfl) rfl
theorem wd_1294 : Cond.code ⟨"CarHouse$Car", "passMicrosecond", "()V"⟩ prog_3_method_6_code 2 none ∈ GT := gt_6 (List.mem_of_getElem? (i := 94) rfl) rfl
theorem wd_1295 : Cond.methodLink "CarHouse$Car" 140 ⟨"CarHouse$Car", "sendFrames", "(I)V"⟩ ∈ GT := gt_6 (List.mem_of_getElem? (i := 95) rfl) rfl
theorem wd_1297 : Cond.instanceMethod ⟨"CarHouse$Car", "sendFrames", "(I)V"⟩ ∈ GT := gt_6 (List.mem_of_getElem? (i := 97) rfl) rfl
theorem wd_1298 : Cond.code ⟨"CarHouse$Car", "sendFrames", "(I)V"⟩ prog_3_method_7_code 3 none ∈ GT := gt_6 (List.mem_of_getElem? (i := 98) rfl) rfl
theorem wd_1299 : Cond.methodLink "CarHouse$Car" 168 ⟨"CarHouse$Frames", "takeTurn", "(II)Z"⟩ ∈ GT := gt_6 (List.mem_of_getElem? (i := 99) rfl) rfl
theorem wd_1300 : Cond.instanceMethod ⟨"CarHouse$Frames", "takeTurn", "(II)Z"⟩ ∈ GT := gt_6 (List.mem_of_getElem? (i := 100) rfl) rfl
theorem wd_1301 : Cond.selects "CarHouse$Frames" ⟨"CarHouse$Frames", "takeTurn", "(II)Z"⟩ ⟨"CarHouse$Frames", "takeTurn", "(II)Z"⟩ ∈ GT := gt_6 (List.mem_of_getElem? (i := 101) rfl) rfl
theorem wd_1302 : Cond.code ⟨"CarHouse$Frames", "takeTurn", "(II)Z"⟩ prog_8_method_23_code 3 (some .boolean) ∈ GT := gt_6 (List.mem_of_getElem? (i := 102) rfl) rfl
theorem wd_1303 : Cond.methodLink "CarHouse$Car" 172 ⟨"CarHouse$Car", "sendFrame", "(I)V"⟩ ∈ GT := gt_6 (List.mem_of_getElem? (i := 103) rfl) rfl
theorem wd_1305 : Cond.instanceMethod ⟨"CarHouse$Car", "sendFrame", "(I)V"⟩ ∈ GT := gt_6 (List.mem_of_getElem? (i := 105) rfl) rfl
theorem wd_1306 : Cond.code ⟨"CarHouse$Car", "sendFrame", "(I)V"⟩ prog_3_method_8_code 2 none ∈ GT := gt_6 (List.mem_of_getElem? (i := 106) rfl) rfl
theorem wd_1307 : Cond.methodLink "CarHouse$Car" 178 ⟨"CarHouse$Frames", "fill", "(I[LCarHouse$Chart;)V"⟩ ∈ GT := gt_6 (List.mem_of_getElem? (i := 107) rfl) rfl
theorem wd_1308 : Cond.instanceMethod ⟨"CarHouse$Frames", "fill", "(I[LCarHouse$Chart;)V"⟩ ∈ GT := gt_6 (List.mem_of_getElem? (i := 108) rfl) rfl
theorem wd_1309 : Cond.selects "CarHouse$Frames" ⟨"CarHouse$Frames", "fill", "(I[LCarHouse$Chart;)V"⟩ ⟨"CarHouse$Frames", "fill", "(I[LCarHouse$Chart;)V"⟩ ∈ GT := gt_6 (List.mem_of_getElem? (i := 109) rfl) rfl
theorem wd_1310 : Cond.code ⟨"CarHouse$Frames", "fill", "(I[LCarHouse$Chart;)V"⟩ prog_8_method_28_code 7 none ∈ GT := gt_6 (List.mem_of_getElem? (i := 110) rfl) rfl
theorem wd_1311 : Cond.methodLink "CarHouse$Frames" 128 ⟨"CarHouse$Frames", "cutTo", "(IJ)J"⟩ ∈ GT := gt_6 (List.mem_of_getElem? (i := 111) rfl) rfl
theorem wd_1313 : Cond.instanceMethod ⟨"CarHouse$Frames", "cutTo", "(IJ)J"⟩ ∈ GT := gt_6 (List.mem_of_getElem? (i := 113) rfl) rfl
theorem wd_1314 : Cond.code ⟨"CarHouse$Frames", "cutTo", "(IJ)J"⟩ prog_8_method_27_code 4 (some .long) ∈ GT := gt_6 (List.mem_of_getElem? (i := 114) rfl) rfl
theorem wd_1315 : Cond.methodLink "CarHouse$Frames" 132 ⟨"CarHouse$Frames", "placeOf", "(II)I"⟩ ∈ GT := gt_6 (List.mem_of_getElem? (i := 115) rfl) rfl
theorem wd_1317 : Cond.instanceMethod ⟨"CarHouse$Frames", "placeOf", "(II)I"⟩ ∈ GT := gt_6 (List.mem_of_getElem? (i := 117) rfl) rfl
theorem wd_1318 : Cond.code ⟨"CarHouse$Frames", "placeOf", "(II)I"⟩ prog_8_method_26_code 3 (some .int) ∈ GT := gt_6 (List.mem_of_getElem? (i := 118) rfl) rfl
theorem wd_1319 : Cond.methodLink "CarHouse$Car" 182 ⟨"CarHouse$Frames", "seal", "(ILCarHouse$Codes;)V"⟩ ∈ GT := gt_6 (List.mem_of_getElem? (i := 119) rfl) rfl
theorem wd_1320 : Cond.instanceMethod ⟨"CarHouse$Frames", "seal", "(ILCarHouse$Codes;)V"⟩ ∈ GT := gt_6 (List.mem_of_getElem? (i := 120) rfl) rfl
theorem wd_1321 : Cond.selects "CarHouse$Frames" ⟨"CarHouse$Frames", "seal", "(ILCarHouse$Codes;)V"⟩ ⟨"CarHouse$Frames", "seal", "(ILCarHouse$Codes;)V"⟩ ∈ GT := gt_6 (List.mem_of_getElem? (i := 121) rfl) rfl
theorem wd_1322 : Cond.code ⟨"CarHouse$Frames", "seal", "(ILCarHouse$Codes;)V"⟩ prog_8_method_30_code 4 none ∈ GT := gt_6 (List.mem_of_getElem? (i := 122) rfl) rfl
theorem wd_1323 : Cond.methodLink "CarHouse$Frames" 135 ⟨"CarHouse$Frames", "makeCode", "(II[ILCarHouse$Codes;)V"⟩ ∈ GT := gt_6 (List.mem_of_getElem? (i := 123) rfl) rfl
theorem wd_1325 : Cond.instanceMethod ⟨"CarHouse$Frames", "makeCode", "(II[ILCarHouse$Codes;)V"⟩ ∈ GT := gt_6 (List.mem_of_getElem? (i := 125) rfl) rfl
theorem wd_1326 : Cond.code ⟨"CarHouse$Frames", "makeCode", "(II[ILCarHouse$Codes;)V"⟩ prog_8_method_32_code 6 none ∈ GT := gt_6 (List.mem_of_getElem? (i := 126) rfl) rfl
theorem wd_1327 : Cond.methodLink "CarHouse$Frames" 148 ⟨"CarHouse$Codes", "make", "(I[II)V"⟩ ∈ GT := gt_6 (List.mem_of_getElem? (i := 127) rfl) rfl
theorem wd_1328 : Cond.instanceMethod ⟨"CarHouse$Codes", "make", "(I[II)V"⟩ ∈ GT := gt_6 (List.mem_of_getElem? (i := 128) rfl) rfl
theorem wd_1329 : Cond.selects "CarHouse$Codes" ⟨"CarHouse$Codes", "make", "(I[II)V"⟩ ⟨"CarHouse$Codes", "make", "(I[II)V"⟩ ∈ GT := gt_6 (List.mem_of_getElem? (i := 129) rfl) rfl
theorem wd_1330 : Cond.code ⟨"CarHouse$Codes", "make", "(I[II)V"⟩ prog_5_method_5_code 5 none ∈ GT := gt_6 (List.mem_of_getElem? (i := 130) rfl) rfl
theorem wd_1331 : Cond.methodLink "CarHouse$Car" 186 ⟨"CarHouse$Frames", "identifierOf", "(I)I"⟩ ∈ GT := gt_6 (List.mem_of_getElem? (i := 131) rfl) rfl
theorem wd_1332 : Cond.methodLink "CarHouse$Car" 193 ⟨"CarHouse$Bus", "send", "(II[I)Z"⟩ ∈ GT := gt_6 (List.mem_of_getElem? (i := 132) rfl) rfl
theorem wd_1333 : Cond.instanceMethod ⟨"CarHouse$Bus", "send", "(II[I)Z"⟩ ∈ GT := gt_6 (List.mem_of_getElem? (i := 133) rfl) rfl
theorem wd_1334 : Cond.selects "CarHouse$Bus" ⟨"CarHouse$Bus", "send", "(II[I)Z"⟩ ⟨"CarHouse$Bus", "send", "(II[I)Z"⟩ ∈ GT := gt_6 (List.mem_of_getElem? (i := 134) rfl) rfl
theorem wd_1335 : Cond.code ⟨"CarHouse$Bus", "send", "(II[I)Z"⟩ prog_2_method_4_code 5 (some .boolean) ∈ GT := gt_6 (List.mem_of_getElem? (i := 135) rfl) rfl
theorem wd_1336 : Cond.methodLink "CarHouse$Car" 175 ⟨"CarHouse$Frames", "findSoonest", "()V"⟩ ∈ GT := gt_6 (List.mem_of_getElem? (i := 136) rfl) rfl
theorem wd_1337 : Cond.methodLink "CarHouse$Car" 143 ⟨"CarHouse$Bus", "passBit", "(I)V"⟩ ∈ GT := gt_6 (List.mem_of_getElem? (i := 137) rfl) rfl
theorem wd_1338 : Cond.instanceMethod ⟨"CarHouse$Bus", "passBit", "(I)V"⟩ ∈ GT := gt_6 (List.mem_of_getElem? (i := 138) rfl) rfl
theorem wd_1339 : Cond.selects "CarHouse$Bus" ⟨"CarHouse$Bus", "passBit", "(I)V"⟩ ⟨"CarHouse$Bus", "passBit", "(I)V"⟩ ∈ GT := gt_6 (List.mem_of_getElem? (i := 139) rfl) rfl
theorem wd_1340 : Cond.code ⟨"CarHouse$Bus", "passBit", "(I)V"⟩ prog_2_method_5_code 4 none ∈ GT := gt_6 (List.mem_of_getElem? (i := 140) rfl) rfl
theorem wd_1341 : Cond.methodLink "CarHouse$Bus" 69 ⟨"CarHouse$Bus", "putOf", "(I)I"⟩ ∈ GT := gt_6 (List.mem_of_getElem? (i := 141) rfl) rfl
theorem wd_1343 : Cond.instanceMethod ⟨"CarHouse$Bus", "putOf", "(I)I"⟩ ∈ GT := gt_6 (List.mem_of_getElem? (i := 143) rfl) rfl
theorem wd_1344 : Cond.code ⟨"CarHouse$Bus", "putOf", "(I)I"⟩ prog_2_method_6_code 2 (some .int) ∈ GT := gt_6 (List.mem_of_getElem? (i := 144) rfl) rfl
theorem wd_1345 : Cond.methodLink "CarHouse$Bus" 77 ⟨"CarHouse$Bus", "beginSending", "(I)V"⟩ ∈ GT := gt_6 (List.mem_of_getElem? (i := 145) rfl) rfl
theorem wd_1347 : Cond.instanceMethod ⟨"CarHouse$Bus", "beginSending", "(I)V"⟩ ∈ GT := gt_6 (List.mem_of_getElem? (i := 147) rfl) rfl
theorem wd_1348 : Cond.code ⟨"CarHouse$Bus", "beginSending", "(I)V"⟩ prog_2_method_18_code 4 none ∈ GT := gt_6 (List.mem_of_getElem? (i := 148) rfl) rfl
theorem wd_1349 : Cond.methodLink "CarHouse$Bus" 122 ⟨"CarHouse$Bus", "isBefore", "(II)Z"⟩ ∈ GT := gt_6 (List.mem_of_getElem? (i := 149) rfl) rfl
theorem wd_1351 : Cond.instanceMethod ⟨"CarHouse$Bus", "isBefore", "(II)Z"⟩ ∈ GT := gt_6 (List.mem_of_getElem? (i := 151) rfl) rfl
theorem wd_1352 : Cond.code ⟨"CarHouse$Bus", "isBefore", "(II)Z"⟩ prog_2_method_19_code 4 (some .boolean) ∈ GT := gt_6 (List.mem_of_getElem? (i := 152) rfl) rfl
theorem wd_1353 : Cond.methodLink "CarHouse$Bus" 125 ⟨"java/lang/Math", "max", "(II)I"⟩ ∈ GT := gt_6 (List.mem_of_getElem? (i := 153) rfl) rfl
theorem wd_1354 : Cond.methodLink "CarHouse$Bus" 128 ⟨"CarHouse$Bus", "layOut", "(II)V"⟩ ∈ GT := gt_6 (List.mem_of_getElem? (i := 154) rfl) rfl
theorem wd_1356 : Cond.instanceMethod ⟨"CarHouse$Bus", "layOut", "(II)V"⟩ ∈ GT := gt_6 (List.mem_of_getElem? (i := 156) rfl) rfl
theorem wd_1357 : Cond.code ⟨"CarHouse$Bus", "layOut", "(II)V"⟩ prog_2_method_20_code 9 none ∈ GT := gt_6 (List.mem_of_getElem? (i := 157) rfl) rfl
theorem wd_1358 : Cond.methodLink "CarHouse$Bus" 132 ⟨"CarHouse$Bus", "plainBit", "(II)I"⟩ ∈ GT := gt_6 (List.mem_of_getElem? (i := 158) rfl) rfl
theorem wd_1360 : Cond.instanceMethod ⟨"CarHouse$Bus", "plainBit", "(II)I"⟩ ∈ GT := gt_6 (List.mem_of_getElem? (i := 160) rfl) rfl
theorem wd_1361 : Cond.code ⟨"CarHouse$Bus", "plainBit", "(II)I"⟩ prog_2_method_21_code 3 (some .int) ∈ GT := gt_6 (List.mem_of_getElem? (i := 161) rfl) rfl
theorem wd_1362 : Cond.methodLink "CarHouse$Bus" 135 ⟨"CarHouse$Ear", "nextCheck", "(IIII)I"⟩ ∈ GT := gt_6 (List.mem_of_getElem? (i := 162) rfl) rfl
theorem wd_1363 : Cond.static ⟨"CarHouse$Ear", "nextCheck", "(IIII)I"⟩ ∈ GT := gt_6 (List.mem_of_getElem? (i := 163) rfl) rfl
theorem wd_1364 : Cond.code ⟨"CarHouse$Ear", "nextCheck", "(IIII)I"⟩ prog_7_method_15_code 5 (some .int) ∈ GT := gt_6 (List.mem_of_getElem? (i := 164) rfl) rfl
theorem wd_1365 : Cond.methodLink "CarHouse$Bus" 81 ⟨"CarHouse$Ear", "putBit", "()I"⟩ ∈ GT := gt_6 (List.mem_of_getElem? (i := 165) rfl) rfl
theorem wd_1366 : Cond.instanceMethod ⟨"CarHouse$Ear", "putBit", "()I"⟩ ∈ GT := gt_6 (List.mem_of_getElem? (i := 166) rfl) rfl
theorem wd_1367 : Cond.selects "CarHouse$Ear" ⟨"CarHouse$Ear", "putBit", "()I"⟩ ⟨"CarHouse$Ear", "putBit", "()I"⟩ ∈ GT := gt_6 (List.mem_of_getElem? (i := 167) rfl) rfl
theorem wd_1368 : Cond.code ⟨"CarHouse$Ear", "putBit", "()I"⟩ prog_7_method_4_code 1 (some .int) ∈ GT := gt_6 (List.mem_of_getElem? (i := 168) rfl) rfl
theorem wd_1369 : Cond.methodLink "CarHouse$Ear" 80 ⟨"CarHouse$Ear", "isCheckRight", "()Z"⟩ ∈ GT := gt_6 (List.mem_of_getElem? (i := 169) rfl) rfl
theorem wd_1371 : Cond.instanceMethod ⟨"CarHouse$Ear", "isCheckRight", "()Z"⟩ ∈ GT := gt_6 (List.mem_of_getElem? (i := 171) rfl) rfl
theorem wd_1372 : Cond.code ⟨"CarHouse$Ear", "isCheckRight", "()Z"⟩ prog_7_method_5_code 1 (some .boolean) ∈ GT := gt_6 (List.mem_of_getElem? (i := 172) rfl) rfl
theorem wd_1373 : Cond.methodLink "CarHouse$Bus" 73 ⟨"CarHouse$Bus", "see", "(III)V"⟩ ∈ GT := gt_6 (List.mem_of_getElem? (i := 173) rfl) rfl
theorem wd_1375 : Cond.instanceMethod ⟨"CarHouse$Bus", "see", "(III)V"⟩ ∈ GT := gt_6 (List.mem_of_getElem? (i := 175) rfl) rfl
theorem wd_1376 : Cond.code ⟨"CarHouse$Bus", "see", "(III)V"⟩ prog_2_method_7_code 4 none ∈ GT := gt_6 (List.mem_of_getElem? (i := 176) rfl) rfl
theorem wd_1377 : Cond.methodLink "CarHouse$Bus" 85 ⟨"CarHouse$Bus", "beginListening", "(I)V"⟩ ∈ GT := gt_6 (List.mem_of_getElem? (i := 177) rfl) rfl
theorem wd_1379 : Cond.instanceMethod ⟨"CarHouse$Bus", "beginListening", "(I)V"⟩ ∈ GT := gt_6 (List.mem_of_getElem? (i := 179) rfl) rfl
theorem wd_1380 : Cond.code ⟨"CarHouse$Bus", "beginListening", "(I)V"⟩ prog_2_method_17_code 2 none ∈ GT := gt_6 (List.mem_of_getElem? (i := 180) rfl) rfl
theorem wd_1381 : Cond.methodLink "CarHouse$Bus" 119 ⟨"CarHouse$Ear", "begin", "()V"⟩ ∈ GT := gt_6 (List.mem_of_getElem? (i := 181) rfl) rfl
theorem wd_1382 : Cond.instanceMethod ⟨"CarHouse$Ear", "begin", "()V"⟩ ∈ GT := gt_6 (List.mem_of_getElem? (i := 182) rfl) rfl
theorem wd_1383 : Cond.selects "CarHouse$Ear" ⟨"CarHouse$Ear", "begin", "()V"⟩ ⟨"CarHouse$Ear", "begin", "()V"⟩ ∈ GT := gt_6 (List.mem_of_getElem? (i := 183) rfl) rfl
theorem wd_1384 : Cond.code ⟨"CarHouse$Ear", "begin", "()V"⟩ prog_7_method_2_code 1 none ∈ GT := gt_6 (List.mem_of_getElem? (i := 184) rfl) rfl
theorem wd_1385 : Cond.methodLink "CarHouse$Ear" 32 ⟨"CarHouse$Ear", "nextCheck", "(IIII)I"⟩ ∈ GT := gt_6 (List.mem_of_getElem? (i := 185) rfl) rfl
theorem wd_1386 : Cond.constant "CarHouse$Ear" 39 65536 ∈ GT := gt_6 (List.mem_of_getElem? (i := 186) rfl) rfl
theorem wd_1387 : Cond.constant "CarHouse$Ear" 40 92251 ∈ GT := gt_6 (List.mem_of_getElem? (i := 187) rfl) rfl
theorem wd_1388 : Cond.constant "CarHouse$Ear" 44 1048576 ∈ GT := gt_6 (List.mem_of_getElem? (i := 188) rfl) rfl
theorem wd_1389 : Cond.constant "CarHouse$Ear" 45 1058969 ∈ GT := gt_6 (List.mem_of_getElem? (i := 189) rfl) rfl
theorem wd_1390 : Cond.constant "CarHouse$Ear" 64 100000 ∈ GT := gt_6 (List.mem_of_getElem? (i := 190) rfl) rfl
theorem wd_1391 : Cond.methodLink "CarHouse$Bus" 88 ⟨"CarHouse$Bus", "isLosing", "(II)Z"⟩ ∈ GT := gt_6 (List.mem_of_getElem? (i := 191) rfl) rfl
theorem wd_1393 : Cond.instanceMethod ⟨"CarHouse$Bus", "isLosing", "(II)Z"⟩ ∈ GT := gt_6 (List.mem_of_getElem? (i := 193) rfl) rfl
theorem wd_1394 : Cond.code ⟨"CarHouse$Bus", "isLosing", "(II)Z"⟩ prog_2_method_8_code 3 (some .boolean) ∈ GT := gt_6 (List.mem_of_getElem? (i := 194) rfl) rfl
theorem wd_1395 : Cond.methodLink "CarHouse$Bus" 92 ⟨"CarHouse$Bus", "loseArbitration", "(I)V"⟩ ∈ GT := gt_6 (List.mem_of_getElem? (i := 195) rfl) rfl
theorem wd_1397 : Cond.instanceMethod ⟨"CarHouse$Bus", "loseArbitration", "(I)V"⟩ ∈ GT := gt_6 (List.mem_of_getElem? (i := 197) rfl) rfl
theorem wd_1398 : Cond.code ⟨"CarHouse$Bus", "loseArbitration", "(I)V"⟩ prog_2_method_11_code 3 none ∈ GT := gt_6 (List.mem_of_getElem? (i := 198) rfl) rfl
theorem wd_1399 : Cond.methodLink "CarHouse$Bus" 116 ⟨"CarHouse$Ear", "hear", "(I)I"⟩ ∈ GT := gt_6 (List.mem_of_getElem? (i := 199) rfl) rfl
theorem wd_1400 : Cond.instanceMethod ⟨"CarHouse$Ear", "hear", "(I)I"⟩ ∈ GT := gt_6 (List.mem_of_getElem? (i := 200) rfl) rfl
theorem wd_1401 : Cond.selects "CarHouse$Ear" ⟨"CarHouse$Ear", "hear", "(I)I"⟩ ⟨"CarHouse$Ear", "hear", "(I)I"⟩ ∈ GT := gt_6 (List.mem_of_getElem? (i := 201) rfl) rfl
theorem wd_1402 : Cond.code ⟨"CarHouse$Ear", "hear", "(I)I"⟩ prog_7_method_6_code 3 (some .int) ∈ GT := gt_6 (List.mem_of_getElem? (i := 202) rfl) rfl
theorem wd_1403 : Cond.methodLink "CarHouse$Ear" 84 ⟨"CarHouse$Ear", "hearFixed", "(I)I"⟩ ∈ GT := gt_6 (List.mem_of_getElem? (i := 203) rfl) rfl
theorem wd_1405 : Cond.instanceMethod ⟨"CarHouse$Ear", "hearFixed", "(I)I"⟩ ∈ GT := gt_6 (List.mem_of_getElem? (i := 205) rfl) rfl
theorem wd_1406 : Cond.code ⟨"CarHouse$Ear", "hearFixed", "(I)I"⟩ prog_7_method_12_code 5 (some .int) ∈ GT := gt_6 (List.mem_of_getElem? (i := 206) rfl) rfl
theorem wd_1407 : Cond.methodLink "CarHouse$Ear" 117 ⟨"CarHouse$Ear", "countOfStuffs", "()I"⟩ ∈ GT := gt_6 (List.mem_of_getElem? (i := 207) rfl) rfl
theorem wd_1409 : Cond.instanceMethod ⟨"CarHouse$Ear", "countOfStuffs", "()I"⟩ ∈ GT := gt_6 (List.mem_of_getElem? (i := 209) rfl) rfl
theorem wd_1410 : Cond.code ⟨"CarHouse$Ear", "countOfStuffs", "()I"⟩ prog_7_method_13_code 3 (some .int) ∈ GT := gt_6 (List.mem_of_getElem? (i := 210) rfl) rfl
theorem wd_1411 : Cond.methodLink "CarHouse$Ear" 120 ⟨"java/lang/Integer", "bitCount", "(I)I"⟩ ∈ GT := gt_6 (List.mem_of_getElem? (i := 211) rfl) rfl
theorem wd_1412 : Cond.static ⟨"java/lang/Integer", "bitCount", "(I)I"⟩ ∈ GT := gt_6 (List.mem_of_getElem? (i := 212) rfl) rfl
theorem wd_1413 : Cond.code ⟨"java/lang/Integer", "bitCount", "(I)I"⟩ prog_26_method_49_code 1 (some .int) ∈ GT := gt_6 (List.mem_of_getElem? (i := 213) rfl) rfl
theorem wd_1414 : Cond.constant "java/lang/Integer" 265 1431655765 ∈ GT := gt_6 (List.mem_of_getElem? (i := 214) rfl) rfl
theorem wd_1415 : Cond.constant "java/lang/Integer" 266 858993459 ∈ GT := gt_6 (List.mem_of_getElem? (i := 215) rfl) rfl
theorem wd_1416 : Cond.constant "java/lang/Integer" 267 252645135 ∈ GT := gt_6 (List.mem_of_getElem? (i := 216) rfl) rfl
theorem wd_1417 : Cond.methodLink "CarHouse$Ear" 88 ⟨"CarHouse$Ear", "hearTail", "(I)I"⟩ ∈ GT := gt_6 (List.mem_of_getElem? (i := 217) rfl) rfl
theorem wd_1419 : Cond.instanceMethod ⟨"CarHouse$Ear", "hearTail", "(I)I"⟩ ∈ GT := gt_6 (List.mem_of_getElem? (i := 219) rfl) rfl
theorem wd_1420 : Cond.code ⟨"CarHouse$Ear", "hearTail", "(I)I"⟩ prog_7_method_14_code 3 (some .int) ∈ GT := gt_6 (List.mem_of_getElem? (i := 220) rfl) rfl
theorem wd_1421 : Cond.methodLink "CarHouse$Ear" 91 ⟨"CarHouse$Ear", "hearStuffBit", "(I)I"⟩ ∈ GT := gt_6 (List.mem_of_getElem? (i := 221) rfl) rfl
theorem wd_1423 : Cond.instanceMethod ⟨"CarHouse$Ear", "hearStuffBit", "(I)I"⟩ ∈ GT := gt_6 (List.mem_of_getElem? (i := 223) rfl) rfl
theorem wd_1424 : Cond.code ⟨"CarHouse$Ear", "hearStuffBit", "(I)I"⟩ prog_7_method_8_code 2 (some .int) ∈ GT := gt_6 (List.mem_of_getElem? (i := 224) rfl) rfl
theorem wd_1425 : Cond.methodLink "CarHouse$Ear" 98 ⟨"CarHouse$Ear", "stuffedEnd", "()I"⟩ ∈ GT := gt_6 (List.mem_of_getElem? (i := 225) rfl) rfl
theorem wd_1427 : Cond.instanceMethod ⟨"CarHouse$Ear", "stuffedEnd", "()I"⟩ ∈ GT := gt_6 (List.mem_of_getElem? (i := 227) rfl) rfl
theorem wd_1428 : Cond.code ⟨"CarHouse$Ear", "stuffedEnd", "()I"⟩ prog_7_method_7_code 1 (some .int) ∈ GT := gt_6 (List.mem_of_getElem? (i := 228) rfl) rfl
theorem wd_1429 : Cond.methodLink "CarHouse$Ear" 94 ⟨"CarHouse$Ear", "hearPlain", "(II)V"⟩ ∈ GT := gt_6 (List.mem_of_getElem? (i := 229) rfl) rfl
theorem wd_1431 : Cond.instanceMethod ⟨"CarHouse$Ear", "hearPlain", "(II)V"⟩ ∈ GT := gt_6 (List.mem_of_getElem? (i := 231) rfl) rfl
theorem wd_1432 : Cond.code ⟨"CarHouse$Ear", "hearPlain", "(II)V"⟩ prog_7_method_9_code 4 none ∈ GT := gt_6 (List.mem_of_getElem? (i := 232) rfl) rfl
theorem wd_1433 : Cond.methodLink "CarHouse$Ear" 102 ⟨"CarHouse$Ear", "hearHead", "(II)V"⟩ ∈ GT := gt_6 (List.mem_of_getElem? (i := 233) rfl) rfl
theorem wd_1435 : Cond.instanceMethod ⟨"CarHouse$Ear", "hearHead", "(II)V"⟩ ∈ GT := gt_6 (List.mem_of_getElem? (i := 235) rfl) rfl
theorem wd_1436 : Cond.code ⟨"CarHouse$Ear", "hearHead", "(II)V"⟩ prog_7_method_10_code 3 none ∈ GT := gt_6 (List.mem_of_getElem? (i := 236) rfl) rfl
theorem wd_1437 : Cond.methodLink "CarHouse$Ear" 105 ⟨"CarHouse$Ear", "findEnds", "()V"⟩ ∈ GT := gt_6 (List.mem_of_getElem? (i := 237) rfl) rfl
theorem wd_1439 : Cond.instanceMethod ⟨"CarHouse$Ear", "findEnds", "()V"⟩ ∈ GT := gt_6 (List.mem_of_getElem? (i := 239) rfl) rfl
theorem wd_1440 : Cond.code ⟨"CarHouse$Ear", "findEnds", "()V"⟩ prog_7_method_11_code 1 none ∈ GT := gt_7 (List.mem_of_getElem? (i := 0) rfl) rfl
theorem wd_1441 : Cond.fieldLink "CarHouse$Ear" 108 "CarHouse$Ear" "FLEXIBLE_OCTETS" "[I" ∈ GT := gt_7 (List.mem_of_getElem? (i := 1) rfl) rfl
theorem wd_1443 : Cond.methodLink "CarHouse$Ear" 111 ⟨"java/lang/Math", "min", "(II)I"⟩ ∈ GT := gt_7 (List.mem_of_getElem? (i := 3) rfl) rfl
theorem wd_1444 : Cond.methodLink "CarHouse$Bus" 95 ⟨"CarHouse$Bus", "seeSending", "(III)V"⟩ ∈ GT := gt_7 (List.mem_of_getElem? (i := 4) rfl) rfl
theorem wd_1446 : Cond.instanceMethod ⟨"CarHouse$Bus", "seeSending", "(III)V"⟩ ∈ GT := gt_7 (List.mem_of_getElem? (i := 6) rfl) rfl
theorem wd_1447 : Cond.code ⟨"CarHouse$Bus", "seeSending", "(III)V"⟩ prog_2_method_9_code 5 none ∈ GT := gt_7 (List.mem_of_getElem? (i := 7) rfl) rfl
theorem wd_1448 : Cond.methodLink "CarHouse$Bus" 110 ⟨"CarHouse$Bus", "tellFault", "(III)V"⟩ ∈ GT := gt_7 (List.mem_of_getElem? (i := 8) rfl) rfl
theorem wd_1450 : Cond.instanceMethod ⟨"CarHouse$Bus", "tellFault", "(III)V"⟩ ∈ GT := gt_7 (List.mem_of_getElem? (i := 10) rfl) rfl
theorem wd_1451 : Cond.code ⟨"CarHouse$Bus", "tellFault", "(III)V"⟩ prog_2_method_16_code 4 none ∈ GT := gt_7 (List.mem_of_getElem? (i := 11) rfl) rfl
theorem wd_1452 : Cond.methodLink "CarHouse$Bus" 101 ⟨"CarHouse$Bus", "become", "(III)V"⟩ ∈ GT := gt_7 (List.mem_of_getElem? (i := 12) rfl) rfl
theorem wd_1454 : Cond.instanceMethod ⟨"CarHouse$Bus", "become", "(III)V"⟩ ∈ GT := gt_7 (List.mem_of_getElem? (i := 14) rfl) rfl
theorem wd_1455 : Cond.code ⟨"CarHouse$Bus", "become", "(III)V"⟩ prog_2_method_15_code 4 none ∈ GT := gt_7 (List.mem_of_getElem? (i := 15) rfl) rfl
theorem wd_1456 : Cond.methodLink "CarHouse$Bus" 113 ⟨"CarHouse$Bus", "endSending", "(I)V"⟩ ∈ GT := gt_7 (List.mem_of_getElem? (i := 16) rfl) rfl
theorem wd_1458 : Cond.instanceMethod ⟨"CarHouse$Bus", "endSending", "(I)V"⟩ ∈ GT := gt_7 (List.mem_of_getElem? (i := 18) rfl) rfl
theorem wd_1459 : Cond.code ⟨"CarHouse$Bus", "endSending", "(I)V"⟩ prog_2_method_10_code 2 none ∈ GT := gt_7 (List.mem_of_getElem? (i := 19) rfl) rfl
theorem wd_1460 : Cond.methodLink "CarHouse$Bus" 98 ⟨"CarHouse$Bus", "seeListening", "(III)V"⟩ ∈ GT := gt_7 (List.mem_of_getElem? (i := 20) rfl) rfl
theorem wd_1462 : Cond.instanceMethod ⟨"CarHouse$Bus", "seeListening", "(III)V"⟩ ∈ GT := gt_7 (List.mem_of_getElem? (i := 22) rfl) rfl
theorem wd_1463 : Cond.code ⟨"CarHouse$Bus", "seeListening", "(III)V"⟩ prog_2_method_12_code 5 none ∈ GT := gt_7 (List.mem_of_getElem? (i := 23) rfl) rfl
theorem wd_1464 : Cond.methodLink "CarHouse$Bus" 104 ⟨"CarHouse$Bus", "seeClearing", "(III)V"⟩ ∈ GT := gt_7 (List.mem_of_getElem? (i := 24) rfl) rfl
theorem wd_1466 : Cond.instanceMethod ⟨"CarHouse$Bus", "seeClearing", "(III)V"⟩ ∈ GT := gt_7 (List.mem_of_getElem? (i := 26) rfl) rfl
theorem wd_1467 : Cond.code ⟨"CarHouse$Bus", "seeClearing", "(III)V"⟩ prog_2_method_13_code 4 none ∈ GT := gt_7 (List.mem_of_getElem? (i := 27) rfl) rfl
theorem wd_1468 : Cond.methodLink "CarHouse$Bus" 107 ⟨"CarHouse$Bus", "seePausing", "(III)V"⟩ ∈ GT := gt_7 (List.mem_of_getElem? (i := 28) rfl) rfl
theorem wd_1470 : Cond.instanceMethod ⟨"CarHouse$Bus", "seePausing", "(III)V"⟩ ∈ GT := gt_7 (List.mem_of_getElem? (i := 30) rfl) rfl
theorem wd_1471 : Cond.code ⟨"CarHouse$Bus", "seePausing", "(III)V"⟩ prog_2_method_14_code 4 none ∈ GT := gt_7 (List.mem_of_getElem? (i := 31) rfl) rfl
theorem wd_1472 : Cond.methodLink "CarHouse$Car" 146 ⟨"CarHouse$Cores", "passMicrosecond", "(I)V"⟩ ∈ GT := gt_7 (List.mem_of_getElem? (i := 32) rfl) rfl
theorem wd_1473 : Cond.instanceMethod ⟨"CarHouse$Cores", "passMicrosecond", "(I)V"⟩ ∈ GT := gt_7 (List.mem_of_getElem? (i := 33) rfl) rfl
theorem wd_1474 : Cond.selects "CarHouse$Cores" ⟨"CarHouse$Cores", "passMicrosecond", "(I)V"⟩ ⟨"CarHouse$Cores", "passMicrosecond", "(I)V"⟩ ∈ GT := gt_7 (List.mem_of_getElem? (i := 34) rfl) rfl
theorem wd_1475 : Cond.code ⟨"CarHouse$Cores", "passMicrosecond", "(I)V"⟩ prog_6_method_5_code 4 none ∈ GT := gt_7 (List.mem_of_getElem? (i := 35) rfl) rfl
theorem wd_1476 : Cond.methodLink "CarHouse$Cores" 37 ⟨"CarHouse$Cores", "activateAll", "(I)V"⟩ ∈ GT := gt_7 (List.mem_of_getElem? (i := 36) rfl) rfl
theorem wd_1478 : Cond.instanceMethod ⟨"CarHouse$Cores", "activateAll", "(I)V"⟩ ∈ GT := gt_7 (List.mem_of_getElem? (i := 38) rfl) rfl
theorem wd_1479 : Cond.code ⟨"CarHouse$Cores", "activateAll", "(I)V"⟩ prog_6_method_6_code 3 none ∈ GT := gt_7 (List.mem_of_getElem? (i := 39) rfl) rfl
theorem wd_1480 : Cond.methodLink "CarHouse$Cores" 47 ⟨"CarHouse$Cores", "makeReady", "(I)V"⟩ ∈ GT := gt_7 (List.mem_of_getElem? (i := 40) rfl) rfl
theorem wd_1482 : Cond.instanceMethod ⟨"CarHouse$Cores", "makeReady", "(I)V"⟩ ∈ GT := gt_7 (List.mem_of_getElem? (i := 42) rfl) rfl
theorem wd_1483 : Cond.code ⟨"CarHouse$Cores", "makeReady", "(I)V"⟩ prog_6_method_7_code 2 none ∈ GT := gt_7 (List.mem_of_getElem? (i := 43) rfl) rfl
theorem wd_1484 : Cond.methodLink "CarHouse$Cores" 41 ⟨"CarHouse$Cores", "settle", "(I)V"⟩ ∈ GT := gt_7 (List.mem_of_getElem? (i := 44) rfl) rfl
theorem wd_1486 : Cond.instanceMethod ⟨"CarHouse$Cores", "settle", "(I)V"⟩ ∈ GT := gt_7 (List.mem_of_getElem? (i := 46) rfl) rfl
theorem wd_1487 : Cond.code ⟨"CarHouse$Cores", "settle", "(I)V"⟩ prog_6_method_8_code 4 none ∈ GT := gt_7 (List.mem_of_getElem? (i := 47) rfl) rfl
theorem wd_1488 : Cond.methodLink "CarHouse$Cores" 50 ⟨"CarHouse$Cores", "choose", "(I)V"⟩ ∈ GT := gt_7 (List.mem_of_getElem? (i := 48) rfl) rfl
theorem wd_1490 : Cond.instanceMethod ⟨"CarHouse$Cores", "choose", "(I)V"⟩ ∈ GT := gt_7 (List.mem_of_getElem? (i := 50) rfl) rfl
theorem wd_1491 : Cond.code ⟨"CarHouse$Cores", "choose", "(I)V"⟩ prog_6_method_9_code 4 none ∈ GT := gt_7 (List.mem_of_getElem? (i := 51) rfl) rfl
theorem wd_1492 : Cond.methodLink "CarHouse$Cores" 53 ⟨"CarHouse$Cores", "isBefore", "(II)Z"⟩ ∈ GT := gt_7 (List.mem_of_getElem? (i := 52) rfl) rfl
theorem wd_1494 : Cond.instanceMethod ⟨"CarHouse$Cores", "isBefore", "(II)Z"⟩ ∈ GT := gt_7 (List.mem_of_getElem? (i := 54) rfl) rfl
theorem wd_1495 : Cond.code ⟨"CarHouse$Cores", "isBefore", "(II)Z"⟩ prog_6_method_10_code 3 (some .boolean) ∈ GT := gt_7 (List.mem_of_getElem? (i := 55) rfl) rfl
theorem wd_1496 : Cond.methodLink "CarHouse$Cores" 44 ⟨"CarHouse$Cores", "use", "(I)V"⟩ ∈ GT := gt_7 (List.mem_of_getElem? (i := 56) rfl) rfl
theorem wd_1498 : Cond.instanceMethod ⟨"CarHouse$Cores", "use", "(I)V"⟩ ∈ GT := gt_7 (List.mem_of_getElem? (i := 58) rfl) rfl
theorem wd_1499 : Cond.code ⟨"CarHouse$Cores", "use", "(I)V"⟩ prog_6_method_11_code 2 none ∈ GT := gt_7 (List.mem_of_getElem? (i := 59) rfl) rfl
theorem wd_1500 : Cond.methodLink "CarHouse$Car" 152 ⟨"CarHouse$Car", "takeFrames", "()V"⟩ ∈ GT := gt_7 (List.mem_of_getElem? (i := 60) rfl) rfl
theorem wd_1502 : Cond.instanceMethod ⟨"CarHouse$Car", "takeFrames", "()V"⟩ ∈ GT := gt_7 (List.mem_of_getElem? (i := 62) rfl) rfl
theorem wd_1503 : Cond.code ⟨"CarHouse$Car", "takeFrames", "()V"⟩ prog_3_method_9_code 3 none ∈ GT := gt_7 (List.mem_of_getElem? (i := 63) rfl) rfl
theorem wd_1504 : Cond.methodLink "CarHouse$Car" 201 ⟨"CarHouse$Ear", "kind", "()I"⟩ ∈ GT := gt_7 (List.mem_of_getElem? (i := 64) rfl) rfl
theorem wd_1505 : Cond.instanceMethod ⟨"CarHouse$Ear", "kind", "()I"⟩ ∈ GT := gt_7 (List.mem_of_getElem? (i := 65) rfl) rfl
theorem wd_1506 : Cond.selects "CarHouse$Ear" ⟨"CarHouse$Ear", "kind", "()I"⟩ ⟨"CarHouse$Ear", "kind", "()I"⟩ ∈ GT := gt_7 (List.mem_of_getElem? (i := 66) rfl) rfl
theorem wd_1507 : Cond.code ⟨"CarHouse$Ear", "kind", "()I"⟩ prog_7_method_3_code 1 (some .int) ∈ GT := gt_7 (List.mem_of_getElem? (i := 67) rfl) rfl
theorem wd_1508 : Cond.methodLink "CarHouse$Car" 213 ⟨"CarHouse$Car", "takeOfTransfer", "(II)V"⟩ ∈ GT := gt_7 (List.mem_of_getElem? (i := 68) rfl) rfl
theorem wd_1510 : Cond.instanceMethod ⟨"CarHouse$Car", "takeOfTransfer", "(II)V"⟩ ∈ GT := gt_7 (List.mem_of_getElem? (i := 70) rfl) rfl
theorem wd_1511 : Cond.code ⟨"CarHouse$Car", "takeOfTransfer", "(II)V"⟩ prog_3_method_12_code 6 none ∈ GT := gt_7 (List.mem_of_getElem? (i := 71) rfl) rfl
theorem wd_1512 : Cond.methodLink "CarHouse$Car" 257 ⟨"CarHouse$Transfer", "reach", "(IZ)I"⟩ ∈ GT := gt_7 (List.mem_of_getElem? (i := 72) rfl) rfl
theorem wd_1513 : Cond.instanceMethod ⟨"CarHouse$Transfer", "reach", "(IZ)I"⟩ ∈ GT := gt_7 (List.mem_of_getElem? (i := 73) rfl) rfl
theorem wd_1514 : Cond.selects "CarHouse$Transfer" ⟨"CarHouse$Transfer", "reach", "(IZ)I"⟩ ⟨"CarHouse$Transfer", "reach", "(IZ)I"⟩ ∈ GT := gt_7 (List.mem_of_getElem? (i := 74) rfl) rfl
theorem wd_1515 : Cond.code ⟨"CarHouse$Transfer", "reach", "(IZ)I"⟩ prog_11_method_8_code 4 (some .int) ∈ GT := gt_7 (List.mem_of_getElem? (i := 75) rfl) rfl
theorem wd_1516 : Cond.methodLink "CarHouse$Transfer" 53 ⟨"CarHouse$Transfer", "controllerOf", "(I)I"⟩ ∈ GT := gt_7 (List.mem_of_getElem? (i := 76) rfl) rfl
theorem wd_1517 : Cond.instanceMethod ⟨"CarHouse$Transfer", "controllerOf", "(I)I"⟩ ∈ GT := gt_7 (List.mem_of_getElem? (i := 77) rfl) rfl
theorem wd_1518 : Cond.selects "CarHouse$Transfer" ⟨"CarHouse$Transfer", "controllerOf", "(I)I"⟩ ⟨"CarHouse$Transfer", "controllerOf", "(I)I"⟩ ∈ GT := gt_7 (List.mem_of_getElem? (i := 78) rfl) rfl
theorem wd_1519 : Cond.code ⟨"CarHouse$Transfer", "controllerOf", "(I)I"⟩ prog_11_method_5_code 2 (some .int) ∈ GT := gt_7 (List.mem_of_getElem? (i := 79) rfl) rfl
theorem wd_1520 : Cond.methodLink "CarHouse$Transfer" 57 ⟨"CarHouse$Transfer", "isToTester", "(I)Z"⟩ ∈ GT := gt_7 (List.mem_of_getElem? (i := 80) rfl) rfl
theorem wd_1521 : Cond.instanceMethod ⟨"CarHouse$Transfer", "isToTester", "(I)Z"⟩ ∈ GT := gt_7 (List.mem_of_getElem? (i := 81) rfl) rfl
theorem wd_1522 : Cond.selects "CarHouse$Transfer" ⟨"CarHouse$Transfer", "isToTester", "(I)Z"⟩ ⟨"CarHouse$Transfer", "isToTester", "(I)Z"⟩ ∈ GT := gt_7 (List.mem_of_getElem? (i := 82) rfl) rfl
theorem wd_1523 : Cond.code ⟨"CarHouse$Transfer", "isToTester", "(I)Z"⟩ prog_11_method_6_code 2 (some .boolean) ∈ GT := gt_7 (List.mem_of_getElem? (i := 83) rfl) rfl
theorem wd_1524 : Cond.methodLink "CarHouse$Transfer" 49 ⟨"CarHouse$Transfer", "isQuestion", "(I)Z"⟩ ∈ GT := gt_7 (List.mem_of_getElem? (i := 84) rfl) rfl
theorem wd_1525 : Cond.instanceMethod ⟨"CarHouse$Transfer", "isQuestion", "(I)Z"⟩ ∈ GT := gt_7 (List.mem_of_getElem? (i := 85) rfl) rfl
theorem wd_1526 : Cond.selects "CarHouse$Transfer" ⟨"CarHouse$Transfer", "isQuestion", "(I)Z"⟩ ⟨"CarHouse$Transfer", "isQuestion", "(I)Z"⟩ ∈ GT := gt_7 (List.mem_of_getElem? (i := 86) rfl) rfl
theorem wd_1527 : Cond.code ⟨"CarHouse$Transfer", "isQuestion", "(I)Z"⟩ prog_11_method_4_code 2 (some .boolean) ∈ GT := gt_7 (List.mem_of_getElem? (i := 87) rfl) rfl
theorem wd_1528 : Cond.methodLink "CarHouse$Transfer" 60 ⟨"CarHouse$Transfer", "receive", "(I)I"⟩ ∈ GT := gt_7 (List.mem_of_getElem? (i := 88) rfl) rfl
theorem wd_1530 : Cond.instanceMethod ⟨"CarHouse$Transfer", "receive", "(I)I"⟩ ∈ GT := gt_7 (List.mem_of_getElem? (i := 90) rfl) rfl
theorem wd_1531 : Cond.code ⟨"CarHouse$Transfer", "receive", "(I)I"⟩ prog_11_method_9_code 4 (some .int) ∈ GT := gt_7 (List.mem_of_getElem? (i := 91) rfl) rfl
theorem wd_1532 : Cond.methodLink "CarHouse$Transfer" 63 ⟨"CarHouse$Transfer", "receiveNext", "(II)I"⟩ ∈ GT := gt_7 (List.mem_of_getElem? (i := 92) rfl) rfl
theorem wd_1534 : Cond.instanceMethod ⟨"CarHouse$Transfer", "receiveNext", "(II)I"⟩ ∈ GT := gt_7 (List.mem_of_getElem? (i := 94) rfl) rfl
theorem wd_1535 : Cond.code ⟨"CarHouse$Transfer", "receiveNext", "(II)I"⟩ prog_11_method_10_code 4 (some .int) ∈ GT := gt_7 (List.mem_of_getElem? (i := 95) rfl) rfl
theorem wd_1536 : Cond.methodLink "CarHouse$Transfer" 67 ⟨"CarHouse$Transfer", "makeFrame", "(III)V"⟩ ∈ GT := gt_7 (List.mem_of_getElem? (i := 96) rfl) rfl
theorem wd_1538 : Cond.instanceMethod ⟨"CarHouse$Transfer", "makeFrame", "(III)V"⟩ ∈ GT := gt_7 (List.mem_of_getElem? (i := 98) rfl) rfl
theorem wd_1539 : Cond.code ⟨"CarHouse$Transfer", "makeFrame", "(III)V"⟩ prog_11_method_11_code 4 none ∈ GT := gt_7 (List.mem_of_getElem? (i := 99) rfl) rfl
theorem wd_1540 : Cond.methodLink "CarHouse$Car" 261 ⟨"CarHouse$Transfer", "isQuestion", "(I)Z"⟩ ∈ GT := gt_7 (List.mem_of_getElem? (i := 100) rfl) rfl
theorem wd_1541 : Cond.methodLink "CarHouse$Car" 269 ⟨"CarHouse$Questions", "makeReply", "(LCarHouse$Car;I[II)V"⟩ ∈ GT := gt_7 (List.mem_of_getElem? (i := 101) rfl) rfl
theorem wd_1542 : Cond.instanceMethod ⟨"CarHouse$Questions", "makeReply", "(LCarHouse$Car;I[II)V"⟩ ∈ GT := gt_7 (List.mem_of_getElem? (i := 102) rfl) rfl
theorem wd_1543 : Cond.selects "CarHouse$Questions" ⟨"CarHouse$Questions", "makeReply", "(LCarHouse$Car;I[II)V"⟩ ⟨"CarHouse$Questions", "makeReply", "(LCarHouse$Car;I[II)V"⟩ ∈ GT := gt_7 (List.mem_of_getElem? (i := 103) rfl) rfl
theorem wd_1544 : Cond.code ⟨"CarHouse$Questions", "makeReply", "(LCarHouse$Car;I[II)V"⟩ prog_9_method_3_code 5 none ∈ GT := gt_7 (List.mem_of_getElem? (i := 104) rfl) rfl
theorem wd_1545 : Cond.methodLink "CarHouse$Questions" 41 ⟨"CarHouse$Questions", "isKnown", "(I)Z"⟩ ∈ GT := gt_7 (List.mem_of_getElem? (i := 105) rfl) rfl
theorem wd_1546 : Cond.static ⟨"CarHouse$Questions", "isKnown", "(I)Z"⟩ ∈ GT := gt_7 (List.mem_of_getElem? (i := 106) rfl) rfl
theorem wd_1547 : Cond.code ⟨"CarHouse$Questions", "isKnown", "(I)Z"⟩ prog_9_method_4_code 1 (some .boolean) ∈ GT := gt_7 (List.mem_of_getElem? (i := 107) rfl) rfl
theorem wd_1548 : Cond.methodLink "CarHouse$Questions" 45 ⟨"CarHouse$Questions", "refuse", "(II)V"⟩ ∈ GT := gt_7 (List.mem_of_getElem? (i := 108) rfl) rfl
theorem wd_1550 : Cond.instanceMethod ⟨"CarHouse$Questions", "refuse", "(II)V"⟩ ∈ GT := gt_7 (List.mem_of_getElem? (i := 110) rfl) rfl
theorem wd_1551 : Cond.code ⟨"CarHouse$Questions", "refuse", "(II)V"⟩ prog_9_method_7_code 3 none ∈ GT := gt_7 (List.mem_of_getElem? (i := 111) rfl) rfl
theorem wd_1552 : Cond.methodLink "CarHouse$Questions" 95 ⟨"CarHouse$Questions", "put", "(I)V"⟩ ∈ GT := gt_7 (List.mem_of_getElem? (i := 112) rfl) rfl
theorem wd_1554 : Cond.instanceMethod ⟨"CarHouse$Questions", "put", "(I)V"⟩ ∈ GT := gt_7 (List.mem_of_getElem? (i := 114) rfl) rfl
theorem wd_1555 : Cond.code ⟨"CarHouse$Questions", "put", "(I)V"⟩ prog_9_method_6_code 2 none ∈ GT := gt_7 (List.mem_of_getElem? (i := 115) rfl) rfl
theorem wd_1556 : Cond.methodLink "CarHouse$Questions" 49 ⟨"CarHouse$Questions", "isRightLength", "([II)Z"⟩ ∈ GT := gt_7 (List.mem_of_getElem? (i := 116) rfl) rfl
theorem wd_1557 : Cond.static ⟨"CarHouse$Questions", "isRightLength", "([II)Z"⟩ ∈ GT := gt_7 (List.mem_of_getElem? (i := 117) rfl) rfl
theorem wd_1558 : Cond.code ⟨"CarHouse$Questions", "isRightLength", "([II)Z"⟩ prog_9_method_5_code 2 (some .boolean) ∈ GT := gt_7 (List.mem_of_getElem? (i := 118) rfl) rfl
theorem wd_1559 : Cond.methodLink "CarHouse$Questions" 53 ⟨"CarHouse$Questions", "openSession", "(II)V"⟩ ∈ GT := gt_7 (List.mem_of_getElem? (i := 119) rfl) rfl
theorem wd_1561 : Cond.instanceMethod ⟨"CarHouse$Questions", "openSession", "(II)V"⟩ ∈ GT := gt_7 (List.mem_of_getElem? (i := 121) rfl) rfl
theorem wd_1562 : Cond.code ⟨"CarHouse$Questions", "openSession", "(II)V"⟩ prog_9_method_8_code 3 none ∈ GT := gt_7 (List.mem_of_getElem? (i := 122) rfl) rfl
theorem wd_1563 : Cond.methodLink "CarHouse$Questions" 62 ⟨"CarHouse$Questions", "readDatum", "([LCarHouse$Chart;III)V"⟩ ∈ GT := gt_7 (List.mem_of_getElem? (i := 123) rfl) rfl
