/-! WORDS: those of the tables that a frame carries along; each by its place -/
def rp_W0 : List Cond := lw_tbl.filter goodWord
theorem rp_W0_good : GoodIn rp_W0 rp_W0 := fun w h => ⟨h, good_of_word (List.mem_filter.mp h).2⟩
theorem rp_W0_in : ∀ w ∈ rp_W0, w ∈ lw_tbl := fun _ h => (List.mem_filter.mp h).1
theorem rp_t1 {w : Cond} {i : Nat} (h : tables_1_1[i]? = some w) (g : goodWord w = true) : w ∈ rp_W0 := List.mem_filter.mpr ⟨List.mem_append_right _ (List.mem_append_left _ (List.mem_of_getElem? h)), g⟩
theorem rp_t2 {w : Cond} {i : Nat} (h : tables_1_2[i]? = some w) (g : goodWord w = true) : w ∈ rp_W0 := List.mem_filter.mpr ⟨List.mem_append_right _ (List.mem_append_right _ (List.mem_append_left _ (List.mem_of_getElem? h))), g⟩
theorem rp_t3 {w : Cond} {i : Nat} (h : tables_1_3[i]? = some w) (g : goodWord w = true) : w ∈ rp_W0 := List.mem_filter.mpr ⟨List.mem_append_right _ (List.mem_append_right _ (List.mem_append_right _ (List.mem_append_left _ (List.mem_of_getElem? h)))), g⟩
theorem rp_t4 {w : Cond} {i : Nat} (h : tables_1_4[i]? = some w) (g : goodWord w = true) : w ∈ rp_W0 := List.mem_filter.mpr ⟨List.mem_append_right _ (List.mem_append_right _ (List.mem_append_right _ (List.mem_append_right _ (List.mem_append_left _ (List.mem_of_getElem? h))))), g⟩
theorem rp_t5 {w : Cond} {i : Nat} (h : tables_1_5[i]? = some w) (g : goodWord w = true) : w ∈ rp_W0 := List.mem_filter.mpr ⟨List.mem_append_right _ (List.mem_append_right _ (List.mem_append_right _ (List.mem_append_right _ (List.mem_append_right _ (List.mem_of_getElem? h))))), g⟩
theorem rp_ts {w : Cond} (q : MethodName × Nat) (h : q ∈ lw_privs) (e : Cond.selects q.1.cls q.1 q.1 = w) (g : goodWord w = true) : w ∈ rp_W0 := List.mem_filter.mpr ⟨List.mem_append_left _ (e ▸ List.mem_map.mpr ⟨q, h, rfl⟩), g⟩
theorem wd_0 : Cond.initialized "RegretPegsLaw" ∈ rp_W0 := rp_t1 (i := 0) rfl rfl
theorem wd_1 : Cond.initialized "RegretPegs" ∈ rp_W0 := rp_t1 (i := 1) rfl rfl
theorem wd_2 : Cond.initialized "RegretPegs$Evening" ∈ rp_W0 := rp_t1 (i := 2) rfl rfl
theorem wd_3 : Cond.initialized "RegretPegs$Ball" ∈ rp_W0 := rp_t1 (i := 3) rfl rfl
theorem wd_4 : Cond.initialized "RegretPegs$Law" ∈ rp_W0 := rp_t1 (i := 4) rfl rfl
theorem wd_5 : Cond.initialized "RegretPegs$Reader" ∈ rp_W0 := rp_t1 (i := 5) rfl rfl
theorem wd_6 : Cond.initialized "RegretPegs$Voices" ∈ rp_W0 := rp_t1 (i := 6) rfl rfl
theorem wd_7 : Cond.initialized "RegretPegs$Sheet" ∈ rp_W0 := rp_t1 (i := 7) rfl rfl
theorem wd_8 : Cond.initialized "RegretPegsModel" ∈ rp_W0 := rp_t1 (i := 8) rfl rfl
theorem wd_9 : Cond.initialized "java/lang/Math" ∈ rp_W0 := rp_t1 (i := 9) rfl rfl
theorem wd_10 : Cond.initialized "java/lang/System" ∈ rp_W0 := rp_t1 (i := 10) rfl rfl
theorem wd_11 : Cond.initialized "java/lang/String" ∈ rp_W0 := rp_t1 (i := 11) rfl rfl
theorem wd_12 : Cond.initialized "java/lang/StringLatin1" ∈ rp_W0 := rp_t1 (i := 12) rfl rfl
theorem wd_13 : Cond.initialized "jdk/internal/util/Preconditions" ∈ rp_W0 := rp_t1 (i := 13) rfl rfl
theorem wd_14 : Cond.initialized "java/lang/StringUTF16" ∈ rp_W0 := rp_t1 (i := 14) rfl rfl
theorem wd_15 : Cond.classLink "RegretPegsLaw" 7 "RegretPegs" ∈ rp_W0 := rp_t1 (i := 15) rfl rfl
theorem wd_16 : Cond.instantiable "RegretPegs" 9 ∈ rp_W0 := rp_t1 (i := 16) rfl rfl
theorem wd_17 : Cond.methodLink "RegretPegsLaw" 9 yX6_init ∈ rp_W0 := rp_t1 (i := 17) rfl rfl
theorem wd_18 : Cond.instanceMethod yX6_init ∈ rp_W0 := rp_t1 (i := 18) rfl rfl
theorem wd_19 : Cond.code yX6_init prog_1_method_1_code 1 none ∈ rp_W0 := rp_t1 (i := 19) rfl rfl
theorem wd_20 : Cond.methodLink "RegretPegs" 1 ⟨"java/lang/Object", "<init>", "()V"⟩ ∈ rp_W0 := rp_t1 (i := 20) rfl rfl
theorem wd_21 : Cond.instanceMethod ⟨"java/lang/Object", "<init>", "()V"⟩ ∈ rp_W0 := rp_t1 (i := 21) rfl rfl
theorem wd_22 : Cond.code ⟨"java/lang/Object", "<init>", "()V"⟩ object_method_1_code 1 none ∈ rp_W0 := rp_t1 (i := 22) rfl rfl
theorem wd_23 : Cond.classLink "RegretPegs" 7 "RegretPegs$Evening" ∈ rp_W0 := rp_t1 (i := 23) rfl rfl
theorem wd_24 : Cond.instantiable "RegretPegs$Evening" 9 ∈ rp_W0 := rp_t1 (i := 24) rfl rfl
theorem wd_26 : Cond.instanceMethod yX1_init ∈ rp_W0 := rp_t1 (i := 26) rfl rfl
theorem wd_27 : Cond.code yX1_init prog_3_method_1_code 1 none ∈ rp_W0 := rp_t1 (i := 27) rfl rfl
theorem wd_28 : Cond.methodLink "RegretPegs$Evening" 3 ⟨"java/lang/Object", "<init>", "()V"⟩ ∈ rp_W0 := rp_t1 (i := 28) rfl rfl
theorem wd_29 : Cond.classLink "RegretPegs$Evening" 9 "RegretPegs$Ball" ∈ rp_W0 := rp_t1 (i := 29) rfl rfl
theorem wd_30 : Cond.instantiable "RegretPegs$Ball" 7 ∈ rp_W0 := rp_t1 (i := 30) rfl rfl
theorem wd_32 : Cond.instanceMethod yX0_init ∈ rp_W0 := rp_t1 (i := 32) rfl rfl
theorem wd_33 : Cond.code yX0_init prog_2_method_1_code 1 none ∈ rp_W0 := rp_t1 (i := 33) rfl rfl
theorem wd_34 : Cond.methodLink "RegretPegs$Ball" 3 ⟨"java/lang/Object", "<init>", "()V"⟩ ∈ rp_W0 := rp_t1 (i := 34) rfl rfl
theorem wd_35 : Cond.fieldLink "RegretPegs$Ball" 9 "RegretPegs$Ball" "size" "I" ∈ rp_W0 := rp_t1 (i := 35) rfl rfl
theorem wd_36 : Cond.fieldLink "RegretPegs" 73 "RegretPegs$Ball" "size" "I" ∈ rp_W0 := rp_t1 (i := 36) rfl rfl
theorem wd_37 : Cond.fieldLink "RegretPegs$Evening" 71 "RegretPegs$Ball" "size" "I" ∈ rp_W0 := rp_t1 (i := 37) rfl rfl
theorem wd_38 : Cond.fieldLink "RegretPegs$Sheet" 22 "RegretPegs$Ball" "size" "I" ∈ rp_W0 := rp_t1 (i := 38) rfl rfl
theorem wd_39 : Cond.fieldLink "RegretPegs$Ball" 15 "RegretPegs$Ball" "kind" "[I" ∈ rp_W0 := rp_t1 (i := 39) rfl rfl
theorem wd_40 : Cond.fieldLink "RegretPegs" 83 "RegretPegs$Ball" "kind" "[I" ∈ rp_W0 := rp_t1 (i := 40) rfl rfl
theorem wd_41 : Cond.fieldLink "RegretPegs$Ball" 19 "RegretPegs$Ball" "m" "[I" ∈ rp_W0 := rp_t1 (i := 41) rfl rfl
theorem wd_42 : Cond.fieldLink "RegretPegs" 86 "RegretPegs$Ball" "m" "[I" ∈ rp_W0 := rp_t1 (i := 42) rfl rfl
theorem wd_43 : Cond.fieldLink "RegretPegs$Ball" 22 "RegretPegs$Ball" "rue" "[I" ∈ rp_W0 := rp_t1 (i := 43) rfl rfl
theorem wd_44 : Cond.fieldLink "RegretPegs" 89 "RegretPegs$Ball" "rue" "[I" ∈ rp_W0 := rp_t1 (i := 44) rfl rfl
theorem wd_45 : Cond.fieldLink "RegretPegs$Sheet" 25 "RegretPegs$Ball" "rue" "[I" ∈ rp_W0 := rp_t1 (i := 45) rfl rfl
theorem wd_46 : Cond.fieldLink "RegretPegs$Ball" 25 "RegretPegs$Ball" "danced" "[I" ∈ rp_W0 := rp_t1 (i := 46) rfl rfl
theorem wd_47 : Cond.fieldLink "RegretPegs" 92 "RegretPegs$Ball" "danced" "[I" ∈ rp_W0 := rp_t1 (i := 47) rfl rfl
theorem wd_48 : Cond.fieldLink "RegretPegs$Ball" 28 "RegretPegs$Ball" "idle" "[I" ∈ rp_W0 := rp_t1 (i := 48) rfl rfl
theorem wd_49 : Cond.fieldLink "RegretPegs" 95 "RegretPegs$Ball" "idle" "[I" ∈ rp_W0 := rp_t1 (i := 49) rfl rfl
theorem wd_50 : Cond.fieldLink "RegretPegs$Ball" 31 "RegretPegs$Ball" "order" "[I" ∈ rp_W0 := rp_t1 (i := 50) rfl rfl
theorem wd_51 : Cond.fieldLink "RegretPegs" 111 "RegretPegs$Ball" "order" "[I" ∈ rp_W0 := rp_t1 (i := 51) rfl rfl
theorem wd_52 : Cond.lays "RegretPegs$Ball" "RegretPegs$Ball" "size" "I" ∈ rp_W0 := rp_t1 (i := 52) rfl rfl
theorem wd_54 : Cond.laysFinal "RegretPegs$Ball" "RegretPegs$Ball" "kind" "[I" ∈ rp_W0 := rp_t1 (i := 54) rfl rfl
theorem wd_56 : Cond.laysFinal "RegretPegs$Ball" "RegretPegs$Ball" "m" "[I" ∈ rp_W0 := rp_t1 (i := 56) rfl rfl
theorem wd_58 : Cond.laysFinal "RegretPegs$Ball" "RegretPegs$Ball" "rue" "[I" ∈ rp_W0 := rp_t1 (i := 58) rfl rfl
theorem wd_60 : Cond.laysFinal "RegretPegs$Ball" "RegretPegs$Ball" "danced" "[I" ∈ rp_W0 := rp_t1 (i := 60) rfl rfl
theorem wd_62 : Cond.laysFinal "RegretPegs$Ball" "RegretPegs$Ball" "idle" "[I" ∈ rp_W0 := rp_t1 (i := 62) rfl rfl
theorem wd_64 : Cond.laysFinal "RegretPegs$Ball" "RegretPegs$Ball" "order" "[I" ∈ rp_W0 := rp_t1 (i := 64) rfl rfl
theorem wd_67 : Cond.arrayClass .int ∈ rp_W0 := rp_t1 (i := 67) rfl rfl
theorem wd_68 : Cond.classLink "RegretPegs$Evening" 18 "RegretPegs$Law" ∈ rp_W0 := rp_t1 (i := 68) rfl rfl
theorem wd_69 : Cond.instantiable "RegretPegs$Law" 4 ∈ rp_W0 := rp_t1 (i := 69) rfl rfl
theorem wd_70 : Cond.methodLink "RegretPegs$Evening" 20 yX2_init ∈ rp_W0 := rp_t1 (i := 70) rfl rfl
theorem wd_71 : Cond.instanceMethod yX2_init ∈ rp_W0 := rp_t1 (i := 71) rfl rfl
theorem wd_72 : Cond.code yX2_init prog_4_method_1_code 2 none ∈ rp_W0 := rp_t1 (i := 72) rfl rfl
theorem wd_73 : Cond.methodLink "RegretPegs$Law" 3 ⟨"java/lang/Object", "<init>", "()V"⟩ ∈ rp_W0 := rp_t1 (i := 73) rfl rfl
theorem wd_74 : Cond.fieldLink "RegretPegs$Law" 22 "RegretPegs$Law" "use" "I" ∈ rp_W0 := rp_t1 (i := 74) rfl rfl
theorem wd_75 : Cond.fieldLink "RegretPegs$Law" 9 "RegretPegs$Law" "size" "I" ∈ rp_W0 := rp_t1 (i := 75) rfl rfl
theorem wd_76 : Cond.fieldLink "RegretPegs$Evening" 58 "RegretPegs$Law" "size" "I" ∈ rp_W0 := rp_t1 (i := 76) rfl rfl
theorem wd_77 : Cond.fieldLink "RegretPegs$Law" 15 "RegretPegs$Law" "code" "[I" ∈ rp_W0 := rp_t1 (i := 77) rfl rfl
theorem wd_78 : Cond.fieldLink "RegretPegs$Evening" 55 "RegretPegs$Law" "code" "[I" ∈ rp_W0 := rp_t1 (i := 78) rfl rfl
theorem wd_79 : Cond.fieldLink "RegretPegs$Law" 19 "RegretPegs$Law" "values" "[I" ∈ rp_W0 := rp_t1 (i := 79) rfl rfl
theorem wd_80 : Cond.laysFinal "RegretPegs$Law" "RegretPegs$Law" "use" "I" ∈ rp_W0 := rp_t1 (i := 80) rfl rfl
theorem wd_82 : Cond.lays "RegretPegs$Law" "RegretPegs$Law" "size" "I" ∈ rp_W0 := rp_t1 (i := 82) rfl rfl
theorem wd_84 : Cond.laysFinal "RegretPegs$Law" "RegretPegs$Law" "code" "[I" ∈ rp_W0 := rp_t1 (i := 84) rfl rfl
theorem wd_86 : Cond.laysFinal "RegretPegs$Law" "RegretPegs$Law" "values" "[I" ∈ rp_W0 := rp_t1 (i := 86) rfl rfl
theorem wd_89 : Cond.fieldLink "RegretPegs$Evening" 12 "RegretPegs$Evening" "ball" "LRegretPegs$Ball;" ∈ rp_W0 := rp_t1 (i := 89) rfl rfl
theorem wd_90 : Cond.fieldLink "RegretPegs" 70 "RegretPegs$Evening" "ball" "LRegretPegs$Ball;" ∈ rp_W0 := rp_t1 (i := 90) rfl rfl
theorem wd_91 : Cond.fieldLink "RegretPegs$Evening" 23 "RegretPegs$Evening" "dancing" "LRegretPegs$Law;" ∈ rp_W0 := rp_t1 (i := 91) rfl rfl
theorem wd_92 : Cond.fieldLink "RegretPegs" 154 "RegretPegs$Evening" "dancing" "LRegretPegs$Law;" ∈ rp_W0 := rp_t1 (i := 92) rfl rfl
theorem wd_93 : Cond.fieldLink "RegretPegs$Evening" 27 "RegretPegs$Evening" "shifts" "LRegretPegs$Law;" ∈ rp_W0 := rp_t1 (i := 93) rfl rfl
theorem wd_94 : Cond.fieldLink "RegretPegs" 165 "RegretPegs$Evening" "shifts" "LRegretPegs$Law;" ∈ rp_W0 := rp_t1 (i := 94) rfl rfl
theorem wd_95 : Cond.fieldLink "RegretPegs$Evening" 30 "RegretPegs$Evening" "tape" "[B" ∈ rp_W0 := rp_t1 (i := 95) rfl rfl
theorem wd_96 : Cond.fieldLink "RegretPegs" 125 "RegretPegs$Evening" "tape" "[B" ∈ rp_W0 := rp_t1 (i := 96) rfl rfl
theorem wd_97 : Cond.fieldLink "RegretPegs$Evening" 34 "RegretPegs$Evening" "taped" "I" ∈ rp_W0 := rp_t1 (i := 97) rfl rfl
theorem wd_98 : Cond.fieldLink "RegretPegs" 122 "RegretPegs$Evening" "taped" "I" ∈ rp_W0 := rp_t1 (i := 98) rfl rfl
theorem wd_99 : Cond.fieldLink "RegretPegs$Evening" 38 "RegretPegs$Evening" "waiting" "[I" ∈ rp_W0 := rp_t1 (i := 99) rfl rfl
theorem wd_100 : Cond.fieldLink "RegretPegs" 255 "RegretPegs$Evening" "waiting" "[I" ∈ rp_W0 := rp_t1 (i := 100) rfl rfl
theorem wd_101 : Cond.fieldLink "RegretPegs$Evening" 42 "RegretPegs$Evening" "waits" "I" ∈ rp_W0 := rp_t1 (i := 101) rfl rfl
theorem wd_102 : Cond.fieldLink "RegretPegs" 252 "RegretPegs$Evening" "waits" "I" ∈ rp_W0 := rp_t1 (i := 102) rfl rfl
theorem wd_103 : Cond.fieldLink "RegretPegs$Evening" 45 "RegretPegs$Evening" "hour" "I" ∈ rp_W0 := rp_t1 (i := 103) rfl rfl
theorem wd_104 : Cond.fieldLink "RegretPegs" 162 "RegretPegs$Evening" "hour" "I" ∈ rp_W0 := rp_t1 (i := 104) rfl rfl
theorem wd_105 : Cond.fieldLink "RegretPegs$Evening" 48 "RegretPegs$Evening" "z" "I" ∈ rp_W0 := rp_t1 (i := 105) rfl rfl
theorem wd_106 : Cond.fieldLink "RegretPegs" 213 "RegretPegs$Evening" "z" "I" ∈ rp_W0 := rp_t1 (i := 106) rfl rfl
theorem wd_107 : Cond.laysFinal "RegretPegs$Evening" "RegretPegs$Evening" "ball" "LRegretPegs$Ball;" ∈ rp_W0 := rp_t1 (i := 107) rfl rfl
theorem wd_109 : Cond.laysFinal "RegretPegs$Evening" "RegretPegs$Evening" "dancing" "LRegretPegs$Law;" ∈ rp_W0 := rp_t1 (i := 109) rfl rfl
theorem wd_111 : Cond.laysFinal "RegretPegs$Evening" "RegretPegs$Evening" "shifts" "LRegretPegs$Law;" ∈ rp_W0 := rp_t1 (i := 111) rfl rfl
theorem wd_113 : Cond.laysFinal "RegretPegs$Evening" "RegretPegs$Evening" "tape" "[B" ∈ rp_W0 := rp_t1 (i := 113) rfl rfl
theorem wd_115 : Cond.lays "RegretPegs$Evening" "RegretPegs$Evening" "taped" "I" ∈ rp_W0 := rp_t1 (i := 115) rfl rfl
theorem wd_117 : Cond.laysFinal "RegretPegs$Evening" "RegretPegs$Evening" "waiting" "[I" ∈ rp_W0 := rp_t1 (i := 117) rfl rfl
theorem wd_119 : Cond.lays "RegretPegs$Evening" "RegretPegs$Evening" "waits" "I" ∈ rp_W0 := rp_t1 (i := 119) rfl rfl
theorem wd_121 : Cond.lays "RegretPegs$Evening" "RegretPegs$Evening" "hour" "I" ∈ rp_W0 := rp_t1 (i := 121) rfl rfl
theorem wd_123 : Cond.lays "RegretPegs$Evening" "RegretPegs$Evening" "z" "I" ∈ rp_W0 := rp_t1 (i := 123) rfl rfl
theorem wd_126 : Cond.arrayClass .byte ∈ rp_W0 := rp_t1 (i := 126) rfl rfl
theorem wd_127 : Cond.classLink "RegretPegs" 23 "RegretPegs$Ball" ∈ rp_W0 := rp_t1 (i := 127) rfl rfl
theorem wd_129 : Cond.classLink "RegretPegs" 33 "RegretPegs$Reader" ∈ rp_W0 := rp_t1 (i := 129) rfl rfl
theorem wd_130 : Cond.instantiable "RegretPegs$Reader" 6 ∈ rp_W0 := rp_t1 (i := 130) rfl rfl
theorem wd_132 : Cond.instanceMethod yX3_init ∈ rp_W0 := rp_t1 (i := 132) rfl rfl
theorem wd_133 : Cond.code yX3_init prog_5_method_1_code 1 none ∈ rp_W0 := rp_t1 (i := 133) rfl rfl
theorem wd_134 : Cond.methodLink "RegretPegs$Reader" 3 ⟨"java/lang/Object", "<init>", "()V"⟩ ∈ rp_W0 := rp_t1 (i := 134) rfl rfl
theorem wd_135 : Cond.fieldLink "RegretPegs$Reader" 9 "RegretPegs$Reader" "bytes" "[B" ∈ rp_W0 := rp_t1 (i := 135) rfl rfl
theorem wd_136 : Cond.fieldLink "RegretPegs$Reader" 15 "RegretPegs$Reader" "length" "I" ∈ rp_W0 := rp_t1 (i := 136) rfl rfl
theorem wd_137 : Cond.fieldLink "RegretPegs$Reader" 19 "RegretPegs$Reader" "use" "I" ∈ rp_W0 := rp_t1 (i := 137) rfl rfl
theorem wd_138 : Cond.fieldLink "RegretPegs$Reader" 22 "RegretPegs$Reader" "at" "I" ∈ rp_W0 := rp_t1 (i := 138) rfl rfl
theorem wd_139 : Cond.fieldLink "RegretPegs" 133 "RegretPegs$Reader" "at" "I" ∈ rp_W0 := rp_t1 (i := 139) rfl rfl
theorem wd_140 : Cond.fieldLink "RegretPegs$Reader" 25 "RegretPegs$Reader" "size" "I" ∈ rp_W0 := rp_t1 (i := 140) rfl rfl
theorem wd_141 : Cond.fieldLink "RegretPegs" 143 "RegretPegs$Reader" "size" "I" ∈ rp_W0 := rp_t1 (i := 141) rfl rfl
theorem wd_142 : Cond.fieldLink "RegretPegs$Reader" 28 "RegretPegs$Reader" "code" "[I" ∈ rp_W0 := rp_t1 (i := 142) rfl rfl
theorem wd_143 : Cond.fieldLink "RegretPegs" 140 "RegretPegs$Reader" "code" "[I" ∈ rp_W0 := rp_t1 (i := 143) rfl rfl
theorem wd_144 : Cond.laysFinal "RegretPegs$Reader" "RegretPegs$Reader" "bytes" "[B" ∈ rp_W0 := rp_t1 (i := 144) rfl rfl
theorem wd_146 : Cond.lays "RegretPegs$Reader" "RegretPegs$Reader" "length" "I" ∈ rp_W0 := rp_t1 (i := 146) rfl rfl
theorem wd_148 : Cond.lays "RegretPegs$Reader" "RegretPegs$Reader" "use" "I" ∈ rp_W0 := rp_t1 (i := 148) rfl rfl
theorem wd_150 : Cond.lays "RegretPegs$Reader" "RegretPegs$Reader" "at" "I" ∈ rp_W0 := rp_t1 (i := 150) rfl rfl
theorem wd_152 : Cond.lays "RegretPegs$Reader" "RegretPegs$Reader" "size" "I" ∈ rp_W0 := rp_t1 (i := 152) rfl rfl
theorem wd_154 : Cond.laysFinal "RegretPegs$Reader" "RegretPegs$Reader" "code" "[I" ∈ rp_W0 := rp_t1 (i := 154) rfl rfl
theorem wd_157 : Cond.classLink "RegretPegs" 40 "RegretPegs$Voices" ∈ rp_W0 := rp_t1 (i := 157) rfl rfl
theorem wd_158 : Cond.instantiable "RegretPegs$Voices" 5 ∈ rp_W0 := rp_t1 (i := 158) rfl rfl
theorem wd_160 : Cond.instanceMethod yX5_init ∈ rp_W0 := rp_t1 (i := 160) rfl rfl
theorem wd_161 : Cond.code yX5_init prog_7_method_1_code 1 none ∈ rp_W0 := rp_t1 (i := 161) rfl rfl
theorem wd_162 : Cond.methodLink "RegretPegs$Voices" 3 ⟨"java/lang/Object", "<init>", "()V"⟩ ∈ rp_W0 := rp_t1 (i := 162) rfl rfl
theorem wd_163 : Cond.fieldLink "RegretPegs$Voices" 9 "RegretPegs$Voices" "kind" "I" ∈ rp_W0 := rp_t1 (i := 163) rfl rfl
theorem wd_164 : Cond.fieldLink "RegretPegs$Voices" 15 "RegretPegs$Voices" "n" "I" ∈ rp_W0 := rp_t1 (i := 164) rfl rfl
theorem wd_165 : Cond.fieldLink "RegretPegs$Voices" 18 "RegretPegs$Voices" "m" "I" ∈ rp_W0 := rp_t1 (i := 165) rfl rfl
theorem wd_166 : Cond.fieldLink "RegretPegs$Voices" 21 "RegretPegs$Voices" "begun" "I" ∈ rp_W0 := rp_t1 (i := 166) rfl rfl
theorem wd_167 : Cond.fieldLink "RegretPegs" 220 "RegretPegs$Voices" "begun" "I" ∈ rp_W0 := rp_t1 (i := 167) rfl rfl
theorem wd_168 : Cond.fieldLink "RegretPegs$Voices" 24 "RegretPegs$Voices" "bodies" "[I" ∈ rp_W0 := rp_t1 (i := 168) rfl rfl
theorem wd_169 : Cond.fieldLink "RegretPegs" 223 "RegretPegs$Voices" "bodies" "[I" ∈ rp_W0 := rp_t1 (i := 169) rfl rfl
theorem wd_170 : Cond.lays "RegretPegs$Voices" "RegretPegs$Voices" "kind" "I" ∈ rp_W0 := rp_t1 (i := 170) rfl rfl
theorem wd_172 : Cond.lays "RegretPegs$Voices" "RegretPegs$Voices" "n" "I" ∈ rp_W0 := rp_t1 (i := 172) rfl rfl
theorem wd_174 : Cond.lays "RegretPegs$Voices" "RegretPegs$Voices" "m" "I" ∈ rp_W0 := rp_t1 (i := 174) rfl rfl
theorem wd_176 : Cond.lays "RegretPegs$Voices" "RegretPegs$Voices" "begun" "I" ∈ rp_W0 := rp_t1 (i := 176) rfl rfl
theorem wd_178 : Cond.laysFinal "RegretPegs$Voices" "RegretPegs$Voices" "bodies" "[I" ∈ rp_W0 := rp_t1 (i := 178) rfl rfl
theorem wd_181 : Cond.classLink "RegretPegs" 47 "RegretPegs$Sheet" ∈ rp_W0 := rp_t1 (i := 181) rfl rfl
theorem wd_183 : Cond.instantiable "RegretPegs$Sheet" 3 ∈ rp_W0 := rp_t1 (i := 183) rfl rfl
theorem wd_185 : Cond.instanceMethod yX4_init ∈ rp_W0 := rp_t1 (i := 185) rfl rfl
theorem wd_186 : Cond.code yX4_init prog_6_method_1_code 1 none ∈ rp_W0 := rp_t1 (i := 186) rfl rfl
theorem wd_187 : Cond.methodLink "RegretPegs$Sheet" 3 ⟨"java/lang/Object", "<init>", "()V"⟩ ∈ rp_W0 := rp_t1 (i := 187) rfl rfl
theorem wd_188 : Cond.fieldLink "RegretPegs$Sheet" 9 "RegretPegs$Sheet" "bits" "I" ∈ rp_W0 := rp_t1 (i := 188) rfl rfl
theorem wd_189 : Cond.fieldLink "RegretPegs" 199 "RegretPegs$Sheet" "bits" "I" ∈ rp_W0 := rp_t1 (i := 189) rfl rfl
theorem wd_190 : Cond.fieldLink "RegretPegs$Sheet" 15 "RegretPegs$Sheet" "size" "I" ∈ rp_W0 := rp_t1 (i := 190) rfl rfl
theorem wd_191 : Cond.fieldLink "RegretPegs" 202 "RegretPegs$Sheet" "size" "I" ∈ rp_W0 := rp_t1 (i := 191) rfl rfl
theorem wd_192 : Cond.fieldLink "RegretPegs$Sheet" 18 "RegretPegs$Sheet" "numbers" "[I" ∈ rp_W0 := rp_t1 (i := 192) rfl rfl
theorem wd_193 : Cond.fieldLink "RegretPegs" 235 "RegretPegs$Sheet" "numbers" "[I" ∈ rp_W0 := rp_t1 (i := 193) rfl rfl
theorem wd_194 : Cond.lays "RegretPegs$Sheet" "RegretPegs$Sheet" "bits" "I" ∈ rp_W0 := rp_t1 (i := 194) rfl rfl
theorem wd_196 : Cond.lays "RegretPegs$Sheet" "RegretPegs$Sheet" "size" "I" ∈ rp_W0 := rp_t1 (i := 196) rfl rfl
theorem wd_198 : Cond.laysFinal "RegretPegs$Sheet" "RegretPegs$Sheet" "numbers" "[I" ∈ rp_W0 := rp_t1 (i := 198) rfl rfl
theorem wd_201 : Cond.fieldLink "RegretPegs" 10 "RegretPegs" "now" "LRegretPegs$Evening;" ∈ rp_W0 := rp_t1 (i := 201) rfl rfl
theorem wd_202 : Cond.fieldLink "RegretPegs" 16 "RegretPegs" "kept" "LRegretPegs$Evening;" ∈ rp_W0 := rp_t1 (i := 202) rfl rfl
theorem wd_203 : Cond.fieldLink "RegretPegs" 19 "RegretPegs" "images" "I" ∈ rp_W0 := rp_t1 (i := 203) rfl rfl
theorem wd_204 : Cond.fieldLink "RegretPegs" 26 "RegretPegs" "thought" "LRegretPegs$Ball;" ∈ rp_W0 := rp_t1 (i := 204) rfl rfl
theorem wd_205 : Cond.fieldLink "RegretPegs" 30 "RegretPegs" "firstDanced" "LRegretPegs$Ball;" ∈ rp_W0 := rp_t1 (i := 205) rfl rfl
theorem wd_206 : Cond.fieldLink "RegretPegs" 36 "RegretPegs" "reader" "LRegretPegs$Reader;" ∈ rp_W0 := rp_t1 (i := 206) rfl rfl
theorem wd_207 : Cond.fieldLink "RegretPegs" 43 "RegretPegs" "voices" "LRegretPegs$Voices;" ∈ rp_W0 := rp_t1 (i := 207) rfl rfl
theorem wd_208 : Cond.fieldLink "RegretPegs" 50 "RegretPegs" "sheets" "[LRegretPegs$Sheet;" ∈ rp_W0 := rp_t1 (i := 208) rfl rfl
theorem wd_209 : Cond.fieldLink "RegretPegs" 54 "RegretPegs" "errors" "[I" ∈ rp_W0 := rp_t1 (i := 209) rfl rfl
theorem wd_210 : Cond.laysFinal "RegretPegs" "RegretPegs" "now" "LRegretPegs$Evening;" ∈ rp_W0 := rp_t1 (i := 210) rfl rfl
theorem wd_212 : Cond.laysFinal "RegretPegs" "RegretPegs" "kept" "LRegretPegs$Evening;" ∈ rp_W0 := rp_t1 (i := 212) rfl rfl
theorem wd_214 : Cond.lays "RegretPegs" "RegretPegs" "images" "I" ∈ rp_W0 := rp_t1 (i := 214) rfl rfl
theorem wd_216 : Cond.laysFinal "RegretPegs" "RegretPegs" "thought" "LRegretPegs$Ball;" ∈ rp_W0 := rp_t1 (i := 216) rfl rfl
theorem wd_218 : Cond.laysFinal "RegretPegs" "RegretPegs" "firstDanced" "LRegretPegs$Ball;" ∈ rp_W0 := rp_t1 (i := 218) rfl rfl
theorem wd_220 : Cond.laysFinal "RegretPegs" "RegretPegs" "reader" "LRegretPegs$Reader;" ∈ rp_W0 := rp_t1 (i := 220) rfl rfl
theorem wd_222 : Cond.laysFinal "RegretPegs" "RegretPegs" "voices" "LRegretPegs$Voices;" ∈ rp_W0 := rp_t1 (i := 222) rfl rfl
theorem wd_224 : Cond.laysFinal "RegretPegs" "RegretPegs" "sheets" "[LRegretPegs$Sheet;" ∈ rp_W0 := rp_t1 (i := 224) rfl rfl
theorem wd_226 : Cond.laysFinal "RegretPegs" "RegretPegs" "errors" "[I" ∈ rp_W0 := rp_t1 (i := 226) rfl rfl
theorem wd_229 : Cond.methodLink "RegretPegsLaw" 13 yX6_guest ∈ rp_W0 := rp_t1 (i := 229) rfl rfl
theorem wd_230 : Cond.instanceMethod yX6_guest ∈ rp_W0 := rp_t1 (i := 230) rfl rfl
theorem wd_231 : Cond.selects "RegretPegs" yX6_guest yX6_guest ∈ rp_W0 := rp_t1 (i := 231) rfl rfl
theorem wd_232 : Cond.code yX6_guest prog_1_method_2_code 3 (some .int) ∈ rp_W0 := rp_t1 (i := 232) rfl rfl
theorem wd_233 : Cond.methodLink "RegretPegs" 58 yX6_isKindAndNumber ∈ rp_W0 := rp_t1 (i := 233) rfl rfl
theorem wd_234 : Cond.static yX6_isKindAndNumber ∈ rp_W0 := rp_t1 (i := 234) rfl rfl
theorem wd_235 : Cond.code yX6_isKindAndNumber prog_1_method_47_code 1 (some .boolean) ∈ rp_W0 := rp_t1 (i := 235) rfl rfl
theorem wd_236 : Cond.methodLink "RegretPegs" 62 yX6_isWithin ∈ rp_W0 := rp_t1 (i := 236) rfl rfl
theorem wd_237 : Cond.static yX6_isWithin ∈ rp_W0 := rp_t1 (i := 237) rfl rfl
theorem wd_238 : Cond.code yX6_isWithin prog_1_method_46_code 3 (some .boolean) ∈ rp_W0 := rp_t1 (i := 238) rfl rfl
theorem wd_239 : Cond.methodLink "RegretPegs" 66 yX6_refuse ∈ rp_W0 := rp_t1 (i := 239) rfl rfl
theorem wd_241 : Cond.instanceMethod yX6_refuse ∈ rp_W0 := rp_t2 (i := 1) rfl rfl
theorem wd_242 : Cond.code yX6_refuse prog_1_method_41_code 2 (some .int) ∈ rp_W0 := rp_t2 (i := 2) rfl rfl
theorem wd_243 : Cond.constant "RegretPegs" 264 (-1000000000) ∈ rp_W0 := rp_t2 (i := 3) rfl rfl
theorem wd_244 : Cond.methodLink "RegretPegs" 76 yX0_admit ∈ rp_W0 := rp_t2 (i := 4) rfl rfl
theorem wd_245 : Cond.instanceMethod yX0_admit ∈ rp_W0 := rp_t2 (i := 5) rfl rfl
theorem wd_246 : Cond.selects "RegretPegs$Ball" yX0_admit yX0_admit ∈ rp_W0 := rp_t2 (i := 6) rfl rfl
theorem wd_247 : Cond.code yX0_admit prog_2_method_3_code 4 (some .int) ∈ rp_W0 := rp_t2 (i := 7) rfl rfl
theorem wd_248 : Cond.methodLink "RegretPegsLaw" 18 yX6_ofGuest ∈ rp_W0 := rp_t2 (i := 8) rfl rfl
theorem wd_249 : Cond.instanceMethod yX6_ofGuest ∈ rp_W0 := rp_t2 (i := 9) rfl rfl
theorem wd_250 : Cond.selects "RegretPegs" yX6_ofGuest yX6_ofGuest ∈ rp_W0 := rp_t2 (i := 10) rfl rfl
theorem wd_251 : Cond.code yX6_ofGuest prog_1_method_3_code 4 (some .int) ∈ rp_W0 := rp_t2 (i := 11) rfl rfl
theorem wd_252 : Cond.methodLink "RegretPegs" 80 yX6_isGuest ∈ rp_W0 := rp_t2 (i := 12) rfl rfl
theorem wd_254 : Cond.instanceMethod yX6_isGuest ∈ rp_W0 := rp_t2 (i := 14) rfl rfl
theorem wd_255 : Cond.code yX6_isGuest prog_1_method_43_code 2 (some .boolean) ∈ rp_W0 := rp_t2 (i := 15) rfl rfl
theorem wd_256 : Cond.methodLink "RegretPegs" 98 yX0_pegOf ∈ rp_W0 := rp_t2 (i := 16) rfl rfl
theorem wd_257 : Cond.instanceMethod yX0_pegOf ∈ rp_W0 := rp_t2 (i := 17) rfl rfl
theorem wd_258 : Cond.selects "RegretPegs$Ball" yX0_pegOf yX0_pegOf ∈ rp_W0 := rp_t2 (i := 18) rfl rfl
theorem wd_259 : Cond.code yX0_pegOf prog_2_method_4_code 3 (some .int) ∈ rp_W0 := rp_t2 (i := 19) rfl rfl
theorem wd_260 : Cond.methodLink "RegretPegs" 101 yX0_growsOn ∈ rp_W0 := rp_t2 (i := 20) rfl rfl
theorem wd_261 : Cond.instanceMethod yX0_growsOn ∈ rp_W0 := rp_t2 (i := 21) rfl rfl
theorem wd_262 : Cond.selects "RegretPegs$Ball" yX0_growsOn yX0_growsOn ∈ rp_W0 := rp_t2 (i := 22) rfl rfl
theorem wd_263 : Cond.code yX0_growsOn prog_2_method_7_code 4 (some .int) ∈ rp_W0 := rp_t2 (i := 23) rfl rfl
theorem wd_264 : Cond.methodLink "RegretPegsLaw" 22 yX6_change ∈ rp_W0 := rp_t2 (i := 24) rfl rfl
theorem wd_265 : Cond.instanceMethod yX6_change ∈ rp_W0 := rp_t2 (i := 25) rfl rfl
theorem wd_266 : Cond.selects "RegretPegs" yX6_change yX6_change ∈ rp_W0 := rp_t2 (i := 26) rfl rfl
theorem wd_267 : Cond.code yX6_change prog_1_method_4_code 4 (some .int) ∈ rp_W0 := rp_t2 (i := 27) rfl rfl
theorem wd_268 : Cond.methodLink "RegretPegs" 104 yX6_replace ∈ rp_W0 := rp_t2 (i := 28) rfl rfl
theorem wd_270 : Cond.instanceMethod yX6_replace ∈ rp_W0 := rp_t2 (i := 30) rfl rfl
theorem wd_271 : Cond.code yX6_replace prog_1_method_42_code 6 (some .int) ∈ rp_W0 := rp_t2 (i := 31) rfl rfl
theorem wd_272 : Cond.methodLink "RegretPegsLaw" 27 yX6_peg ∈ rp_W0 := rp_t2 (i := 32) rfl rfl
theorem wd_273 : Cond.instanceMethod yX6_peg ∈ rp_W0 := rp_t2 (i := 33) rfl rfl
theorem wd_274 : Cond.selects "RegretPegs" yX6_peg yX6_peg ∈ rp_W0 := rp_t2 (i := 34) rfl rfl
theorem wd_275 : Cond.code yX6_peg prog_1_method_5_code 2 (some .int) ∈ rp_W0 := rp_t2 (i := 35) rfl rfl
theorem wd_276 : Cond.methodLink "RegretPegs" 108 yX6_isPeg ∈ rp_W0 := rp_t2 (i := 36) rfl rfl
theorem wd_278 : Cond.instanceMethod yX6_isPeg ∈ rp_W0 := rp_t2 (i := 38) rfl rfl
theorem wd_279 : Cond.code yX6_isPeg prog_1_method_44_code 2 (some .boolean) ∈ rp_W0 := rp_t2 (i := 39) rfl rfl
theorem wd_280 : Cond.methodLink "RegretPegsLaw" 32 yX6_hang ∈ rp_W0 := rp_t2 (i := 40) rfl rfl
theorem wd_281 : Cond.instanceMethod yX6_hang ∈ rp_W0 := rp_t2 (i := 41) rfl rfl
theorem wd_282 : Cond.selects "RegretPegs" yX6_hang yX6_hang ∈ rp_W0 := rp_t2 (i := 42) rfl rfl
theorem wd_283 : Cond.code yX6_hang prog_1_method_6_code 3 (some .int) ∈ rp_W0 := rp_t2 (i := 43) rfl rfl
theorem wd_284 : Cond.methodLink "RegretPegs" 114 yX0_exchange ∈ rp_W0 := rp_t2 (i := 44) rfl rfl
theorem wd_285 : Cond.instanceMethod yX0_exchange ∈ rp_W0 := rp_t2 (i := 45) rfl rfl
theorem wd_286 : Cond.selects "RegretPegs$Ball" yX0_exchange yX0_exchange ∈ rp_W0 := rp_t2 (i := 46) rfl rfl
theorem wd_287 : Cond.code yX0_exchange prog_2_method_6_code 4 none ∈ rp_W0 := rp_t2 (i := 47) rfl rfl
theorem wd_288 : Cond.methodLink "RegretPegsLaw" 36 yX6_become ∈ rp_W0 := rp_t2 (i := 48) rfl rfl
theorem wd_289 : Cond.instanceMethod yX6_become ∈ rp_W0 := rp_t2 (i := 49) rfl rfl
theorem wd_290 : Cond.selects "RegretPegs" yX6_become yX6_become ∈ rp_W0 := rp_t2 (i := 50) rfl rfl
theorem wd_291 : Cond.code yX6_become prog_1_method_7_code 4 (some .int) ∈ rp_W0 := rp_t2 (i := 51) rfl rfl
theorem wd_292 : Cond.methodLink "RegretPegsLaw" 40 yX6_as ∈ rp_W0 := rp_t2 (i := 52) rfl rfl
theorem wd_293 : Cond.instanceMethod yX6_as ∈ rp_W0 := rp_t2 (i := 53) rfl rfl
theorem wd_294 : Cond.selects "RegretPegs" yX6_as yX6_as ∈ rp_W0 := rp_t2 (i := 54) rfl rfl
theorem wd_295 : Cond.code yX6_as prog_1_method_8_code 3 (some .int) ∈ rp_W0 := rp_t2 (i := 55) rfl rfl
theorem wd_296 : Cond.methodLink "RegretPegs" 118 yX6_isUnder ∈ rp_W0 := rp_t2 (i := 56) rfl rfl
theorem wd_297 : Cond.static yX6_isUnder ∈ rp_W0 := rp_t2 (i := 57) rfl rfl
theorem wd_298 : Cond.code yX6_isUnder prog_1_method_48_code 4 (some .boolean) ∈ rp_W0 := rp_t2 (i := 58) rfl rfl
theorem wd_299 : Cond.fieldLink "RegretPegs" 265 "RegretPegs" "ABOVE" "[I" ∈ rp_W0 := rp_t2 (i := 59) rfl rfl
theorem wd_301 : Cond.methodLink "RegretPegsLaw" 46 yX6_feed ∈ rp_W0 := rp_t2 (i := 61) rfl rfl
theorem wd_302 : Cond.instanceMethod yX6_feed ∈ rp_W0 := rp_t2 (i := 62) rfl rfl
theorem wd_303 : Cond.selects "RegretPegs" yX6_feed yX6_feed ∈ rp_W0 := rp_t2 (i := 63) rfl rfl
theorem wd_304 : Cond.code yX6_feed prog_1_method_9_code 5 (some .int) ∈ rp_W0 := rp_t2 (i := 64) rfl rfl
theorem wd_305 : Cond.methodLink "RegretPegsLaw" 51 yX6_text ∈ rp_W0 := rp_t2 (i := 65) rfl rfl
theorem wd_306 : Cond.instanceMethod yX6_text ∈ rp_W0 := rp_t2 (i := 66) rfl rfl
theorem wd_307 : Cond.selects "RegretPegs" yX6_text yX6_text ∈ rp_W0 := rp_t2 (i := 67) rfl rfl
theorem wd_308 : Cond.code yX6_text prog_1_method_10_code 3 (some .int) ∈ rp_W0 := rp_t2 (i := 68) rfl rfl
theorem wd_309 : Cond.methodLink "RegretPegs" 129 yX3_reads ∈ rp_W0 := rp_t2 (i := 69) rfl rfl
theorem wd_310 : Cond.instanceMethod yX3_reads ∈ rp_W0 := rp_t2 (i := 70) rfl rfl
theorem wd_311 : Cond.selects "RegretPegs$Reader" yX3_reads yX3_reads ∈ rp_W0 := rp_t2 (i := 71) rfl rfl
theorem wd_312 : Cond.code yX3_reads prog_5_method_2_code 4 (some .boolean) ∈ rp_W0 := rp_t2 (i := 72) rfl rfl
theorem wd_313 : Cond.methodLink "RegretPegs$Reader" 32 yJ9_min_7cf53 ∈ rp_W0 := rp_t2 (i := 73) rfl rfl
theorem wd_314 : Cond.static yJ9_min_7cf53 ∈ rp_W0 := rp_t2 (i := 74) rfl rfl
theorem wd_315 : Cond.code yJ9_min_7cf53 prog_10_method_69_code 2 (some .int) ∈ rp_W0 := rp_t2 (i := 75) rfl rfl
theorem wd_316 : Cond.methodLink "RegretPegs$Reader" 38 ⟨"java/lang/System", "arraycopy", "(Ljava/lang/Object;ILjava/lang/Object;II)V"⟩ ∈ rp_W0 := rp_t2 (i := 76) rfl rfl
theorem wd_317 : Cond.static ⟨"java/lang/System", "arraycopy", "(Ljava/lang/Object;ILjava/lang/Object;II)V"⟩ ∈ rp_W0 := rp_t2 (i := 77) rfl rfl
theorem wd_318 : Cond.native ⟨"java/lang/System", "arraycopy", "(Ljava/lang/Object;ILjava/lang/Object;II)V"⟩ ∈ rp_W0 := rp_t2 (i := 78) rfl rfl
theorem wd_319 : Cond.methodLink "RegretPegs$Reader" 44 yX3_readLevel ∈ rp_W0 := rp_t2 (i := 79) rfl rfl
theorem wd_321 : Cond.instanceMethod yX3_readLevel ∈ rp_W0 := rp_t2 (i := 81) rfl rfl
theorem wd_322 : Cond.code yX3_readLevel prog_5_method_5_code 6 (some .boolean) ∈ rp_W0 := rp_t2 (i := 82) rfl rfl
theorem wd_323 : Cond.methodLink "RegretPegs$Reader" 48 yX3_readQ ∈ rp_W0 := rp_t2 (i := 83) rfl rfl
theorem wd_325 : Cond.instanceMethod yX3_readQ ∈ rp_W0 := rp_t2 (i := 85) rfl rfl
theorem wd_326 : Cond.code yX3_readQ prog_5_method_7_code 4 (some .boolean) ∈ rp_W0 := rp_t2 (i := 86) rfl rfl
theorem wd_327 : Cond.methodLink "RegretPegs$Reader" 52 yX3_ahead ∈ rp_W0 := rp_t2 (i := 87) rfl rfl
theorem wd_329 : Cond.instanceMethod yX3_ahead ∈ rp_W0 := rp_t2 (i := 89) rfl rfl
theorem wd_330 : Cond.code yX3_ahead prog_5_method_3_code 1 (some .int) ∈ rp_W0 := rp_t2 (i := 90) rfl rfl
theorem wd_331 : Cond.methodLink "RegretPegs$Reader" 64 yX3_isDigit ∈ rp_W0 := rp_t2 (i := 91) rfl rfl
theorem wd_332 : Cond.static yX3_isDigit ∈ rp_W0 := rp_t2 (i := 92) rfl rfl
theorem wd_333 : Cond.code yX3_isDigit prog_5_method_11_code 1 (some .boolean) ∈ rp_W0 := rp_t2 (i := 93) rfl rfl
theorem wd_334 : Cond.methodLink "RegretPegs$Reader" 67 yX3_readNumber ∈ rp_W0 := rp_t2 (i := 94) rfl rfl
theorem wd_336 : Cond.instanceMethod yX3_readNumber ∈ rp_W0 := rp_t2 (i := 96) rfl rfl
theorem wd_337 : Cond.code yX3_readNumber prog_5_method_10_code 3 none ∈ rp_W0 := rp_t2 (i := 97) rfl rfl
theorem wd_338 : Cond.methodLink "RegretPegs$Reader" 60 yX3_emit ∈ rp_W0 := rp_t2 (i := 98) rfl rfl
theorem wd_340 : Cond.instanceMethod yX3_emit ∈ rp_W0 := rp_t2 (i := 100) rfl rfl
theorem wd_341 : Cond.code yX3_emit prog_5_method_4_code 2 none ∈ rp_W0 := rp_t2 (i := 101) rfl rfl
theorem wd_342 : Cond.methodLink "RegretPegs$Reader" 70 yX3_nameOf ∈ rp_W0 := rp_t2 (i := 102) rfl rfl
theorem wd_344 : Cond.instanceMethod yX3_nameOf ∈ rp_W0 := rp_t2 (i := 104) rfl rfl
theorem wd_345 : Cond.code yX3_nameOf prog_5_method_12_code 2 (some .int) ∈ rp_W0 := rp_t2 (i := 105) rfl rfl
theorem wd_346 : Cond.methodLink "RegretPegs$Reader" 73 yX3_readNot ∈ rp_W0 := rp_t2 (i := 106) rfl rfl
theorem wd_348 : Cond.instanceMethod yX3_readNot ∈ rp_W0 := rp_t2 (i := 108) rfl rfl
theorem wd_349 : Cond.code yX3_readNot prog_5_method_8_code 2 (some .boolean) ∈ rp_W0 := rp_t2 (i := 109) rfl rfl
theorem wd_350 : Cond.methodLink "RegretPegs$Reader" 76 yX3_readClosed ∈ rp_W0 := rp_t2 (i := 110) rfl rfl
theorem wd_352 : Cond.instanceMethod yX3_readClosed ∈ rp_W0 := rp_t2 (i := 112) rfl rfl
theorem wd_353 : Cond.code yX3_readClosed prog_5_method_9_code 2 (some .boolean) ∈ rp_W0 := rp_t2 (i := 113) rfl rfl
theorem wd_354 : Cond.methodLink "RegretPegs$Reader" 56 yX3_levelOf ∈ rp_W0 := rp_t2 (i := 114) rfl rfl
theorem wd_355 : Cond.static yX3_levelOf ∈ rp_W0 := rp_t2 (i := 115) rfl rfl
theorem wd_356 : Cond.code yX3_levelOf prog_5_method_6_code 1 (some .int) ∈ rp_W0 := rp_t2 (i := 116) rfl rfl
theorem wd_357 : Cond.methodLink "RegretPegs" 136 yX6_useLaw ∈ rp_W0 := rp_t2 (i := 117) rfl rfl
theorem wd_359 : Cond.instanceMethod yX6_useLaw ∈ rp_W0 := rp_t2 (i := 119) rfl rfl
theorem wd_360 : Cond.code yX6_useLaw prog_1_method_49_code 2 (Option.some (.object "RegretPegs$Law")) ∈ rp_W0 := rp_t2 (i := 120) rfl rfl
theorem wd_361 : Cond.methodLink "RegretPegs" 144 yX2_takeCode ∈ rp_W0 := rp_t2 (i := 121) rfl rfl
theorem wd_362 : Cond.instanceMethod yX2_takeCode ∈ rp_W0 := rp_t2 (i := 122) rfl rfl
theorem wd_363 : Cond.selects "RegretPegs$Law" yX2_takeCode yX2_takeCode ∈ rp_W0 := rp_t2 (i := 123) rfl rfl
theorem wd_364 : Cond.code yX2_takeCode prog_4_method_2_code 3 none ∈ rp_W0 := rp_t2 (i := 124) rfl rfl
theorem wd_365 : Cond.methodLink "RegretPegs$Law" 25 ⟨"java/lang/System", "arraycopy", "(Ljava/lang/Object;ILjava/lang/Object;II)V"⟩ ∈ rp_W0 := rp_t2 (i := 125) rfl rfl
theorem wd_366 : Cond.methodLink "RegretPegs$Law" 31 yJ9_min_7cf53 ∈ rp_W0 := rp_t2 (i := 126) rfl rfl
theorem wd_367 : Cond.methodLink "RegretPegsLaw" 55 yX6_law ∈ rp_W0 := rp_t2 (i := 127) rfl rfl
theorem wd_368 : Cond.instanceMethod yX6_law ∈ rp_W0 := rp_t2 (i := 128) rfl rfl
theorem wd_369 : Cond.selects "RegretPegs" yX6_law yX6_law ∈ rp_W0 := rp_t2 (i := 129) rfl rfl
theorem wd_370 : Cond.code yX6_law prog_1_method_11_code 5 (some .int) ∈ rp_W0 := rp_t2 (i := 130) rfl rfl
theorem wd_371 : Cond.methodLink "RegretPegs" 150 yX2_give ∈ rp_W0 := rp_t2 (i := 131) rfl rfl
theorem wd_372 : Cond.instanceMethod yX2_give ∈ rp_W0 := rp_t2 (i := 132) rfl rfl
theorem wd_373 : Cond.selects "RegretPegs$Law" yX2_give yX2_give ∈ rp_W0 := rp_t2 (i := 133) rfl rfl
theorem wd_374 : Cond.code yX2_give prog_4_method_3_code 4 (some .int) ∈ rp_W0 := rp_t2 (i := 134) rfl rfl
theorem wd_375 : Cond.methodLink "RegretPegs$Law" 37 yX2_work ∈ rp_W0 := rp_t2 (i := 135) rfl rfl
theorem wd_377 : Cond.instanceMethod yX2_work ∈ rp_W0 := rp_t2 (i := 137) rfl rfl
theorem wd_378 : Cond.code yX2_work prog_4_method_4_code 7 (some .int) ∈ rp_W0 := rp_t2 (i := 138) rfl rfl
theorem wd_379 : Cond.methodLink "RegretPegs$Law" 48 yX2_valueOf ∈ rp_W0 := rp_t2 (i := 139) rfl rfl
theorem wd_380 : Cond.static yX2_valueOf ∈ rp_W0 := rp_t2 (i := 140) rfl rfl
theorem wd_381 : Cond.code yX2_valueOf prog_4_method_5_code 4 (some .int) ∈ rp_W0 := rp_t2 (i := 141) rfl rfl
theorem wd_382 : Cond.methodLink "RegretPegs$Law" 52 yX2_join ∈ rp_W0 := rp_t2 (i := 142) rfl rfl
theorem wd_383 : Cond.static yX2_join ∈ rp_W0 := rp_t2 (i := 143) rfl rfl
theorem wd_384 : Cond.code yX2_join prog_4_method_6_code 3 (some .int) ∈ rp_W0 := rp_t2 (i := 144) rfl rfl
theorem wd_386 : Cond.static yX6_heldRue ∈ rp_W0 := rp_t2 (i := 146) rfl rfl
theorem wd_387 : Cond.code yX6_heldRue prog_1_method_54_code 1 (some .int) ∈ rp_W0 := rp_t2 (i := 147) rfl rfl
theorem wd_388 : Cond.methodLink "RegretPegs" 244 yJ9_min_7cf53 ∈ rp_W0 := rp_t2 (i := 148) rfl rfl
theorem wd_389 : Cond.methodLink "RegretPegs" 268 yJ9_max_7cf53 ∈ rp_W0 := rp_t2 (i := 149) rfl rfl
theorem wd_390 : Cond.static yJ9_max_7cf53 ∈ rp_W0 := rp_t2 (i := 150) rfl rfl
theorem wd_391 : Cond.code yJ9_max_7cf53 prog_10_method_65_code 2 (some .int) ∈ rp_W0 := rp_t2 (i := 151) rfl rfl
theorem wd_392 : Cond.methodLink "RegretPegs$Law" 45 yJ9_max_7cf53 ∈ rp_W0 := rp_t2 (i := 152) rfl rfl
theorem wd_393 : Cond.methodLink "RegretPegsLaw" 60 yX6_dance ∈ rp_W0 := rp_t2 (i := 153) rfl rfl
theorem wd_394 : Cond.instanceMethod yX6_dance ∈ rp_W0 := rp_t2 (i := 154) rfl rfl
theorem wd_395 : Cond.selects "RegretPegs" yX6_dance yX6_dance ∈ rp_W0 := rp_t2 (i := 155) rfl rfl
theorem wd_396 : Cond.code yX6_dance prog_1_method_12_code 3 (some .int) ∈ rp_W0 := rp_t2 (i := 156) rfl rfl
theorem wd_397 : Cond.methodLink "RegretPegs" 158 yX0_pairUp ∈ rp_W0 := rp_t2 (i := 157) rfl rfl
theorem wd_398 : Cond.instanceMethod yX0_pairUp ∈ rp_W0 := rp_t2 (i := 158) rfl rfl
theorem wd_399 : Cond.selects "RegretPegs$Ball" yX0_pairUp yX0_pairUp ∈ rp_W0 := rp_t2 (i := 159) rfl rfl
theorem wd_400 : Cond.code yX0_pairUp prog_2_method_8_code 5 none ∈ rp_W0 := rp_t2 (i := 160) rfl rfl
theorem wd_401 : Cond.methodLink "RegretPegs$Ball" 40 yX2_give ∈ rp_W0 := rp_t2 (i := 161) rfl rfl
theorem wd_402 : Cond.methodLink "RegretPegs$Ball" 46 yX0_noteDanced ∈ rp_W0 := rp_t2 (i := 162) rfl rfl
theorem wd_404 : Cond.instanceMethod yX0_noteDanced ∈ rp_W0 := rp_t2 (i := 164) rfl rfl
theorem wd_405 : Cond.code yX0_noteDanced prog_2_method_9_code 2 none ∈ rp_W0 := rp_t2 (i := 165) rfl rfl
theorem wd_406 : Cond.methodLink "RegretPegs$Ball" 50 yJ9_min_7cf53 ∈ rp_W0 := rp_t2 (i := 166) rfl rfl
theorem wd_407 : Cond.methodLink "RegretPegsLaw" 64 yX6_hours ∈ rp_W0 := rp_t2 (i := 167) rfl rfl
theorem wd_408 : Cond.instanceMethod yX6_hours ∈ rp_W0 := rp_t2 (i := 168) rfl rfl
theorem wd_409 : Cond.selects "RegretPegs" yX6_hours yX6_hours ∈ rp_W0 := rp_t2 (i := 169) rfl rfl
theorem wd_410 : Cond.code yX6_hours prog_1_method_13_code 2 (some .int) ∈ rp_W0 := rp_t2 (i := 170) rfl rfl
theorem wd_411 : Cond.methodLink "RegretPegs" 168 yX0_passHours ∈ rp_W0 := rp_t2 (i := 171) rfl rfl
theorem wd_412 : Cond.instanceMethod yX0_passHours ∈ rp_W0 := rp_t2 (i := 172) rfl rfl
theorem wd_413 : Cond.selects "RegretPegs$Ball" yX0_passHours yX0_passHours ∈ rp_W0 := rp_t2 (i := 173) rfl rfl
theorem wd_414 : Cond.code yX0_passHours prog_2_method_10_code 4 none ∈ rp_W0 := rp_t2 (i := 174) rfl rfl
theorem wd_415 : Cond.methodLink "RegretPegs$Ball" 56 yX0_growRue ∈ rp_W0 := rp_t2 (i := 175) rfl rfl
theorem wd_417 : Cond.instanceMethod yX0_growRue ∈ rp_W0 := rp_t2 (i := 177) rfl rfl
theorem wd_418 : Cond.code yX0_growRue prog_2_method_11_code 3 none ∈ rp_W0 := rp_t2 (i := 178) rfl rfl
theorem wd_419 : Cond.methodLink "RegretPegs$Ball" 63 yX0_growsOn ∈ rp_W0 := rp_t2 (i := 179) rfl rfl
theorem wd_421 : Cond.methodLink "RegretPegs$Ball" 59 yX0_shiftNeighbours ∈ rp_W0 := rp_t2 (i := 181) rfl rfl
theorem wd_423 : Cond.instanceMethod yX0_shiftNeighbours ∈ rp_W0 := rp_t2 (i := 183) rfl rfl
theorem wd_424 : Cond.code yX0_shiftNeighbours prog_2_method_12_code 5 none ∈ rp_W0 := rp_t2 (i := 184) rfl rfl
theorem wd_425 : Cond.methodLink "RegretPegs$Ball" 70 yX0_exchange ∈ rp_W0 := rp_t2 (i := 185) rfl rfl
theorem wd_426 : Cond.methodLink "RegretPegs" 172 yX0_rueTogether ∈ rp_W0 := rp_t2 (i := 186) rfl rfl
theorem wd_427 : Cond.instanceMethod yX0_rueTogether ∈ rp_W0 := rp_t2 (i := 187) rfl rfl
theorem wd_428 : Cond.selects "RegretPegs$Ball" yX0_rueTogether yX0_rueTogether ∈ rp_W0 := rp_t2 (i := 188) rfl rfl
theorem wd_429 : Cond.code yX0_rueTogether prog_2_method_14_code 3 (some .int) ∈ rp_W0 := rp_t2 (i := 189) rfl rfl
theorem wd_430 : Cond.methodLink "RegretPegsLaw" 68 yX6_loose ∈ rp_W0 := rp_t2 (i := 190) rfl rfl
theorem wd_431 : Cond.instanceMethod yX6_loose ∈ rp_W0 := rp_t2 (i := 191) rfl rfl
theorem wd_432 : Cond.selects "RegretPegs" yX6_loose yX6_loose ∈ rp_W0 := rp_t2 (i := 192) rfl rfl
theorem wd_433 : Cond.code yX6_loose prog_1_method_14_code 3 (some .int) ∈ rp_W0 := rp_t2 (i := 193) rfl rfl
theorem wd_434 : Cond.methodLink "RegretPegs" 176 yX1_holdBall ∈ rp_W0 := rp_t2 (i := 194) rfl rfl
theorem wd_435 : Cond.instanceMethod yX1_holdBall ∈ rp_W0 := rp_t2 (i := 195) rfl rfl
theorem wd_436 : Cond.selects "RegretPegs$Evening" yX1_holdBall yX1_holdBall ∈ rp_W0 := rp_t2 (i := 196) rfl rfl
theorem wd_437 : Cond.code yX1_holdBall prog_3_method_3_code 3 none ∈ rp_W0 := rp_t2 (i := 197) rfl rfl
theorem wd_438 : Cond.methodLink "RegretPegs$Evening" 72 yX1_draw ∈ rp_W0 := rp_t2 (i := 198) rfl rfl
theorem wd_440 : Cond.instanceMethod yX1_draw ∈ rp_W0 := rp_t2 (i := 200) rfl rfl
theorem wd_441 : Cond.code yX1_draw prog_3_method_4_code 1 (some .int) ∈ rp_W0 := rp_t2 (i := 201) rfl rfl
theorem wd_442 : Cond.constant "RegretPegs$Evening" 84 1103515245 ∈ rp_W0 := rp_t2 (i := 202) rfl rfl
theorem wd_443 : Cond.methodLink "RegretPegs$Evening" 76 yX0_pairUp ∈ rp_W0 := rp_t2 (i := 203) rfl rfl
theorem wd_444 : Cond.methodLink "RegretPegs$Evening" 80 yX0_passHours ∈ rp_W0 := rp_t2 (i := 204) rfl rfl
theorem wd_445 : Cond.methodLink "RegretPegsLaw" 72 yX6_then ∈ rp_W0 := rp_t2 (i := 205) rfl rfl
theorem wd_446 : Cond.instanceMethod yX6_then ∈ rp_W0 := rp_t2 (i := 206) rfl rfl
theorem wd_447 : Cond.selects "RegretPegs" yX6_then yX6_then ∈ rp_W0 := rp_t2 (i := 207) rfl rfl
theorem wd_448 : Cond.code yX6_then prog_1_method_15_code 4 (some .int) ∈ rp_W0 := rp_t2 (i := 208) rfl rfl
theorem wd_449 : Cond.methodLink "RegretPegs" 179 yX0_takeFrom ∈ rp_W0 := rp_t2 (i := 209) rfl rfl
theorem wd_450 : Cond.instanceMethod yX0_takeFrom ∈ rp_W0 := rp_t2 (i := 210) rfl rfl
theorem wd_451 : Cond.selects "RegretPegs$Ball" yX0_takeFrom yX0_takeFrom ∈ rp_W0 := rp_t2 (i := 211) rfl rfl
theorem wd_452 : Cond.code yX0_takeFrom prog_2_method_2_code 2 none ∈ rp_W0 := rp_t2 (i := 212) rfl rfl
theorem wd_453 : Cond.methodLink "RegretPegs$Ball" 34 ⟨"java/lang/System", "arraycopy", "(Ljava/lang/Object;ILjava/lang/Object;II)V"⟩ ∈ rp_W0 := rp_t2 (i := 213) rfl rfl
theorem wd_454 : Cond.methodLink "RegretPegsLaw" 76 yX6_last ∈ rp_W0 := rp_t2 (i := 214) rfl rfl
theorem wd_455 : Cond.instanceMethod yX6_last ∈ rp_W0 := rp_t2 (i := 215) rfl rfl
theorem wd_456 : Cond.selects "RegretPegs" yX6_last yX6_last ∈ rp_W0 := rp_t2 (i := 216) rfl rfl
theorem wd_457 : Cond.code yX6_last prog_1_method_16_code 3 (some .int) ∈ rp_W0 := rp_t2 (i := 217) rfl rfl
theorem wd_458 : Cond.methodLink "RegretPegs" 183 yX0_lastGuest ∈ rp_W0 := rp_t2 (i := 218) rfl rfl
theorem wd_459 : Cond.instanceMethod yX0_lastGuest ∈ rp_W0 := rp_t2 (i := 219) rfl rfl
theorem wd_460 : Cond.selects "RegretPegs$Ball" yX0_lastGuest yX0_lastGuest ∈ rp_W0 := rp_t2 (i := 220) rfl rfl
theorem wd_461 : Cond.code yX0_lastGuest prog_2_method_5_code 1 (some .int) ∈ rp_W0 := rp_t2 (i := 221) rfl rfl
theorem wd_462 : Cond.methodLink "RegretPegsLaw" 80 yX6_partner ∈ rp_W0 := rp_t2 (i := 222) rfl rfl
theorem wd_463 : Cond.instanceMethod yX6_partner ∈ rp_W0 := rp_t2 (i := 223) rfl rfl
theorem wd_464 : Cond.selects "RegretPegs" yX6_partner yX6_partner ∈ rp_W0 := rp_t2 (i := 224) rfl rfl
theorem wd_465 : Cond.code yX6_partner prog_1_method_17_code 8 (some .int) ∈ rp_W0 := rp_t2 (i := 225) rfl rfl
theorem wd_466 : Cond.methodLink "RegretPegs" 186 yX6_pegHavingDanced ∈ rp_W0 := rp_t2 (i := 226) rfl rfl
theorem wd_468 : Cond.instanceMethod yX6_pegHavingDanced ∈ rp_W0 := rp_t2 (i := 228) rfl rfl
theorem wd_469 : Cond.code yX6_pegHavingDanced prog_1_method_50_code 4 (some .int) ∈ rp_W0 := rp_t2 (i := 229) rfl rfl
theorem wd_470 : Cond.methodLink "RegretPegsLaw" 84 yX6_dances ∈ rp_W0 := rp_t2 (i := 230) rfl rfl
theorem wd_471 : Cond.instanceMethod yX6_dances ∈ rp_W0 := rp_t2 (i := 231) rfl rfl
theorem wd_472 : Cond.selects "RegretPegs" yX6_dances yX6_dances ∈ rp_W0 := rp_t2 (i := 232) rfl rfl
theorem wd_473 : Cond.code yX6_dances prog_1_method_18_code 6 (some .int) ∈ rp_W0 := rp_t2 (i := 233) rfl rfl
theorem wd_474 : Cond.methodLink "RegretPegs" 189 yX6_danceThatHelps ∈ rp_W0 := rp_t2 (i := 234) rfl rfl
theorem wd_476 : Cond.instanceMethod yX6_danceThatHelps ∈ rp_W0 := rp_t2 (i := 236) rfl rfl
theorem wd_477 : Cond.code yX6_danceThatHelps prog_1_method_51_code 7 (some .int) ∈ rp_W0 := rp_t2 (i := 237) rfl rfl
theorem wd_478 : Cond.methodLink "RegretPegs" 193 yX6_firstOfTwoThatHelp ∈ rp_W0 := rp_t2 (i := 238) rfl rfl
theorem wd_480 : Cond.instanceMethod yX6_firstOfTwoThatHelp ∈ rp_W0 := rp_t3 (i := 0) rfl rfl
theorem wd_481 : Cond.code yX6_firstOfTwoThatHelp prog_1_method_52_code 6 (some .int) ∈ rp_W0 := rp_t3 (i := 1) rfl rfl
theorem wd_482 : Cond.methodLink "RegretPegsLaw" 88 yX6_whoDanced ∈ rp_W0 := rp_t3 (i := 2) rfl rfl
theorem wd_483 : Cond.instanceMethod yX6_whoDanced ∈ rp_W0 := rp_t3 (i := 3) rfl rfl
theorem wd_484 : Cond.selects "RegretPegs" yX6_whoDanced yX6_whoDanced ∈ rp_W0 := rp_t3 (i := 4) rfl rfl
theorem wd_485 : Cond.code yX6_whoDanced prog_1_method_19_code 8 (some .int) ∈ rp_W0 := rp_t3 (i := 5) rfl rfl
theorem wd_486 : Cond.methodLink "RegretPegs" 196 yX6_isSheet ∈ rp_W0 := rp_t3 (i := 6) rfl rfl
theorem wd_487 : Cond.static yX6_isSheet ∈ rp_W0 := rp_t3 (i := 7) rfl rfl
theorem wd_488 : Cond.code yX6_isSheet prog_1_method_45_code 1 (some .boolean) ∈ rp_W0 := rp_t3 (i := 8) rfl rfl
theorem wd_489 : Cond.methodLink "RegretPegs" 203 yX4_tellsRueOf ∈ rp_W0 := rp_t3 (i := 9) rfl rfl
theorem wd_490 : Cond.instanceMethod yX4_tellsRueOf ∈ rp_W0 := rp_t3 (i := 10) rfl rfl
theorem wd_491 : Cond.selects "RegretPegs$Sheet" yX4_tellsRueOf yX4_tellsRueOf ∈ rp_W0 := rp_t3 (i := 11) rfl rfl
theorem wd_492 : Cond.code yX4_tellsRueOf prog_6_method_5_code 3 (some .boolean) ∈ rp_W0 := rp_t3 (i := 12) rfl rfl
theorem wd_493 : Cond.methodLink "RegretPegsLaw" 92 yX6_inOrder ∈ rp_W0 := rp_t3 (i := 13) rfl rfl
theorem wd_494 : Cond.instanceMethod yX6_inOrder ∈ rp_W0 := rp_t3 (i := 14) rfl rfl
theorem wd_495 : Cond.selects "RegretPegs" yX6_inOrder yX6_inOrder ∈ rp_W0 := rp_t3 (i := 15) rfl rfl
theorem wd_496 : Cond.code yX6_inOrder prog_1_method_20_code 2 (some .int) ∈ rp_W0 := rp_t3 (i := 16) rfl rfl
theorem wd_497 : Cond.methodLink "RegretPegs" 207 yX0_wrongPairs ∈ rp_W0 := rp_t3 (i := 17) rfl rfl
theorem wd_498 : Cond.instanceMethod yX0_wrongPairs ∈ rp_W0 := rp_t3 (i := 18) rfl rfl
theorem wd_499 : Cond.selects "RegretPegs$Ball" yX0_wrongPairs yX0_wrongPairs ∈ rp_W0 := rp_t3 (i := 19) rfl rfl
theorem wd_500 : Cond.code yX0_wrongPairs prog_2_method_13_code 4 (some .int) ∈ rp_W0 := rp_t3 (i := 20) rfl rfl
theorem wd_501 : Cond.methodLink "RegretPegsLaw" 97 yX6_wrongs ∈ rp_W0 := rp_t3 (i := 21) rfl rfl
theorem wd_502 : Cond.instanceMethod yX6_wrongs ∈ rp_W0 := rp_t3 (i := 22) rfl rfl
theorem wd_503 : Cond.selects "RegretPegs" yX6_wrongs yX6_wrongs ∈ rp_W0 := rp_t3 (i := 23) rfl rfl
theorem wd_504 : Cond.code yX6_wrongs prog_1_method_21_code 1 (some .int) ∈ rp_W0 := rp_t3 (i := 24) rfl rfl
theorem wd_505 : Cond.methodLink "RegretPegsLaw" 101 yX6_swap ∈ rp_W0 := rp_t3 (i := 25) rfl rfl
theorem wd_506 : Cond.instanceMethod yX6_swap ∈ rp_W0 := rp_t3 (i := 26) rfl rfl
theorem wd_507 : Cond.selects "RegretPegs" yX6_swap yX6_swap ∈ rp_W0 := rp_t3 (i := 27) rfl rfl
theorem wd_508 : Cond.code yX6_swap prog_1_method_22_code 6 (some .int) ∈ rp_W0 := rp_t3 (i := 28) rfl rfl
theorem wd_509 : Cond.methodLink "RegretPegsLaw" 105 yX6_go ∈ rp_W0 := rp_t3 (i := 29) rfl rfl
theorem wd_510 : Cond.instanceMethod yX6_go ∈ rp_W0 := rp_t3 (i := 30) rfl rfl
theorem wd_511 : Cond.selects "RegretPegs" yX6_go yX6_go ∈ rp_W0 := rp_t3 (i := 31) rfl rfl
theorem wd_512 : Cond.code yX6_go prog_1_method_23_code 7 (some .int) ∈ rp_W0 := rp_t3 (i := 32) rfl rfl
theorem wd_513 : Cond.methodLink "RegretPegsLaw" 109 yX6_allRue ∈ rp_W0 := rp_t3 (i := 33) rfl rfl
theorem wd_514 : Cond.instanceMethod yX6_allRue ∈ rp_W0 := rp_t3 (i := 34) rfl rfl
theorem wd_515 : Cond.selects "RegretPegs" yX6_allRue yX6_allRue ∈ rp_W0 := rp_t3 (i := 35) rfl rfl
theorem wd_516 : Cond.code yX6_allRue prog_1_method_24_code 2 (some .int) ∈ rp_W0 := rp_t3 (i := 36) rfl rfl
theorem wd_517 : Cond.methodLink "RegretPegsLaw" 113 yX6_sorriest ∈ rp_W0 := rp_t3 (i := 37) rfl rfl
theorem wd_518 : Cond.instanceMethod yX6_sorriest ∈ rp_W0 := rp_t3 (i := 38) rfl rfl
theorem wd_519 : Cond.selects "RegretPegs" yX6_sorriest yX6_sorriest ∈ rp_W0 := rp_t3 (i := 39) rfl rfl
theorem wd_520 : Cond.code yX6_sorriest prog_1_method_25_code 5 (some .int) ∈ rp_W0 := rp_t3 (i := 40) rfl rfl
theorem wd_521 : Cond.methodLink "RegretPegsLaw" 117 yX6_odds ∈ rp_W0 := rp_t3 (i := 41) rfl rfl
theorem wd_522 : Cond.instanceMethod yX6_odds ∈ rp_W0 := rp_t3 (i := 42) rfl rfl
theorem wd_523 : Cond.selects "RegretPegs" yX6_odds yX6_odds ∈ rp_W0 := rp_t3 (i := 43) rfl rfl
theorem wd_524 : Cond.code yX6_odds prog_1_method_26_code 8 (some .int) ∈ rp_W0 := rp_t3 (i := 44) rfl rfl
theorem wd_525 : Cond.methodLink "RegretPegs" 210 yX6_greatestCommon ∈ rp_W0 := rp_t3 (i := 45) rfl rfl
theorem wd_526 : Cond.static yX6_greatestCommon ∈ rp_W0 := rp_t3 (i := 46) rfl rfl
theorem wd_527 : Cond.code yX6_greatestCommon prog_1_method_53_code 3 (some .int) ∈ rp_W0 := rp_t3 (i := 47) rfl rfl
theorem wd_528 : Cond.methodLink "RegretPegsLaw" 121 yX6_seed ∈ rp_W0 := rp_t3 (i := 48) rfl rfl
theorem wd_529 : Cond.instanceMethod yX6_seed ∈ rp_W0 := rp_t3 (i := 49) rfl rfl
theorem wd_530 : Cond.selects "RegretPegs" yX6_seed yX6_seed ∈ rp_W0 := rp_t3 (i := 50) rfl rfl
theorem wd_531 : Cond.code yX6_seed prog_1_method_27_code 3 (some .int) ∈ rp_W0 := rp_t3 (i := 51) rfl rfl
theorem wd_532 : Cond.methodLink "RegretPegsLaw" 125 yX6_voice ∈ rp_W0 := rp_t3 (i := 52) rfl rfl
theorem wd_533 : Cond.instanceMethod yX6_voice ∈ rp_W0 := rp_t3 (i := 53) rfl rfl
theorem wd_534 : Cond.selects "RegretPegs" yX6_voice yX6_voice ∈ rp_W0 := rp_t3 (i := 54) rfl rfl
theorem wd_535 : Cond.code yX6_voice prog_1_method_28_code 4 (some .int) ∈ rp_W0 := rp_t3 (i := 55) rfl rfl
theorem wd_536 : Cond.methodLink "RegretPegs" 216 yX5_hear ∈ rp_W0 := rp_t3 (i := 56) rfl rfl
theorem wd_537 : Cond.instanceMethod yX5_hear ∈ rp_W0 := rp_t3 (i := 57) rfl rfl
theorem wd_538 : Cond.selects "RegretPegs$Voices" yX5_hear yX5_hear ∈ rp_W0 := rp_t3 (i := 58) rfl rfl
theorem wd_539 : Cond.code yX5_hear prog_7_method_2_code 6 (some .int) ∈ rp_W0 := rp_t3 (i := 59) rfl rfl
theorem wd_540 : Cond.methodLink "RegretPegs$Voices" 28 yX5_speak ∈ rp_W0 := rp_t3 (i := 60) rfl rfl
theorem wd_542 : Cond.instanceMethod yX5_speak ∈ rp_W0 := rp_t3 (i := 62) rfl rfl
theorem wd_543 : Cond.code yX5_speak prog_7_method_3_code 8 (some .int) ∈ rp_W0 := rp_t3 (i := 63) rfl rfl
theorem wd_546 : Cond.methodLink "RegretPegs$Voices" 35 yX5_note ∈ rp_W0 := rp_t3 (i := 66) rfl rfl
theorem wd_548 : Cond.instanceMethod yX5_note ∈ rp_W0 := rp_t3 (i := 68) rfl rfl
theorem wd_549 : Cond.code yX5_note prog_7_method_4_code 2 none ∈ rp_W0 := rp_t3 (i := 69) rfl rfl
theorem wd_551 : Cond.methodLink "RegretPegs$Voices" 42 yX5_answer ∈ rp_W0 := rp_t3 (i := 71) rfl rfl
theorem wd_553 : Cond.instanceMethod yX5_answer ∈ rp_W0 := rp_t3 (i := 73) rfl rfl
theorem wd_554 : Cond.code yX5_answer prog_7_method_5_code 5 (some .int) ∈ rp_W0 := rp_t3 (i := 74) rfl rfl
theorem wd_555 : Cond.methodLink "RegretPegsLaw" 129 yX6_trace ∈ rp_W0 := rp_t3 (i := 75) rfl rfl
theorem wd_556 : Cond.instanceMethod yX6_trace ∈ rp_W0 := rp_t3 (i := 76) rfl rfl
theorem wd_557 : Cond.selects "RegretPegs" yX6_trace yX6_trace ∈ rp_W0 := rp_t3 (i := 77) rfl rfl
theorem wd_558 : Cond.code yX6_trace prog_1_method_29_code 2 (some .int) ∈ rp_W0 := rp_t3 (i := 78) rfl rfl
theorem wd_559 : Cond.methodLink "RegretPegsLaw" 133 yX6_sheet ∈ rp_W0 := rp_t3 (i := 79) rfl rfl
theorem wd_560 : Cond.instanceMethod yX6_sheet ∈ rp_W0 := rp_t3 (i := 80) rfl rfl
theorem wd_561 : Cond.selects "RegretPegs" yX6_sheet yX6_sheet ∈ rp_W0 := rp_t3 (i := 81) rfl rfl
theorem wd_562 : Cond.code yX6_sheet prog_1_method_30_code 4 (some .int) ∈ rp_W0 := rp_t3 (i := 82) rfl rfl
theorem wd_563 : Cond.methodLink "RegretPegs" 226 yX4_lay ∈ rp_W0 := rp_t3 (i := 83) rfl rfl
theorem wd_564 : Cond.instanceMethod yX4_lay ∈ rp_W0 := rp_t3 (i := 84) rfl rfl
theorem wd_565 : Cond.selects "RegretPegs$Sheet" yX4_lay yX4_lay ∈ rp_W0 := rp_t3 (i := 85) rfl rfl
theorem wd_566 : Cond.code yX4_lay prog_6_method_2_code 4 none ∈ rp_W0 := rp_t3 (i := 86) rfl rfl
theorem wd_567 : Cond.methodLink "RegretPegsLaw" 137 yX6_put ∈ rp_W0 := rp_t3 (i := 87) rfl rfl
theorem wd_568 : Cond.instanceMethod yX6_put ∈ rp_W0 := rp_t3 (i := 88) rfl rfl
theorem wd_569 : Cond.selects "RegretPegs" yX6_put yX6_put ∈ rp_W0 := rp_t3 (i := 89) rfl rfl
theorem wd_570 : Cond.code yX6_put prog_1_method_31_code 4 (some .int) ∈ rp_W0 := rp_t3 (i := 90) rfl rfl
theorem wd_571 : Cond.methodLink "RegretPegs" 229 yX4_write ∈ rp_W0 := rp_t3 (i := 91) rfl rfl
theorem wd_572 : Cond.instanceMethod yX4_write ∈ rp_W0 := rp_t3 (i := 92) rfl rfl
theorem wd_573 : Cond.selects "RegretPegs$Sheet" yX4_write yX4_write ∈ rp_W0 := rp_t3 (i := 93) rfl rfl
theorem wd_574 : Cond.code yX4_write prog_6_method_3_code 3 none ∈ rp_W0 := rp_t3 (i := 94) rfl rfl
theorem wd_575 : Cond.methodLink "RegretPegsLaw" 141 yX6_move ∈ rp_W0 := rp_t3 (i := 95) rfl rfl
theorem wd_576 : Cond.instanceMethod yX6_move ∈ rp_W0 := rp_t3 (i := 96) rfl rfl
theorem wd_577 : Cond.selects "RegretPegs" yX6_move yX6_move ∈ rp_W0 := rp_t3 (i := 97) rfl rfl
theorem wd_578 : Cond.code yX6_move prog_1_method_32_code 8 (some .int) ∈ rp_W0 := rp_t3 (i := 98) rfl rfl
theorem wd_579 : Cond.methodLink "RegretPegs" 232 yX4_hasStretch ∈ rp_W0 := rp_t3 (i := 99) rfl rfl
theorem wd_580 : Cond.instanceMethod yX4_hasStretch ∈ rp_W0 := rp_t3 (i := 100) rfl rfl
theorem wd_581 : Cond.selects "RegretPegs$Sheet" yX4_hasStretch yX4_hasStretch ∈ rp_W0 := rp_t3 (i := 101) rfl rfl
theorem wd_582 : Cond.code yX4_hasStretch prog_6_method_4_code 3 (some .boolean) ∈ rp_W0 := rp_t3 (i := 102) rfl rfl
theorem wd_583 : Cond.methodLink "RegretPegs" 238 ⟨"java/lang/System", "arraycopy", "(Ljava/lang/Object;ILjava/lang/Object;II)V"⟩ ∈ rp_W0 := rp_t3 (i := 103) rfl rfl
theorem wd_584 : Cond.methodLink "RegretPegsLaw" 146 yX6_rues ∈ rp_W0 := rp_t3 (i := 104) rfl rfl
theorem wd_585 : Cond.instanceMethod yX6_rues ∈ rp_W0 := rp_t3 (i := 105) rfl rfl
theorem wd_586 : Cond.selects "RegretPegs" yX6_rues yX6_rues ∈ rp_W0 := rp_t3 (i := 106) rfl rfl
theorem wd_587 : Cond.code yX6_rues prog_1_method_33_code 5 (some .int) ∈ rp_W0 := rp_t3 (i := 107) rfl rfl
theorem wd_588 : Cond.methodLink "RegretPegsLaw" 150 yX6_judge ∈ rp_W0 := rp_t3 (i := 108) rfl rfl
theorem wd_589 : Cond.instanceMethod yX6_judge ∈ rp_W0 := rp_t3 (i := 109) rfl rfl
theorem wd_590 : Cond.selects "RegretPegs" yX6_judge yX6_judge ∈ rp_W0 := rp_t3 (i := 110) rfl rfl
theorem wd_591 : Cond.code yX6_judge prog_1_method_34_code 5 (some .int) ∈ rp_W0 := rp_t3 (i := 111) rfl rfl
theorem wd_592 : Cond.methodLink "RegretPegsLaw" 154 yX6_image ∈ rp_W0 := rp_t3 (i := 112) rfl rfl
theorem wd_593 : Cond.instanceMethod yX6_image ∈ rp_W0 := rp_t3 (i := 113) rfl rfl
theorem wd_594 : Cond.selects "RegretPegs" yX6_image yX6_image ∈ rp_W0 := rp_t3 (i := 114) rfl rfl
theorem wd_595 : Cond.code yX6_image prog_1_method_35_code 1 (some .int) ∈ rp_W0 := rp_t3 (i := 115) rfl rfl
theorem wd_596 : Cond.methodLink "RegretPegs" 249 yX1_takeFrom ∈ rp_W0 := rp_t3 (i := 116) rfl rfl
theorem wd_597 : Cond.instanceMethod yX1_takeFrom ∈ rp_W0 := rp_t3 (i := 117) rfl rfl
theorem wd_598 : Cond.selects "RegretPegs$Evening" yX1_takeFrom yX1_takeFrom ∈ rp_W0 := rp_t3 (i := 118) rfl rfl
theorem wd_599 : Cond.code yX1_takeFrom prog_3_method_2_code 2 none ∈ rp_W0 := rp_t3 (i := 119) rfl rfl
theorem wd_600 : Cond.methodLink "RegretPegs$Evening" 51 yX0_takeFrom ∈ rp_W0 := rp_t3 (i := 120) rfl rfl
theorem wd_601 : Cond.methodLink "RegretPegs$Evening" 61 yX2_takeCode ∈ rp_W0 := rp_t3 (i := 121) rfl rfl
theorem wd_602 : Cond.methodLink "RegretPegs$Evening" 65 ⟨"java/lang/System", "arraycopy", "(Ljava/lang/Object;ILjava/lang/Object;II)V"⟩ ∈ rp_W0 := rp_t3 (i := 122) rfl rfl
theorem wd_603 : Cond.methodLink "RegretPegsLaw" 158 yX6_restore ∈ rp_W0 := rp_t3 (i := 123) rfl rfl
theorem wd_604 : Cond.instanceMethod yX6_restore ∈ rp_W0 := rp_t3 (i := 124) rfl rfl
theorem wd_605 : Cond.selects "RegretPegs" yX6_restore yX6_restore ∈ rp_W0 := rp_t3 (i := 125) rfl rfl
theorem wd_606 : Cond.code yX6_restore prog_1_method_36_code 1 (some .int) ∈ rp_W0 := rp_t3 (i := 126) rfl rfl
theorem wd_607 : Cond.methodLink "RegretPegsLaw" 162 yX6_tell ∈ rp_W0 := rp_t3 (i := 127) rfl rfl
theorem wd_608 : Cond.instanceMethod yX6_tell ∈ rp_W0 := rp_t3 (i := 128) rfl rfl
theorem wd_609 : Cond.selects "RegretPegs" yX6_tell yX6_tell ∈ rp_W0 := rp_t3 (i := 129) rfl rfl
theorem wd_610 : Cond.code yX6_tell prog_1_method_37_code 2 (some .int) ∈ rp_W0 := rp_t3 (i := 130) rfl rfl
theorem wd_611 : Cond.methodLink "RegretPegsLaw" 166 yX6_check ∈ rp_W0 := rp_t3 (i := 131) rfl rfl
theorem wd_612 : Cond.instanceMethod yX6_check ∈ rp_W0 := rp_t3 (i := 132) rfl rfl
theorem wd_613 : Cond.selects "RegretPegs" yX6_check yX6_check ∈ rp_W0 := rp_t3 (i := 133) rfl rfl
theorem wd_614 : Cond.code yX6_check prog_1_method_38_code 3 (some .int) ∈ rp_W0 := rp_t3 (i := 134) rfl rfl
theorem wd_615 : Cond.methodLink "RegretPegsLaw" 170 yX6_count ∈ rp_W0 := rp_t3 (i := 135) rfl rfl
theorem wd_616 : Cond.instanceMethod yX6_count ∈ rp_W0 := rp_t3 (i := 136) rfl rfl
theorem wd_617 : Cond.selects "RegretPegs" yX6_count yX6_count ∈ rp_W0 := rp_t3 (i := 137) rfl rfl
theorem wd_618 : Cond.code yX6_count prog_1_method_39_code 2 (some .int) ∈ rp_W0 := rp_t3 (i := 138) rfl rfl
theorem wd_619 : Cond.methodLink "RegretPegs" 258 yX0_dancedTogether ∈ rp_W0 := rp_t3 (i := 139) rfl rfl
theorem wd_620 : Cond.instanceMethod yX0_dancedTogether ∈ rp_W0 := rp_t3 (i := 140) rfl rfl
theorem wd_621 : Cond.selects "RegretPegs$Ball" yX0_dancedTogether yX0_dancedTogether ∈ rp_W0 := rp_t3 (i := 141) rfl rfl
theorem wd_622 : Cond.code yX0_dancedTogether prog_2_method_15_code 3 (some .int) ∈ rp_W0 := rp_t3 (i := 142) rfl rfl
theorem wd_623 : Cond.methodLink "RegretPegs" 261 yX0_idleSet ∈ rp_W0 := rp_t3 (i := 143) rfl rfl
theorem wd_624 : Cond.instanceMethod yX0_idleSet ∈ rp_W0 := rp_t3 (i := 144) rfl rfl
theorem wd_625 : Cond.selects "RegretPegs$Ball" yX0_idleSet yX0_idleSet ∈ rp_W0 := rp_t3 (i := 145) rfl rfl
theorem wd_626 : Cond.code yX0_idleSet prog_2_method_16_code 3 (some .int) ∈ rp_W0 := rp_t3 (i := 146) rfl rfl
theorem wd_627 : Cond.methodLink "RegretPegsLaw" 174 yX6_told ∈ rp_W0 := rp_t3 (i := 147) rfl rfl
theorem wd_628 : Cond.instanceMethod yX6_told ∈ rp_W0 := rp_t3 (i := 148) rfl rfl
theorem wd_629 : Cond.selects "RegretPegs" yX6_told yX6_told ∈ rp_W0 := rp_t3 (i := 149) rfl rfl
theorem wd_630 : Cond.code yX6_told prog_1_method_40_code 2 (some .int) ∈ rp_W0 := rp_t3 (i := 150) rfl rfl
theorem wd_631 : Cond.classLink "RegretPegsLaw" 10 "RegretPegsModel" ∈ rp_W0 := rp_t3 (i := 151) rfl rfl
theorem wd_632 : Cond.instantiable "RegretPegsModel" 24 ∈ rp_W0 := rp_t3 (i := 152) rfl rfl
theorem wd_633 : Cond.methodLink "RegretPegsLaw" 12 yX7_init ∈ rp_W0 := rp_t3 (i := 153) rfl rfl
theorem wd_634 : Cond.instanceMethod yX7_init ∈ rp_W0 := rp_t3 (i := 154) rfl rfl
theorem wd_635 : Cond.code yX7_init prog_9_method_1_code 1 none ∈ rp_W0 := rp_t3 (i := 155) rfl rfl
theorem wd_636 : Cond.methodLink "RegretPegsModel" 3 ⟨"java/lang/Object", "<init>", "()V"⟩ ∈ rp_W0 := rp_t3 (i := 156) rfl rfl
theorem wd_637 : Cond.classLink "RegretPegsModel" 25 "java/lang/String" ∈ rp_W0 := rp_t3 (i := 157) rfl rfl
theorem wd_641 : Cond.fieldLink "RegretPegsModel" 9 "RegretPegsModel" "now" "[I" ∈ rp_W0 := rp_t3 (i := 161) rfl rfl
theorem wd_642 : Cond.fieldLink "RegretPegsModel" 13 "RegretPegsModel" "kept" "[I" ∈ rp_W0 := rp_t3 (i := 162) rfl rfl
theorem wd_643 : Cond.fieldLink "RegretPegsModel" 16 "RegretPegsModel" "aside" "[I" ∈ rp_W0 := rp_t3 (i := 163) rfl rfl
theorem wd_644 : Cond.fieldLink "RegretPegsModel" 293 "RegretPegsModel" "images" "I" ∈ rp_W0 := rp_t3 (i := 164) rfl rfl
theorem wd_645 : Cond.fieldLink "RegretPegsModel" 19 "RegretPegsModel" "errors" "[I" ∈ rp_W0 := rp_t3 (i := 165) rfl rfl
theorem wd_646 : Cond.fieldLink "RegretPegsModel" 22 "RegretPegsModel" "growing" "[I" ∈ rp_W0 := rp_t3 (i := 166) rfl rfl
theorem wd_647 : Cond.fieldLink "RegretPegsModel" 31 "RegretPegsModel" "NAMED" "[Ljava/lang/String;" ∈ rp_W0 := rp_t3 (i := 167) rfl rfl
theorem wd_648 : Cond.fieldLink "RegretPegsModel" 89 "RegretPegsModel" "at" "I" ∈ rp_W0 := rp_t3 (i := 168) rfl rfl
theorem wd_649 : Cond.fieldLink "RegretPegsModel" 133 "RegretPegsModel" "open" "I" ∈ rp_W0 := rp_t3 (i := 169) rfl rfl
theorem wd_650 : Cond.fieldLink "RegretPegsModel" 123 "RegretPegsModel" "use" "I" ∈ rp_W0 := rp_t3 (i := 170) rfl rfl
theorem wd_651 : Cond.fieldLink "RegretPegsModel" 85 "RegretPegsModel" "isWrong" "Z" ∈ rp_W0 := rp_t3 (i := 171) rfl rfl
theorem wd_652 : Cond.fieldLink "RegretPegsModel" 35 "RegretPegsModel" "code" "[I" ∈ rp_W0 := rp_t3 (i := 172) rfl rfl
theorem wd_653 : Cond.fieldLink "RegretPegsModel" 97 "RegretPegsModel" "coded" "I" ∈ rp_W0 := rp_t3 (i := 173) rfl rfl
theorem wd_654 : Cond.fieldLink "RegretPegsModel" 38 "RegretPegsModel" "named" "[I" ∈ rp_W0 := rp_t3 (i := 174) rfl rfl
theorem wd_655 : Cond.fieldLink "RegretPegsModel" 41 "RegretPegsModel" "pile" "[I" ∈ rp_W0 := rp_t3 (i := 175) rfl rfl
theorem wd_656 : Cond.fieldLink "RegretPegsModel" 44 "RegretPegsModel" "trace" "[I" ∈ rp_W0 := rp_t3 (i := 176) rfl rfl
theorem wd_657 : Cond.fieldLink "RegretPegsModel" 263 "RegretPegsModel" "traced" "I" ∈ rp_W0 := rp_t3 (i := 177) rfl rfl
theorem wd_658 : Cond.fieldLink "RegretPegsModel" 266 "RegretPegsModel" "kind" "I" ∈ rp_W0 := rp_t3 (i := 178) rfl rfl
theorem wd_659 : Cond.fieldLink "RegretPegsModel" 272 "RegretPegsModel" "number" "I" ∈ rp_W0 := rp_t3 (i := 179) rfl rfl
theorem wd_660 : Cond.fieldLink "RegretPegsModel" 281 "RegretPegsModel" "told" "I" ∈ rp_W0 := rp_t3 (i := 180) rfl rfl
theorem wd_661 : Cond.fieldLink "RegretPegsModel" 47 "RegretPegsModel" "widths" "[I" ∈ rp_W0 := rp_t3 (i := 181) rfl rfl
theorem wd_662 : Cond.fieldLink "RegretPegsModel" 50 "RegretPegsModel" "sizes" "[I" ∈ rp_W0 := rp_t3 (i := 182) rfl rfl
theorem wd_663 : Cond.fieldLink "RegretPegsModel" 53 "RegretPegsModel" "numbers" "[I" ∈ rp_W0 := rp_t3 (i := 183) rfl rfl
theorem wd_664 : Cond.fieldLink "RegretPegsModel" 56 "RegretPegsModel" "carried" "[I" ∈ rp_W0 := rp_t3 (i := 184) rfl rfl
theorem wd_665 : Cond.laysFinal "RegretPegsModel" "RegretPegsModel" "now" "[I" ∈ rp_W0 := rp_t3 (i := 185) rfl rfl
theorem wd_667 : Cond.laysFinal "RegretPegsModel" "RegretPegsModel" "kept" "[I" ∈ rp_W0 := rp_t3 (i := 187) rfl rfl
theorem wd_669 : Cond.laysFinal "RegretPegsModel" "RegretPegsModel" "aside" "[I" ∈ rp_W0 := rp_t3 (i := 189) rfl rfl
theorem wd_671 : Cond.lays "RegretPegsModel" "RegretPegsModel" "images" "I" ∈ rp_W0 := rp_t3 (i := 191) rfl rfl
theorem wd_673 : Cond.laysFinal "RegretPegsModel" "RegretPegsModel" "errors" "[I" ∈ rp_W0 := rp_t3 (i := 193) rfl rfl
theorem wd_675 : Cond.laysFinal "RegretPegsModel" "RegretPegsModel" "growing" "[I" ∈ rp_W0 := rp_t3 (i := 195) rfl rfl
theorem wd_677 : Cond.laysFinal "RegretPegsModel" "RegretPegsModel" "NAMED" "[Ljava/lang/String;" ∈ rp_W0 := rp_t3 (i := 197) rfl rfl
theorem wd_679 : Cond.lays "RegretPegsModel" "RegretPegsModel" "at" "I" ∈ rp_W0 := rp_t3 (i := 199) rfl rfl
theorem wd_681 : Cond.lays "RegretPegsModel" "RegretPegsModel" "open" "I" ∈ rp_W0 := rp_t3 (i := 201) rfl rfl
theorem wd_683 : Cond.lays "RegretPegsModel" "RegretPegsModel" "use" "I" ∈ rp_W0 := rp_t3 (i := 203) rfl rfl
theorem wd_685 : Cond.lays "RegretPegsModel" "RegretPegsModel" "isWrong" "Z" ∈ rp_W0 := rp_t3 (i := 205) rfl rfl
theorem wd_687 : Cond.laysFinal "RegretPegsModel" "RegretPegsModel" "code" "[I" ∈ rp_W0 := rp_t3 (i := 207) rfl rfl
theorem wd_689 : Cond.lays "RegretPegsModel" "RegretPegsModel" "coded" "I" ∈ rp_W0 := rp_t3 (i := 209) rfl rfl
theorem wd_691 : Cond.laysFinal "RegretPegsModel" "RegretPegsModel" "named" "[I" ∈ rp_W0 := rp_t3 (i := 211) rfl rfl
theorem wd_693 : Cond.laysFinal "RegretPegsModel" "RegretPegsModel" "pile" "[I" ∈ rp_W0 := rp_t3 (i := 213) rfl rfl
theorem wd_695 : Cond.laysFinal "RegretPegsModel" "RegretPegsModel" "trace" "[I" ∈ rp_W0 := rp_t3 (i := 215) rfl rfl
theorem wd_697 : Cond.lays "RegretPegsModel" "RegretPegsModel" "traced" "I" ∈ rp_W0 := rp_t3 (i := 217) rfl rfl
theorem wd_699 : Cond.lays "RegretPegsModel" "RegretPegsModel" "kind" "I" ∈ rp_W0 := rp_t3 (i := 219) rfl rfl
theorem wd_701 : Cond.lays "RegretPegsModel" "RegretPegsModel" "number" "I" ∈ rp_W0 := rp_t3 (i := 221) rfl rfl
theorem wd_703 : Cond.lays "RegretPegsModel" "RegretPegsModel" "told" "I" ∈ rp_W0 := rp_t3 (i := 223) rfl rfl
theorem wd_705 : Cond.laysFinal "RegretPegsModel" "RegretPegsModel" "widths" "[I" ∈ rp_W0 := rp_t3 (i := 225) rfl rfl
theorem wd_707 : Cond.laysFinal "RegretPegsModel" "RegretPegsModel" "sizes" "[I" ∈ rp_W0 := rp_t3 (i := 227) rfl rfl
theorem wd_709 : Cond.laysFinal "RegretPegsModel" "RegretPegsModel" "numbers" "[I" ∈ rp_W0 := rp_t3 (i := 229) rfl rfl
theorem wd_711 : Cond.laysFinal "RegretPegsModel" "RegretPegsModel" "carried" "[I" ∈ rp_W0 := rp_t3 (i := 231) rfl rfl
theorem wd_714 : Cond.methodLink "RegretPegsLaw" 50 yX7_feed ∈ rp_W0 := rp_t3 (i := 234) rfl rfl
theorem wd_715 : Cond.instanceMethod yX7_feed ∈ rp_W0 := rp_t3 (i := 235) rfl rfl
theorem wd_716 : Cond.selects "RegretPegsModel" yX7_feed yX7_feed ∈ rp_W0 := rp_t3 (i := 236) rfl rfl
theorem wd_717 : Cond.code yX7_feed prog_9_method_8_code 5 (some .int) ∈ rp_W0 := rp_t3 (i := 237) rfl rfl
theorem wd_718 : Cond.methodLink "RegretPegsModel" 73 yX7_within ∈ rp_W0 := rp_t3 (i := 238) rfl rfl
theorem wd_719 : Cond.static yX7_within ∈ rp_W0 := rp_t3 (i := 239) rfl rfl
theorem wd_720 : Cond.code yX7_within prog_9_method_3_code 3 (some .boolean) ∈ rp_W0 := rp_t4 (i := 0) rfl rfl
theorem wd_721 : Cond.constant "RegretPegsModel" 77 (-1000000001) ∈ rp_W0 := rp_t4 (i := 1) rfl rfl
theorem wd_722 : Cond.methodLink "RegretPegsModel" 78 yX7_finding ∈ rp_W0 := rp_t4 (i := 2) rfl rfl
theorem wd_724 : Cond.instanceMethod yX7_finding ∈ rp_W0 := rp_t4 (i := 4) rfl rfl
theorem wd_725 : Cond.code yX7_finding prog_9_method_2_code 2 (some .int) ∈ rp_W0 := rp_t4 (i := 5) rfl rfl
theorem wd_726 : Cond.constant "RegretPegsModel" 59 (-1000000000) ∈ rp_W0 := rp_t4 (i := 6) rfl rfl
theorem wd_727 : Cond.constant "RegretPegsModel" 82 (-1000000004) ∈ rp_W0 := rp_t4 (i := 7) rfl rfl
theorem wd_728 : Cond.constantLong "RegretPegsModel" 83 255 ∈ rp_W0 := rp_t4 (i := 8) rfl rfl
theorem wd_729 : Cond.methodLink "RegretPegsLaw" 54 yX7_text ∈ rp_W0 := rp_t4 (i := 9) rfl rfl
theorem wd_730 : Cond.instanceMethod yX7_text ∈ rp_W0 := rp_t4 (i := 10) rfl rfl
theorem wd_731 : Cond.selects "RegretPegsModel" yX7_text yX7_text ∈ rp_W0 := rp_t4 (i := 11) rfl rfl
theorem wd_732 : Cond.code yX7_text prog_9_method_19_code 3 (some .int) ∈ rp_W0 := rp_t4 (i := 12) rfl rfl
theorem wd_733 : Cond.methodLink "RegretPegsModel" 136 yX7_either ∈ rp_W0 := rp_t4 (i := 13) rfl rfl
theorem wd_735 : Cond.instanceMethod yX7_either ∈ rp_W0 := rp_t4 (i := 15) rfl rfl
theorem wd_736 : Cond.code yX7_either prog_9_method_12_code 1 none ∈ rp_W0 := rp_t4 (i := 16) rfl rfl
theorem wd_737 : Cond.methodLink "RegretPegsModel" 100 yX7_both ∈ rp_W0 := rp_t4 (i := 17) rfl rfl
theorem wd_739 : Cond.instanceMethod yX7_both ∈ rp_W0 := rp_t4 (i := 19) rfl rfl
theorem wd_740 : Cond.code yX7_both prog_9_method_13_code 1 none ∈ rp_W0 := rp_t4 (i := 20) rfl rfl
theorem wd_741 : Cond.methodLink "RegretPegsModel" 111 yX7_compared ∈ rp_W0 := rp_t4 (i := 21) rfl rfl
theorem wd_743 : Cond.instanceMethod yX7_compared ∈ rp_W0 := rp_t4 (i := 23) rfl rfl
theorem wd_744 : Cond.code yX7_compared prog_9_method_14_code 2 none ∈ rp_W0 := rp_t4 (i := 24) rfl rfl
theorem wd_745 : Cond.methodLink "RegretPegsModel" 114 yX7_sum ∈ rp_W0 := rp_t4 (i := 25) rfl rfl
theorem wd_747 : Cond.instanceMethod yX7_sum ∈ rp_W0 := rp_t4 (i := 27) rfl rfl
theorem wd_748 : Cond.code yX7_sum prog_9_method_15_code 2 none ∈ rp_W0 := rp_t4 (i := 28) rfl rfl
theorem wd_749 : Cond.methodLink "RegretPegsModel" 117 yX7_product ∈ rp_W0 := rp_t4 (i := 29) rfl rfl
theorem wd_751 : Cond.instanceMethod yX7_product ∈ rp_W0 := rp_t4 (i := 31) rfl rfl
theorem wd_752 : Cond.code yX7_product prog_9_method_16_code 2 none ∈ rp_W0 := rp_t4 (i := 32) rfl rfl
theorem wd_753 : Cond.methodLink "RegretPegsModel" 120 yX7_one ∈ rp_W0 := rp_t4 (i := 33) rfl rfl
theorem wd_755 : Cond.instanceMethod yX7_one ∈ rp_W0 := rp_t4 (i := 35) rfl rfl
theorem wd_756 : Cond.code yX7_one prog_9_method_18_code 4 none ∈ rp_W0 := rp_t4 (i := 36) rfl rfl
theorem wd_757 : Cond.methodLink "RegretPegsModel" 93 yX7_here ∈ rp_W0 := rp_t4 (i := 37) rfl rfl
theorem wd_759 : Cond.instanceMethod yX7_here ∈ rp_W0 := rp_t4 (i := 39) rfl rfl
theorem wd_760 : Cond.code yX7_here prog_9_method_9_code 1 (some .int) ∈ rp_W0 := rp_t4 (i := 40) rfl rfl
theorem wd_761 : Cond.methodLink "RegretPegsModel" 107 yX7_codes ∈ rp_W0 := rp_t4 (i := 41) rfl rfl
theorem wd_763 : Cond.instanceMethod yX7_codes ∈ rp_W0 := rp_t4 (i := 43) rfl rfl
theorem wd_764 : Cond.code yX7_codes prog_9_method_11_code 2 none ∈ rp_W0 := rp_t4 (i := 44) rfl rfl
theorem wd_765 : Cond.methodLink "RegretPegsModel" 103 yX7_takes ∈ rp_W0 := rp_t4 (i := 45) rfl rfl
theorem wd_767 : Cond.instanceMethod yX7_takes ∈ rp_W0 := rp_t4 (i := 47) rfl rfl
theorem wd_768 : Cond.code yX7_takes prog_9_method_10_code 3 (some .boolean) ∈ rp_W0 := rp_t4 (i := 48) rfl rfl
theorem wd_769 : Cond.methodLink "RegretPegsModel" 139 yX7_nameOf ∈ rp_W0 := rp_t4 (i := 49) rfl rfl
theorem wd_771 : Cond.instanceMethod yX7_nameOf ∈ rp_W0 := rp_t4 (i := 51) rfl rfl
theorem wd_772 : Cond.code yX7_nameOf prog_9_method_17_code 4 (some .int) ∈ rp_W0 := rp_t4 (i := 52) rfl rfl
theorem wd_773 : Cond.methodLink "RegretPegsModel" 126 yJ0_length_8abf5 ∈ rp_W0 := rp_t4 (i := 53) rfl rfl
theorem wd_774 : Cond.instanceMethod yJ0_length_8abf5 ∈ rp_W0 := rp_t4 (i := 54) rfl rfl
theorem wd_775 : Cond.selects "java/lang/String" yJ0_length_8abf5 yJ0_length_8abf5 ∈ rp_W0 := rp_t4 (i := 55) rfl rfl
theorem wd_776 : Cond.code yJ0_length_8abf5 prog_11_method_54_code 1 (some .int) ∈ rp_W0 := rp_t4 (i := 56) rfl rfl
theorem wd_777 : Cond.methodLink "java/lang/String" 335 yJ0_coder_7d493 ∈ rp_W0 := rp_t4 (i := 57) rfl rfl
theorem wd_778 : Cond.instanceMethod yJ0_coder_7d493 ∈ rp_W0 := rp_t4 (i := 58) rfl rfl
theorem wd_779 : Cond.selects "java/lang/String" yJ0_coder_7d493 yJ0_coder_7d493 ∈ rp_W0 := rp_t4 (i := 59) rfl rfl
theorem wd_780 : Cond.code yJ0_coder_7d493 prog_11_method_152_code 1 (some .byte) ∈ rp_W0 := rp_t4 (i := 60) rfl rfl
theorem wd_781 : Cond.fieldLink "java/lang/String" 38 "java/lang/String" "COMPACT_STRINGS" "Z" ∈ rp_W0 := rp_t4 (i := 61) rfl rfl
theorem wd_783 : Cond.methodLink "RegretPegsModel" 129 yJ0_charAt_5068e ∈ rp_W0 := rp_t4 (i := 63) rfl rfl
theorem wd_784 : Cond.instanceMethod yJ0_charAt_5068e ∈ rp_W0 := rp_t4 (i := 64) rfl rfl
theorem wd_785 : Cond.selects "java/lang/String" yJ0_charAt_5068e yJ0_charAt_5068e ∈ rp_W0 := rp_t4 (i := 65) rfl rfl
theorem wd_786 : Cond.code yJ0_charAt_5068e prog_11_method_56_code 2 (some .char) ∈ rp_W0 := rp_t4 (i := 66) rfl rfl
theorem wd_787 : Cond.methodLink "java/lang/String" 492 yJ0_isLatin1_aae02 ∈ rp_W0 := rp_t4 (i := 67) rfl rfl
theorem wd_788 : Cond.instanceMethod yJ0_isLatin1_aae02 ∈ rp_W0 := rp_t4 (i := 68) rfl rfl
theorem wd_789 : Cond.selects "java/lang/String" yJ0_isLatin1_aae02 yJ0_isLatin1_aae02 ∈ rp_W0 := rp_t4 (i := 69) rfl rfl
theorem wd_790 : Cond.code yJ0_isLatin1_aae02 prog_11_method_154_code 1 (some .boolean) ∈ rp_W0 := rp_t4 (i := 70) rfl rfl
theorem wd_791 : Cond.methodLink "java/lang/String" 495 yJ1_charAt_3b067 ∈ rp_W0 := rp_t4 (i := 71) rfl rfl
theorem wd_792 : Cond.static yJ1_charAt_3b067 ∈ rp_W0 := rp_t4 (i := 72) rfl rfl
theorem wd_793 : Cond.code yJ1_charAt_3b067 prog_12_method_2_code 2 (some .char) ∈ rp_W0 := rp_t4 (i := 73) rfl rfl
theorem wd_794 : Cond.methodLink "java/lang/StringLatin1" 9 yJ0_checkIndex_df160 ∈ rp_W0 := rp_t4 (i := 74) rfl rfl
theorem wd_795 : Cond.static yJ0_checkIndex_df160 ∈ rp_W0 := rp_t4 (i := 75) rfl rfl
theorem wd_796 : Cond.code yJ0_checkIndex_df160 prog_11_method_155_code 2 none ∈ rp_W0 := rp_t4 (i := 76) rfl rfl
theorem wd_797 : Cond.fieldLink "java/lang/String" 1053 "jdk/internal/util/Preconditions" "SIOOBE_FORMATTER" "Ljava/util/function/BiFunction;" ∈ rp_W0 := rp_t4 (i := 77) rfl rfl
theorem wd_799 : Cond.methodLink "java/lang/String" 1059 yJ3_checkIndex_8e157 ∈ rp_W0 := rp_t4 (i := 79) rfl rfl
theorem wd_800 : Cond.static yJ3_checkIndex_8e157 ∈ rp_W0 := rp_t4 (i := 80) rfl rfl
theorem wd_801 : Cond.code yJ3_checkIndex_8e157 prog_15_method_11_code 3 (some .int) ∈ rp_W0 := rp_t4 (i := 81) rfl rfl
theorem wd_802 : Cond.methodLink "java/lang/String" 498 yJ2_charAt_3b067 ∈ rp_W0 := rp_t4 (i := 82) rfl rfl
theorem wd_803 : Cond.static yJ2_charAt_3b067 ∈ rp_W0 := rp_t4 (i := 83) rfl rfl
theorem wd_804 : Cond.code yJ2_charAt_3b067 prog_13_method_83_code 2 (some .char) ∈ rp_W0 := rp_t4 (i := 84) rfl rfl
theorem wd_805 : Cond.methodLink "java/lang/StringUTF16" 67 yJ2_checkIndex_2214a ∈ rp_W0 := rp_t4 (i := 85) rfl rfl
theorem wd_806 : Cond.static yJ2_checkIndex_2214a ∈ rp_W0 := rp_t4 (i := 86) rfl rfl
theorem wd_807 : Cond.code yJ2_checkIndex_2214a prog_13_method_91_code 2 none ∈ rp_W0 := rp_t4 (i := 87) rfl rfl
theorem wd_808 : Cond.methodLink "java/lang/StringUTF16" 48 yJ2_length_9d52b ∈ rp_W0 := rp_t4 (i := 88) rfl rfl
theorem wd_809 : Cond.static yJ2_length_9d52b ∈ rp_W0 := rp_t4 (i := 89) rfl rfl
theorem wd_810 : Cond.code yJ2_length_9d52b prog_13_method_6_code 1 (some .int) ∈ rp_W0 := rp_t4 (i := 90) rfl rfl
theorem wd_811 : Cond.methodLink "java/lang/StringUTF16" 414 yJ0_checkIndex_df160 ∈ rp_W0 := rp_t4 (i := 91) rfl rfl
theorem wd_812 : Cond.methodLink "java/lang/StringUTF16" 71 yJ2_getChar_3b067 ∈ rp_W0 := rp_t4 (i := 92) rfl rfl
theorem wd_813 : Cond.static yJ2_getChar_3b067 ∈ rp_W0 := rp_t4 (i := 93) rfl rfl
theorem wd_814 : Cond.code yJ2_getChar_3b067 prog_13_method_5_code 2 (some .char) ∈ rp_W0 := rp_t4 (i := 94) rfl rfl
theorem wd_815 : Cond.fieldLink "java/lang/StringUTF16" 44 "java/lang/StringUTF16" "$assertionsDisabled" "Z" ∈ rp_W0 := rp_t4 (i := 95) rfl rfl
theorem wd_817 : Cond.fieldLink "java/lang/StringUTF16" 59 "java/lang/StringUTF16" "HI_BYTE_SHIFT" "I" ∈ rp_W0 := rp_t4 (i := 97) rfl rfl
theorem wd_819 : Cond.fieldLink "java/lang/StringUTF16" 63 "java/lang/StringUTF16" "LO_BYTE_SHIFT" "I" ∈ rp_W0 := rp_t4 (i := 99) rfl rfl
theorem wd_821 : Cond.methodLink "RegretPegsLaw" 59 yX7_law ∈ rp_W0 := rp_t4 (i := 101) rfl rfl
theorem wd_822 : Cond.instanceMethod yX7_law ∈ rp_W0 := rp_t4 (i := 102) rfl rfl
theorem wd_823 : Cond.selects "RegretPegsModel" yX7_law yX7_law ∈ rp_W0 := rp_t4 (i := 103) rfl rfl
theorem wd_824 : Cond.code yX7_law prog_9_method_24_code 5 (some .int) ∈ rp_W0 := rp_t4 (i := 104) rfl rfl
theorem wd_825 : Cond.methodLink "RegretPegsModel" 155 yX7_given ∈ rp_W0 := rp_t4 (i := 105) rfl rfl
theorem wd_827 : Cond.instanceMethod yX7_given ∈ rp_W0 := rp_t4 (i := 107) rfl rfl
theorem wd_828 : Cond.code yX7_given prog_9_method_23_code 6 (some .int) ∈ rp_W0 := rp_t4 (i := 108) rfl rfl
theorem wd_829 : Cond.methodLink "RegretPegsModel" 146 yX7_hasText ∈ rp_W0 := rp_t4 (i := 109) rfl rfl
theorem wd_831 : Cond.instanceMethod yX7_hasText ∈ rp_W0 := rp_t4 (i := 111) rfl rfl
theorem wd_832 : Cond.code yX7_hasText prog_9_method_22_code 2 (some .boolean) ∈ rp_W0 := rp_t4 (i := 112) rfl rfl
theorem wd_833 : Cond.methodLink "RegretPegsModel" 149 yX7_worked ∈ rp_W0 := rp_t4 (i := 113) rfl rfl
theorem wd_835 : Cond.instanceMethod yX7_worked ∈ rp_W0 := rp_t4 (i := 115) rfl rfl
theorem wd_836 : Cond.code yX7_worked prog_9_method_21_code 5 (some .int) ∈ rp_W0 := rp_t4 (i := 116) rfl rfl
theorem wd_837 : Cond.methodLink "RegretPegsModel" 142 yX7_done ∈ rp_W0 := rp_t4 (i := 117) rfl rfl
theorem wd_838 : Cond.static yX7_done ∈ rp_W0 := rp_t4 (i := 118) rfl rfl
theorem wd_839 : Cond.code yX7_done prog_9_method_20_code 3 (some .int) ∈ rp_W0 := rp_t4 (i := 119) rfl rfl
theorem wd_840 : Cond.methodLink "RegretPegsModel" 152 yX7_held ∈ rp_W0 := rp_t4 (i := 120) rfl rfl
theorem wd_841 : Cond.static yX7_held ∈ rp_W0 := rp_t4 (i := 121) rfl rfl
theorem wd_842 : Cond.code yX7_held prog_9_method_4_code 3 (some .int) ∈ rp_W0 := rp_t4 (i := 122) rfl rfl
theorem wd_843 : Cond.methodLink "RegretPegsModel" 60 yJ9_min_7cf53 ∈ rp_W0 := rp_t4 (i := 123) rfl rfl
theorem wd_844 : Cond.methodLink "RegretPegsModel" 66 yJ9_max_7cf53 ∈ rp_W0 := rp_t4 (i := 124) rfl rfl
theorem wd_845 : Cond.methodLink "RegretPegsLaw" 17 yX7_guest ∈ rp_W0 := rp_t4 (i := 125) rfl rfl
theorem wd_846 : Cond.instanceMethod yX7_guest ∈ rp_W0 := rp_t4 (i := 126) rfl rfl
theorem wd_847 : Cond.selects "RegretPegsModel" yX7_guest yX7_guest ∈ rp_W0 := rp_t4 (i := 127) rfl rfl
theorem wd_848 : Cond.code yX7_guest prog_9_method_33_code 3 (some .int) ∈ rp_W0 := rp_t4 (i := 128) rfl rfl
theorem wd_849 : Cond.methodLink "RegretPegsModel" 168 yX7_isKindM ∈ rp_W0 := rp_t4 (i := 129) rfl rfl
theorem wd_850 : Cond.static yX7_isKindM ∈ rp_W0 := rp_t4 (i := 130) rfl rfl
theorem wd_851 : Cond.code yX7_isKindM prog_9_method_31_code 1 (some .boolean) ∈ rp_W0 := rp_t4 (i := 131) rfl rfl
theorem wd_852 : Cond.methodLink "RegretPegsModel" 171 yX7_isRue ∈ rp_W0 := rp_t4 (i := 132) rfl rfl
theorem wd_853 : Cond.static yX7_isRue ∈ rp_W0 := rp_t4 (i := 133) rfl rfl
theorem wd_854 : Cond.code yX7_isRue prog_9_method_27_code 1 (some .boolean) ∈ rp_W0 := rp_t4 (i := 134) rfl rfl
theorem wd_855 : Cond.methodLink "RegretPegsModel" 174 yX7_comes ∈ rp_W0 := rp_t4 (i := 135) rfl rfl
theorem wd_857 : Cond.instanceMethod yX7_comes ∈ rp_W0 := rp_t4 (i := 137) rfl rfl
theorem wd_858 : Cond.code yX7_comes prog_9_method_32_code 4 (some .int) ∈ rp_W0 := rp_t4 (i := 138) rfl rfl
theorem wd_859 : Cond.methodLink "RegretPegsModel" 162 yX7_guestAt ∈ rp_W0 := rp_t4 (i := 139) rfl rfl
theorem wd_860 : Cond.static yX7_guestAt ∈ rp_W0 := rp_t4 (i := 140) rfl rfl
theorem wd_861 : Cond.code yX7_guestAt prog_9_method_28_code 2 (some .int) ∈ rp_W0 := rp_t4 (i := 141) rfl rfl
theorem wd_862 : Cond.methodLink "RegretPegsLaw" 21 yX7_ofGuest ∈ rp_W0 := rp_t4 (i := 142) rfl rfl
theorem wd_863 : Cond.instanceMethod yX7_ofGuest ∈ rp_W0 := rp_t4 (i := 143) rfl rfl
theorem wd_864 : Cond.selects "RegretPegsModel" yX7_ofGuest yX7_ofGuest ∈ rp_W0 := rp_t4 (i := 144) rfl rfl
theorem wd_865 : Cond.code yX7_ofGuest prog_9_method_38_code 3 (some .int) ∈ rp_W0 := rp_t4 (i := 145) rfl rfl
theorem wd_866 : Cond.methodLink "RegretPegsModel" 159 yX7_isGuest ∈ rp_W0 := rp_t4 (i := 146) rfl rfl
theorem wd_868 : Cond.instanceMethod yX7_isGuest ∈ rp_W0 := rp_t4 (i := 148) rfl rfl
theorem wd_869 : Cond.code yX7_isGuest prog_9_method_25_code 2 (some .boolean) ∈ rp_W0 := rp_t4 (i := 149) rfl rfl
theorem wd_870 : Cond.methodLink "RegretPegsModel" 165 yX7_guestIs ∈ rp_W0 := rp_t4 (i := 150) rfl rfl
theorem wd_872 : Cond.instanceMethod yX7_guestIs ∈ rp_W0 := rp_t4 (i := 152) rfl rfl
theorem wd_873 : Cond.code yX7_guestIs prog_9_method_29_code 3 (some .int) ∈ rp_W0 := rp_t4 (i := 153) rfl rfl
theorem wd_874 : Cond.methodLink "RegretPegsModel" 180 yX7_pegOf ∈ rp_W0 := rp_t4 (i := 154) rfl rfl
theorem wd_876 : Cond.instanceMethod yX7_pegOf ∈ rp_W0 := rp_t4 (i := 156) rfl rfl
theorem wd_877 : Cond.code yX7_pegOf prog_9_method_36_code 3 (some .int) ∈ rp_W0 := rp_t4 (i := 157) rfl rfl
theorem wd_878 : Cond.methodLink "RegretPegsModel" 183 yX7_growsNow ∈ rp_W0 := rp_t4 (i := 158) rfl rfl
theorem wd_880 : Cond.instanceMethod yX7_growsNow ∈ rp_W0 := rp_t4 (i := 160) rfl rfl
theorem wd_881 : Cond.code yX7_growsNow prog_9_method_37_code 4 (some .int) ∈ rp_W0 := rp_t4 (i := 161) rfl rfl
theorem wd_882 : Cond.methodLink "RegretPegsLaw" 26 yX7_change ∈ rp_W0 := rp_t4 (i := 162) rfl rfl
theorem wd_883 : Cond.instanceMethod yX7_change ∈ rp_W0 := rp_t4 (i := 163) rfl rfl
theorem wd_884 : Cond.selects "RegretPegsModel" yX7_change yX7_change ∈ rp_W0 := rp_t4 (i := 164) rfl rfl
theorem wd_885 : Cond.code yX7_change prog_9_method_39_code 5 (some .int) ∈ rp_W0 := rp_t4 (i := 165) rfl rfl
theorem wd_886 : Cond.methodLink "RegretPegsModel" 186 yX7_turn ∈ rp_W0 := rp_t4 (i := 166) rfl rfl
theorem wd_888 : Cond.instanceMethod yX7_turn ∈ rp_W0 := rp_t4 (i := 168) rfl rfl
theorem wd_889 : Cond.code yX7_turn prog_9_method_6_code 4 (some .int) ∈ rp_W0 := rp_t4 (i := 169) rfl rfl
theorem wd_890 : Cond.methodLink "RegretPegsLaw" 31 yX7_peg ∈ rp_W0 := rp_t4 (i := 170) rfl rfl
theorem wd_891 : Cond.instanceMethod yX7_peg ∈ rp_W0 := rp_t4 (i := 171) rfl rfl
theorem wd_892 : Cond.selects "RegretPegsModel" yX7_peg yX7_peg ∈ rp_W0 := rp_t4 (i := 172) rfl rfl
theorem wd_893 : Cond.code yX7_peg prog_9_method_40_code 2 (some .int) ∈ rp_W0 := rp_t4 (i := 173) rfl rfl
theorem wd_894 : Cond.methodLink "RegretPegsLaw" 35 yX7_hang ∈ rp_W0 := rp_t4 (i := 174) rfl rfl
theorem wd_895 : Cond.instanceMethod yX7_hang ∈ rp_W0 := rp_t4 (i := 175) rfl rfl
theorem wd_896 : Cond.selects "RegretPegsModel" yX7_hang yX7_hang ∈ rp_W0 := rp_t4 (i := 176) rfl rfl
theorem wd_897 : Cond.code yX7_hang prog_9_method_42_code 3 (some .int) ∈ rp_W0 := rp_t4 (i := 177) rfl rfl
theorem wd_898 : Cond.methodLink "RegretPegsModel" 189 yX7_hangs ∈ rp_W0 := rp_t4 (i := 178) rfl rfl
theorem wd_900 : Cond.instanceMethod yX7_hangs ∈ rp_W0 := rp_t4 (i := 180) rfl rfl
theorem wd_901 : Cond.code yX7_hangs prog_9_method_41_code 4 (some .int) ∈ rp_W0 := rp_t4 (i := 181) rfl rfl
theorem wd_902 : Cond.methodLink "RegretPegsLaw" 39 yX7_become ∈ rp_W0 := rp_t4 (i := 182) rfl rfl
theorem wd_903 : Cond.instanceMethod yX7_become ∈ rp_W0 := rp_t4 (i := 183) rfl rfl
theorem wd_904 : Cond.selects "RegretPegsModel" yX7_become yX7_become ∈ rp_W0 := rp_t4 (i := 184) rfl rfl
theorem wd_905 : Cond.code yX7_become prog_9_method_43_code 3 (some .int) ∈ rp_W0 := rp_t4 (i := 185) rfl rfl
theorem wd_906 : Cond.methodLink "RegretPegsLaw" 43 yX7_as ∈ rp_W0 := rp_t4 (i := 186) rfl rfl
theorem wd_907 : Cond.instanceMethod yX7_as ∈ rp_W0 := rp_t4 (i := 187) rfl rfl
theorem wd_908 : Cond.selects "RegretPegsModel" yX7_as yX7_as ∈ rp_W0 := rp_t4 (i := 188) rfl rfl
theorem wd_909 : Cond.code yX7_as prog_9_method_44_code 3 (some .int) ∈ rp_W0 := rp_t4 (i := 189) rfl rfl
theorem wd_910 : Cond.methodLink "RegretPegsModel" 192 yX7_isUnder ∈ rp_W0 := rp_t4 (i := 190) rfl rfl
theorem wd_911 : Cond.static yX7_isUnder ∈ rp_W0 := rp_t4 (i := 191) rfl rfl
theorem wd_912 : Cond.code yX7_isUnder prog_9_method_35_code 3 (some .boolean) ∈ rp_W0 := rp_t4 (i := 192) rfl rfl
theorem wd_913 : Cond.methodLink "RegretPegsModel" 177 yX7_above ∈ rp_W0 := rp_t4 (i := 193) rfl rfl
theorem wd_914 : Cond.static yX7_above ∈ rp_W0 := rp_t4 (i := 194) rfl rfl
theorem wd_915 : Cond.code yX7_above prog_9_method_34_code 1 (some .int) ∈ rp_W0 := rp_t4 (i := 195) rfl rfl
theorem wd_916 : Cond.constant "RegretPegsModel" 196 (-1000000005) ∈ rp_W0 := rp_t4 (i := 196) rfl rfl
theorem wd_917 : Cond.methodLink "RegretPegsLaw" 63 yX7_dance ∈ rp_W0 := rp_t4 (i := 197) rfl rfl
theorem wd_918 : Cond.instanceMethod yX7_dance ∈ rp_W0 := rp_t4 (i := 198) rfl rfl
theorem wd_919 : Cond.selects "RegretPegsModel" yX7_dance yX7_dance ∈ rp_W0 := rp_t4 (i := 199) rfl rfl
theorem wd_920 : Cond.code yX7_dance prog_9_method_47_code 3 (some .int) ∈ rp_W0 := rp_t4 (i := 200) rfl rfl
theorem wd_921 : Cond.methodLink "RegretPegsModel" 204 yX7_areTwo ∈ rp_W0 := rp_t4 (i := 201) rfl rfl
theorem wd_923 : Cond.instanceMethod yX7_areTwo ∈ rp_W0 := rp_t4 (i := 203) rfl rfl
theorem wd_924 : Cond.code yX7_areTwo prog_9_method_26_code 3 (some .boolean) ∈ rp_W0 := rp_t4 (i := 204) rfl rfl
theorem wd_925 : Cond.constant "RegretPegsModel" 207 (-1000000003) ∈ rp_W0 := rp_t4 (i := 205) rfl rfl
theorem wd_926 : Cond.methodLink "RegretPegsModel" 208 yX7_dancing ∈ rp_W0 := rp_t4 (i := 206) rfl rfl
theorem wd_928 : Cond.instanceMethod yX7_dancing ∈ rp_W0 := rp_t4 (i := 208) rfl rfl
theorem wd_929 : Cond.code yX7_dancing prog_9_method_46_code 5 none ∈ rp_W0 := rp_t4 (i := 209) rfl rfl
theorem wd_930 : Cond.methodLink "RegretPegsModel" 197 yX7_rue ∈ rp_W0 := rp_t4 (i := 210) rfl rfl
theorem wd_932 : Cond.instanceMethod yX7_rue ∈ rp_W0 := rp_t4 (i := 212) rfl rfl
theorem wd_933 : Cond.code yX7_rue prog_9_method_30_code 2 (some .int) ∈ rp_W0 := rp_t4 (i := 213) rfl rfl
theorem wd_934 : Cond.methodLink "RegretPegsModel" 200 yX7_hasDanced ∈ rp_W0 := rp_t4 (i := 214) rfl rfl
theorem wd_936 : Cond.instanceMethod yX7_hasDanced ∈ rp_W0 := rp_t4 (i := 216) rfl rfl
theorem wd_937 : Cond.code yX7_hasDanced prog_9_method_45_code 3 none ∈ rp_W0 := rp_t4 (i := 217) rfl rfl
theorem wd_938 : Cond.methodLink "RegretPegsLaw" 67 yX7_hours ∈ rp_W0 := rp_t4 (i := 218) rfl rfl
theorem wd_939 : Cond.instanceMethod yX7_hours ∈ rp_W0 := rp_t4 (i := 219) rfl rfl
theorem wd_940 : Cond.selects "RegretPegsModel" yX7_hours yX7_hours ∈ rp_W0 := rp_t4 (i := 220) rfl rfl
theorem wd_941 : Cond.code yX7_hours prog_9_method_52_code 2 (some .int) ∈ rp_W0 := rp_t4 (i := 221) rfl rfl
theorem wd_942 : Cond.methodLink "RegretPegsModel" 217 yX7_hoursGo ∈ rp_W0 := rp_t4 (i := 222) rfl rfl
theorem wd_944 : Cond.instanceMethod yX7_hoursGo ∈ rp_W0 := rp_t4 (i := 224) rfl rfl
theorem wd_945 : Cond.code yX7_hoursGo prog_9_method_50_code 3 none ∈ rp_W0 := rp_t4 (i := 225) rfl rfl
theorem wd_946 : Cond.methodLink "RegretPegsModel" 214 yX7_hour ∈ rp_W0 := rp_t4 (i := 226) rfl rfl
theorem wd_948 : Cond.instanceMethod yX7_hour ∈ rp_W0 := rp_t4 (i := 228) rfl rfl
theorem wd_949 : Cond.code yX7_hour prog_9_method_49_code 4 none ∈ rp_W0 := rp_t4 (i := 229) rfl rfl
theorem wd_950 : Cond.methodLink "RegretPegsModel" 211 yX7_isWrongAt ∈ rp_W0 := rp_t4 (i := 230) rfl rfl
theorem wd_952 : Cond.instanceMethod yX7_isWrongAt ∈ rp_W0 := rp_t4 (i := 232) rfl rfl
theorem wd_953 : Cond.code yX7_isWrongAt prog_9_method_48_code 2 (some .boolean) ∈ rp_W0 := rp_t4 (i := 233) rfl rfl
theorem wd_954 : Cond.methodLink "RegretPegsModel" 220 yX7_sumOf ∈ rp_W0 := rp_t4 (i := 234) rfl rfl
theorem wd_956 : Cond.instanceMethod yX7_sumOf ∈ rp_W0 := rp_t4 (i := 236) rfl rfl
theorem wd_957 : Cond.code yX7_sumOf prog_9_method_51_code 4 (some .int) ∈ rp_W0 := rp_t4 (i := 237) rfl rfl
theorem wd_958 : Cond.methodLink "RegretPegsLaw" 71 yX7_loose ∈ rp_W0 := rp_t4 (i := 238) rfl rfl
theorem wd_959 : Cond.instanceMethod yX7_loose ∈ rp_W0 := rp_t4 (i := 239) rfl rfl
theorem wd_960 : Cond.selects "RegretPegsModel" yX7_loose yX7_loose ∈ rp_W0 := rp_t5 (i := 0) rfl rfl
theorem wd_961 : Cond.code yX7_loose prog_9_method_55_code 3 (some .int) ∈ rp_W0 := rp_t5 (i := 1) rfl rfl
theorem wd_962 : Cond.methodLink "RegretPegsModel" 227 yX7_dancesByDraws ∈ rp_W0 := rp_t5 (i := 2) rfl rfl
theorem wd_964 : Cond.instanceMethod yX7_dancesByDraws ∈ rp_W0 := rp_t5 (i := 4) rfl rfl
theorem wd_965 : Cond.code yX7_dancesByDraws prog_9_method_54_code 3 none ∈ rp_W0 := rp_t5 (i := 5) rfl rfl
theorem wd_966 : Cond.methodLink "RegretPegsModel" 224 yX7_drawn ∈ rp_W0 := rp_t5 (i := 6) rfl rfl
theorem wd_968 : Cond.instanceMethod yX7_drawn ∈ rp_W0 := rp_t5 (i := 8) rfl rfl
theorem wd_969 : Cond.code yX7_drawn prog_9_method_53_code 1 (some .int) ∈ rp_W0 := rp_t5 (i := 9) rfl rfl
theorem wd_970 : Cond.constant "RegretPegsModel" 223 1103515245 ∈ rp_W0 := rp_t5 (i := 10) rfl rfl
theorem wd_971 : Cond.methodLink "RegretPegsLaw" 75 yX7_then ∈ rp_W0 := rp_t5 (i := 11) rfl rfl
theorem wd_972 : Cond.instanceMethod yX7_then ∈ rp_W0 := rp_t5 (i := 12) rfl rfl
theorem wd_973 : Cond.selects "RegretPegsModel" yX7_then yX7_then ∈ rp_W0 := rp_t5 (i := 13) rfl rfl
theorem wd_974 : Cond.code yX7_then prog_9_method_58_code 4 (some .int) ∈ rp_W0 := rp_t5 (i := 14) rfl rfl
theorem wd_975 : Cond.methodLink "RegretPegsModel" 230 yX7_isBehind ∈ rp_W0 := rp_t5 (i := 15) rfl rfl
theorem wd_976 : Cond.static yX7_isBehind ∈ rp_W0 := rp_t5 (i := 16) rfl rfl
theorem wd_977 : Cond.code yX7_isBehind prog_9_method_56_code 1 (some .boolean) ∈ rp_W0 := rp_t5 (i := 17) rfl rfl
theorem wd_978 : Cond.methodLink "RegretPegsModel" 69 yX7_copy ∈ rp_W0 := rp_t5 (i := 18) rfl rfl
theorem wd_979 : Cond.static yX7_copy ∈ rp_W0 := rp_t5 (i := 19) rfl rfl
theorem wd_980 : Cond.code yX7_copy prog_9_method_5_code 3 none ∈ rp_W0 := rp_t5 (i := 20) rfl rfl
theorem wd_981 : Cond.methodLink "RegretPegsModel" 233 yX7_putBack ∈ rp_W0 := rp_t5 (i := 21) rfl rfl
theorem wd_983 : Cond.instanceMethod yX7_putBack ∈ rp_W0 := rp_t5 (i := 23) rfl rfl
theorem wd_984 : Cond.code yX7_putBack prog_9_method_7_code 2 (some .int) ∈ rp_W0 := rp_t5 (i := 24) rfl rfl
theorem wd_985 : Cond.methodLink "RegretPegsLaw" 79 yX7_last ∈ rp_W0 := rp_t5 (i := 25) rfl rfl
theorem wd_986 : Cond.instanceMethod yX7_last ∈ rp_W0 := rp_t5 (i := 26) rfl rfl
theorem wd_987 : Cond.selects "RegretPegsModel" yX7_last yX7_last ∈ rp_W0 := rp_t5 (i := 27) rfl rfl
theorem wd_988 : Cond.code yX7_last prog_9_method_59_code 5 (some .int) ∈ rp_W0 := rp_t5 (i := 28) rfl rfl
theorem wd_989 : Cond.constant "RegretPegsModel" 236 (-1000000002) ∈ rp_W0 := rp_t5 (i := 29) rfl rfl
theorem wd_990 : Cond.methodLink "RegretPegsLaw" 83 yX7_partner ∈ rp_W0 := rp_t5 (i := 30) rfl rfl
theorem wd_991 : Cond.instanceMethod yX7_partner ∈ rp_W0 := rp_t5 (i := 31) rfl rfl
theorem wd_992 : Cond.selects "RegretPegsModel" yX7_partner yX7_partner ∈ rp_W0 := rp_t5 (i := 32) rfl rfl
theorem wd_993 : Cond.code yX7_partner prog_9_method_61_code 8 (some .int) ∈ rp_W0 := rp_t5 (i := 33) rfl rfl
theorem wd_994 : Cond.methodLink "RegretPegsModel" 237 yX7_isSoon ∈ rp_W0 := rp_t5 (i := 34) rfl rfl
theorem wd_995 : Cond.static yX7_isSoon ∈ rp_W0 := rp_t5 (i := 35) rfl rfl
theorem wd_996 : Cond.code yX7_isSoon prog_9_method_57_code 1 (some .boolean) ∈ rp_W0 := rp_t5 (i := 36) rfl rfl
theorem wd_997 : Cond.methodLink "RegretPegsModel" 240 yX7_pegWith ∈ rp_W0 := rp_t5 (i := 37) rfl rfl
theorem wd_999 : Cond.instanceMethod yX7_pegWith ∈ rp_W0 := rp_t5 (i := 39) rfl rfl
theorem wd_1000 : Cond.code yX7_pegWith prog_9_method_60_code 4 (some .int) ∈ rp_W0 := rp_t5 (i := 40) rfl rfl
theorem wd_1001 : Cond.methodLink "RegretPegsLaw" 87 yX7_dances ∈ rp_W0 := rp_t5 (i := 41) rfl rfl
theorem wd_1002 : Cond.instanceMethod yX7_dances ∈ rp_W0 := rp_t5 (i := 42) rfl rfl
theorem wd_1003 : Cond.selects "RegretPegsModel" yX7_dances yX7_dances ∈ rp_W0 := rp_t5 (i := 43) rfl rfl
theorem wd_1004 : Cond.code yX7_dances prog_9_method_64_code 9 (some .int) ∈ rp_W0 := rp_t5 (i := 44) rfl rfl
theorem wd_1005 : Cond.methodLink "RegretPegsModel" 243 yX7_hangsBy ∈ rp_W0 := rp_t5 (i := 45) rfl rfl
theorem wd_1007 : Cond.instanceMethod yX7_hangsBy ∈ rp_W0 := rp_t5 (i := 47) rfl rfl
theorem wd_1008 : Cond.code yX7_hangsBy prog_9_method_62_code 7 (some .boolean) ∈ rp_W0 := rp_t5 (i := 48) rfl rfl
theorem wd_1009 : Cond.methodLink "RegretPegsModel" 247 yX7_isPair ∈ rp_W0 := rp_t5 (i := 49) rfl rfl
theorem wd_1011 : Cond.instanceMethod yX7_isPair ∈ rp_W0 := rp_t5 (i := 51) rfl rfl
theorem wd_1012 : Cond.code yX7_isPair prog_9_method_63_code 2 (some .boolean) ∈ rp_W0 := rp_t5 (i := 52) rfl rfl
theorem wd_1013 : Cond.methodLink "RegretPegsLaw" 91 yX7_whoDanced ∈ rp_W0 := rp_t5 (i := 53) rfl rfl
theorem wd_1014 : Cond.instanceMethod yX7_whoDanced ∈ rp_W0 := rp_t5 (i := 54) rfl rfl
theorem wd_1015 : Cond.selects "RegretPegsModel" yX7_whoDanced yX7_whoDanced ∈ rp_W0 := rp_t5 (i := 55) rfl rfl
theorem wd_1016 : Cond.code yX7_whoDanced prog_9_method_66_code 8 (some .int) ∈ rp_W0 := rp_t5 (i := 56) rfl rfl
theorem wd_1017 : Cond.methodLink "RegretPegsModel" 250 yX7_isSheet ∈ rp_W0 := rp_t5 (i := 57) rfl rfl
theorem wd_1018 : Cond.static yX7_isSheet ∈ rp_W0 := rp_t5 (i := 58) rfl rfl
theorem wd_1019 : Cond.code yX7_isSheet prog_9_method_84_code 1 (some .boolean) ∈ rp_W0 := rp_t5 (i := 59) rfl rfl
theorem wd_1020 : Cond.methodLink "RegretPegsModel" 253 yX7_isSoDanced ∈ rp_W0 := rp_t5 (i := 60) rfl rfl
theorem wd_1022 : Cond.instanceMethod yX7_isSoDanced ∈ rp_W0 := rp_t5 (i := 62) rfl rfl
theorem wd_1023 : Cond.code yX7_isSoDanced prog_9_method_65_code 8 (some .boolean) ∈ rp_W0 := rp_t5 (i := 63) rfl rfl
theorem wd_1024 : Cond.methodLink "RegretPegsLaw" 96 yX7_inOrder ∈ rp_W0 := rp_t5 (i := 64) rfl rfl
theorem wd_1025 : Cond.instanceMethod yX7_inOrder ∈ rp_W0 := rp_t5 (i := 65) rfl rfl
theorem wd_1026 : Cond.selects "RegretPegsModel" yX7_inOrder yX7_inOrder ∈ rp_W0 := rp_t5 (i := 66) rfl rfl
theorem wd_1027 : Cond.code yX7_inOrder prog_9_method_68_code 3 (some .int) ∈ rp_W0 := rp_t5 (i := 67) rfl rfl
theorem wd_1028 : Cond.methodLink "RegretPegsModel" 256 yX7_isRight ∈ rp_W0 := rp_t5 (i := 68) rfl rfl
theorem wd_1030 : Cond.instanceMethod yX7_isRight ∈ rp_W0 := rp_t5 (i := 70) rfl rfl
theorem wd_1031 : Cond.code yX7_isRight prog_9_method_67_code 3 (some .boolean) ∈ rp_W0 := rp_t5 (i := 71) rfl rfl
theorem wd_1032 : Cond.methodLink "RegretPegsLaw" 100 yX7_wrongs ∈ rp_W0 := rp_t5 (i := 72) rfl rfl
theorem wd_1033 : Cond.instanceMethod yX7_wrongs ∈ rp_W0 := rp_t5 (i := 73) rfl rfl
theorem wd_1034 : Cond.selects "RegretPegsModel" yX7_wrongs yX7_wrongs ∈ rp_W0 := rp_t5 (i := 74) rfl rfl
theorem wd_1035 : Cond.code yX7_wrongs prog_9_method_69_code 4 (some .int) ∈ rp_W0 := rp_t5 (i := 75) rfl rfl
theorem wd_1036 : Cond.methodLink "RegretPegsLaw" 104 yX7_swap ∈ rp_W0 := rp_t5 (i := 76) rfl rfl
theorem wd_1037 : Cond.instanceMethod yX7_swap ∈ rp_W0 := rp_t5 (i := 77) rfl rfl
theorem wd_1038 : Cond.selects "RegretPegsModel" yX7_swap yX7_swap ∈ rp_W0 := rp_t5 (i := 78) rfl rfl
theorem wd_1039 : Cond.code yX7_swap prog_9_method_70_code 9 (some .int) ∈ rp_W0 := rp_t5 (i := 79) rfl rfl
theorem wd_1040 : Cond.methodLink "RegretPegsModel" 260 yX7_wrongs ∈ rp_W0 := rp_t5 (i := 80) rfl rfl
theorem wd_1041 : Cond.methodLink "RegretPegsLaw" 108 yX7_go ∈ rp_W0 := rp_t5 (i := 81) rfl rfl
theorem wd_1042 : Cond.instanceMethod yX7_go ∈ rp_W0 := rp_t5 (i := 82) rfl rfl
theorem wd_1043 : Cond.selects "RegretPegsModel" yX7_go yX7_go ∈ rp_W0 := rp_t5 (i := 83) rfl rfl
theorem wd_1044 : Cond.code yX7_go prog_9_method_71_code 7 (some .int) ∈ rp_W0 := rp_t5 (i := 84) rfl rfl
theorem wd_1045 : Cond.methodLink "RegretPegsLaw" 112 yX7_allRue ∈ rp_W0 := rp_t5 (i := 85) rfl rfl
theorem wd_1046 : Cond.instanceMethod yX7_allRue ∈ rp_W0 := rp_t5 (i := 86) rfl rfl
theorem wd_1047 : Cond.selects "RegretPegsModel" yX7_allRue yX7_allRue ∈ rp_W0 := rp_t5 (i := 87) rfl rfl
theorem wd_1048 : Cond.code yX7_allRue prog_9_method_72_code 2 (some .int) ∈ rp_W0 := rp_t5 (i := 88) rfl rfl
theorem wd_1049 : Cond.methodLink "RegretPegsLaw" 116 yX7_sorriest ∈ rp_W0 := rp_t5 (i := 89) rfl rfl
theorem wd_1050 : Cond.instanceMethod yX7_sorriest ∈ rp_W0 := rp_t5 (i := 90) rfl rfl
theorem wd_1051 : Cond.selects "RegretPegsModel" yX7_sorriest yX7_sorriest ∈ rp_W0 := rp_t5 (i := 91) rfl rfl
theorem wd_1052 : Cond.code yX7_sorriest prog_9_method_73_code 5 (some .int) ∈ rp_W0 := rp_t5 (i := 92) rfl rfl
theorem wd_1053 : Cond.methodLink "RegretPegsLaw" 120 yX7_odds ∈ rp_W0 := rp_t5 (i := 93) rfl rfl
theorem wd_1054 : Cond.instanceMethod yX7_odds ∈ rp_W0 := rp_t5 (i := 94) rfl rfl
theorem wd_1055 : Cond.selects "RegretPegsModel" yX7_odds yX7_odds ∈ rp_W0 := rp_t5 (i := 95) rfl rfl
theorem wd_1056 : Cond.code yX7_odds prog_9_method_74_code 10 (some .int) ∈ rp_W0 := rp_t5 (i := 96) rfl rfl
theorem wd_1057 : Cond.methodLink "RegretPegsLaw" 124 yX7_seed ∈ rp_W0 := rp_t5 (i := 97) rfl rfl
theorem wd_1058 : Cond.instanceMethod yX7_seed ∈ rp_W0 := rp_t5 (i := 98) rfl rfl
theorem wd_1059 : Cond.selects "RegretPegsModel" yX7_seed yX7_seed ∈ rp_W0 := rp_t5 (i := 99) rfl rfl
theorem wd_1060 : Cond.code yX7_seed prog_9_method_75_code 2 (some .int) ∈ rp_W0 := rp_t5 (i := 100) rfl rfl
theorem wd_1061 : Cond.methodLink "RegretPegsLaw" 128 yX7_voice ∈ rp_W0 := rp_t5 (i := 101) rfl rfl
theorem wd_1062 : Cond.instanceMethod yX7_voice ∈ rp_W0 := rp_t5 (i := 102) rfl rfl
theorem wd_1063 : Cond.selects "RegretPegsModel" yX7_voice yX7_voice ∈ rp_W0 := rp_t5 (i := 103) rfl rfl
theorem wd_1064 : Cond.code yX7_voice prog_9_method_82_code 4 (some .int) ∈ rp_W0 := rp_t5 (i := 104) rfl rfl
theorem wd_1065 : Cond.methodLink "RegretPegsModel" 275 yX7_dancesOf ∈ rp_W0 := rp_t5 (i := 105) rfl rfl
theorem wd_1067 : Cond.instanceMethod yX7_dancesOf ∈ rp_W0 := rp_t5 (i := 107) rfl rfl
theorem wd_1068 : Cond.code yX7_dancesOf prog_9_method_77_code 3 (some .int) ∈ rp_W0 := rp_t5 (i := 108) rfl rfl
theorem wd_1069 : Cond.methodLink "RegretPegsModel" 269 yX7_ran ∈ rp_W0 := rp_t5 (i := 109) rfl rfl
theorem wd_1071 : Cond.instanceMethod yX7_ran ∈ rp_W0 := rp_t5 (i := 111) rfl rfl
theorem wd_1072 : Cond.code yX7_ran prog_9_method_76_code 2 none ∈ rp_W0 := rp_t5 (i := 112) rfl rfl
theorem wd_1073 : Cond.methodLink "RegretPegsModel" 284 yX7_sighsOf ∈ rp_W0 := rp_t5 (i := 113) rfl rfl
theorem wd_1075 : Cond.instanceMethod yX7_sighsOf ∈ rp_W0 := rp_t5 (i := 115) rfl rfl
theorem wd_1076 : Cond.code yX7_sighsOf prog_9_method_78_code 5 (some .int) ∈ rp_W0 := rp_t5 (i := 116) rfl rfl
theorem wd_1077 : Cond.methodLink "RegretPegsModel" 278 yX7_looksOf ∈ rp_W0 := rp_t5 (i := 117) rfl rfl
theorem wd_1079 : Cond.instanceMethod yX7_looksOf ∈ rp_W0 := rp_t5 (i := 119) rfl rfl
theorem wd_1080 : Cond.code yX7_looksOf prog_9_method_79_code 4 (some .int) ∈ rp_W0 := rp_t5 (i := 120) rfl rfl
theorem wd_1081 : Cond.methodLink "RegretPegsModel" 290 yX7_tellsOf ∈ rp_W0 := rp_t5 (i := 121) rfl rfl
theorem wd_1083 : Cond.instanceMethod yX7_tellsOf ∈ rp_W0 := rp_t5 (i := 123) rfl rfl
theorem wd_1084 : Cond.code yX7_tellsOf prog_9_method_81_code 3 (some .int) ∈ rp_W0 := rp_t5 (i := 124) rfl rfl
theorem wd_1085 : Cond.methodLink "RegretPegsModel" 287 yX7_plainTells ∈ rp_W0 := rp_t5 (i := 125) rfl rfl
theorem wd_1087 : Cond.instanceMethod yX7_plainTells ∈ rp_W0 := rp_t5 (i := 127) rfl rfl
theorem wd_1088 : Cond.code yX7_plainTells prog_9_method_80_code 3 (some .int) ∈ rp_W0 := rp_t5 (i := 128) rfl rfl
theorem wd_1089 : Cond.methodLink "RegretPegsLaw" 132 yX7_trace ∈ rp_W0 := rp_t5 (i := 129) rfl rfl
theorem wd_1090 : Cond.instanceMethod yX7_trace ∈ rp_W0 := rp_t5 (i := 130) rfl rfl
theorem wd_1091 : Cond.selects "RegretPegsModel" yX7_trace yX7_trace ∈ rp_W0 := rp_t5 (i := 131) rfl rfl
theorem wd_1092 : Cond.code yX7_trace prog_9_method_83_code 2 (some .int) ∈ rp_W0 := rp_t5 (i := 132) rfl rfl
theorem wd_1093 : Cond.methodLink "RegretPegsLaw" 136 yX7_sheet ∈ rp_W0 := rp_t5 (i := 133) rfl rfl
theorem wd_1094 : Cond.instanceMethod yX7_sheet ∈ rp_W0 := rp_t5 (i := 134) rfl rfl
theorem wd_1095 : Cond.selects "RegretPegsModel" yX7_sheet yX7_sheet ∈ rp_W0 := rp_t5 (i := 135) rfl rfl
theorem wd_1096 : Cond.code yX7_sheet prog_9_method_85_code 5 (some .int) ∈ rp_W0 := rp_t5 (i := 136) rfl rfl
theorem wd_1097 : Cond.methodLink "RegretPegsLaw" 140 yX7_put ∈ rp_W0 := rp_t5 (i := 137) rfl rfl
theorem wd_1098 : Cond.instanceMethod yX7_put ∈ rp_W0 := rp_t5 (i := 138) rfl rfl
theorem wd_1099 : Cond.selects "RegretPegsModel" yX7_put yX7_put ∈ rp_W0 := rp_t5 (i := 139) rfl rfl
theorem wd_1100 : Cond.code yX7_put prog_9_method_86_code 4 (some .int) ∈ rp_W0 := rp_t5 (i := 140) rfl rfl
theorem wd_1101 : Cond.methodLink "RegretPegsLaw" 145 yX7_move ∈ rp_W0 := rp_t5 (i := 141) rfl rfl
theorem wd_1102 : Cond.instanceMethod yX7_move ∈ rp_W0 := rp_t5 (i := 142) rfl rfl
theorem wd_1103 : Cond.selects "RegretPegsModel" yX7_move yX7_move ∈ rp_W0 := rp_t5 (i := 143) rfl rfl
theorem wd_1104 : Cond.code yX7_move prog_9_method_87_code 7 (some .int) ∈ rp_W0 := rp_t5 (i := 144) rfl rfl
theorem wd_1105 : Cond.methodLink "RegretPegsLaw" 149 yX7_rues ∈ rp_W0 := rp_t5 (i := 145) rfl rfl
theorem wd_1106 : Cond.instanceMethod yX7_rues ∈ rp_W0 := rp_t5 (i := 146) rfl rfl
theorem wd_1107 : Cond.selects "RegretPegsModel" yX7_rues yX7_rues ∈ rp_W0 := rp_t5 (i := 147) rfl rfl
theorem wd_1108 : Cond.code yX7_rues prog_9_method_88_code 3 (some .int) ∈ rp_W0 := rp_t5 (i := 148) rfl rfl
theorem wd_1109 : Cond.methodLink "RegretPegsLaw" 153 yX7_judge ∈ rp_W0 := rp_t5 (i := 149) rfl rfl
theorem wd_1110 : Cond.instanceMethod yX7_judge ∈ rp_W0 := rp_t5 (i := 150) rfl rfl
theorem wd_1111 : Cond.selects "RegretPegsModel" yX7_judge yX7_judge ∈ rp_W0 := rp_t5 (i := 151) rfl rfl
theorem wd_1112 : Cond.code yX7_judge prog_9_method_89_code 3 (some .int) ∈ rp_W0 := rp_t5 (i := 152) rfl rfl
theorem wd_1113 : Cond.methodLink "RegretPegsLaw" 157 yX7_image ∈ rp_W0 := rp_t5 (i := 153) rfl rfl
theorem wd_1114 : Cond.instanceMethod yX7_image ∈ rp_W0 := rp_t5 (i := 154) rfl rfl
theorem wd_1115 : Cond.selects "RegretPegsModel" yX7_image yX7_image ∈ rp_W0 := rp_t5 (i := 155) rfl rfl
theorem wd_1116 : Cond.code yX7_image prog_9_method_90_code 1 (some .int) ∈ rp_W0 := rp_t5 (i := 156) rfl rfl
theorem wd_1117 : Cond.methodLink "RegretPegsLaw" 161 yX7_restore ∈ rp_W0 := rp_t5 (i := 157) rfl rfl
theorem wd_1118 : Cond.instanceMethod yX7_restore ∈ rp_W0 := rp_t5 (i := 158) rfl rfl
theorem wd_1119 : Cond.selects "RegretPegsModel" yX7_restore yX7_restore ∈ rp_W0 := rp_t5 (i := 159) rfl rfl
theorem wd_1120 : Cond.code yX7_restore prog_9_method_91_code 1 (some .int) ∈ rp_W0 := rp_t5 (i := 160) rfl rfl
theorem wd_1121 : Cond.methodLink "RegretPegsLaw" 165 yX7_tell ∈ rp_W0 := rp_t5 (i := 161) rfl rfl
theorem wd_1122 : Cond.instanceMethod yX7_tell ∈ rp_W0 := rp_t5 (i := 162) rfl rfl
theorem wd_1123 : Cond.selects "RegretPegsModel" yX7_tell yX7_tell ∈ rp_W0 := rp_t5 (i := 163) rfl rfl
theorem wd_1124 : Cond.code yX7_tell prog_9_method_92_code 2 (some .int) ∈ rp_W0 := rp_t5 (i := 164) rfl rfl
theorem wd_1125 : Cond.methodLink "RegretPegsLaw" 169 yX7_check ∈ rp_W0 := rp_t5 (i := 165) rfl rfl
theorem wd_1126 : Cond.instanceMethod yX7_check ∈ rp_W0 := rp_t5 (i := 166) rfl rfl
theorem wd_1127 : Cond.selects "RegretPegsModel" yX7_check yX7_check ∈ rp_W0 := rp_t5 (i := 167) rfl rfl
theorem wd_1128 : Cond.code yX7_check prog_9_method_93_code 4 (some .int) ∈ rp_W0 := rp_t5 (i := 168) rfl rfl
theorem wd_1129 : Cond.methodLink "RegretPegsLaw" 173 yX7_count ∈ rp_W0 := rp_t5 (i := 169) rfl rfl
theorem wd_1130 : Cond.instanceMethod yX7_count ∈ rp_W0 := rp_t5 (i := 170) rfl rfl
theorem wd_1131 : Cond.selects "RegretPegsModel" yX7_count yX7_count ∈ rp_W0 := rp_t5 (i := 171) rfl rfl
theorem wd_1132 : Cond.code yX7_count prog_9_method_95_code 2 (some .int) ∈ rp_W0 := rp_t5 (i := 172) rfl rfl
theorem wd_1133 : Cond.methodLink "RegretPegsModel" 296 yX7_idleOnes ∈ rp_W0 := rp_t5 (i := 173) rfl rfl
theorem wd_1135 : Cond.instanceMethod yX7_idleOnes ∈ rp_W0 := rp_t5 (i := 175) rfl rfl
theorem wd_1136 : Cond.code yX7_idleOnes prog_9_method_94_code 3 (some .int) ∈ rp_W0 := rp_t5 (i := 176) rfl rfl
theorem wd_1137 : Cond.methodLink "RegretPegsLaw" 177 yX7_told ∈ rp_W0 := rp_t5 (i := 177) rfl rfl
theorem wd_1138 : Cond.instanceMethod yX7_told ∈ rp_W0 := rp_t5 (i := 178) rfl rfl
theorem wd_1139 : Cond.selects "RegretPegsModel" yX7_told yX7_told ∈ rp_W0 := rp_t5 (i := 179) rfl rfl
theorem wd_1140 : Cond.code yX7_told prog_9_method_96_code 2 (some .int) ∈ rp_W0 := rp_t5 (i := 180) rfl rfl
theorem wd_1141 : Cond.constantLong "RegretPegsLaw" 44 4294967295 ∈ rp_W0 := rp_t5 (i := 181) rfl rfl
theorem wd_1142 : Cond.fieldLink "java/lang/String" 9 "java/lang/String" "value" "[B" ∈ rp_W0 := rp_t5 (i := 182) rfl rfl
theorem wd_1143 : Cond.fieldLink "java/lang/String" 15 "java/lang/String" "coder" "B" ∈ rp_W0 := rp_t5 (i := 183) rfl rfl
theorem lw_pin1 {q : MethodName × Nat} (h : q ∈ lw_privs_1) : q ∈ lw_privs := List.mem_append_left _ h
theorem lw_pin2 {q : MethodName × Nat} (h : q ∈ lw_privs_2) : q ∈ lw_privs := List.mem_append_right _ (List.mem_append_left _ h)
theorem lw_pin3 {q : MethodName × Nat} (h : q ∈ lw_privs_3) : q ∈ lw_privs := List.mem_append_right _ (List.mem_append_right _ (List.mem_append_left _ h))
theorem lw_pin4 {q : MethodName × Nat} (h : q ∈ lw_privs_4) : q ∈ lw_privs := List.mem_append_right _ (List.mem_append_right _ (List.mem_append_right _ (List.mem_append_left _ h)))
theorem lw_pin5 {q : MethodName × Nat} (h : q ∈ lw_privs_5) : q ∈ lw_privs := List.mem_append_right _ (List.mem_append_right _ (List.mem_append_right _ (List.mem_append_right _ (h))))
theorem ws_yX6_refuse : Cond.selects RX6 yX6_refuse yX6_refuse ∈ rp_W0 := rp_ts (yX6_refuse, 9) (lw_pin1 (List.mem_of_getElem? (i := 0) rfl)) rfl rfl
theorem ws_yX6_isGuest : Cond.selects RX6 yX6_isGuest yX6_isGuest ∈ rp_W0 := rp_ts (yX6_isGuest, 9) (lw_pin1 (List.mem_of_getElem? (i := 1) rfl)) rfl rfl
theorem ws_yX6_replace : Cond.selects RX6 yX6_replace yX6_replace ∈ rp_W0 := rp_ts (yX6_replace, 9) (lw_pin1 (List.mem_of_getElem? (i := 2) rfl)) rfl rfl
theorem ws_yX6_isPeg : Cond.selects RX6 yX6_isPeg yX6_isPeg ∈ rp_W0 := rp_ts (yX6_isPeg, 9) (lw_pin1 (List.mem_of_getElem? (i := 3) rfl)) rfl rfl
theorem ws_yX3_readLevel : Cond.selects RX3 yX3_readLevel yX3_readLevel ∈ rp_W0 := rp_ts (yX3_readLevel, 6) (lw_pin1 (List.mem_of_getElem? (i := 4) rfl)) rfl rfl
theorem ws_yX3_readQ : Cond.selects RX3 yX3_readQ yX3_readQ ∈ rp_W0 := rp_ts (yX3_readQ, 6) (lw_pin1 (List.mem_of_getElem? (i := 5) rfl)) rfl rfl
theorem ws_yX3_ahead : Cond.selects RX3 yX3_ahead yX3_ahead ∈ rp_W0 := rp_ts (yX3_ahead, 6) (lw_pin1 (List.mem_of_getElem? (i := 6) rfl)) rfl rfl
theorem ws_yX3_readNumber : Cond.selects RX3 yX3_readNumber yX3_readNumber ∈ rp_W0 := rp_ts (yX3_readNumber, 6) (lw_pin1 (List.mem_of_getElem? (i := 7) rfl)) rfl rfl
theorem ws_yX3_emit : Cond.selects RX3 yX3_emit yX3_emit ∈ rp_W0 := rp_ts (yX3_emit, 6) (lw_pin1 (List.mem_of_getElem? (i := 8) rfl)) rfl rfl
theorem ws_yX3_nameOf : Cond.selects RX3 yX3_nameOf yX3_nameOf ∈ rp_W0 := rp_ts (yX3_nameOf, 6) (lw_pin1 (List.mem_of_getElem? (i := 9) rfl)) rfl rfl
theorem ws_yX3_readNot : Cond.selects RX3 yX3_readNot yX3_readNot ∈ rp_W0 := rp_ts (yX3_readNot, 6) (lw_pin1 (List.mem_of_getElem? (i := 10) rfl)) rfl rfl
theorem ws_yX3_readClosed : Cond.selects RX3 yX3_readClosed yX3_readClosed ∈ rp_W0 := rp_ts (yX3_readClosed, 6) (lw_pin1 (List.mem_of_getElem? (i := 11) rfl)) rfl rfl
theorem ws_yX6_useLaw : Cond.selects RX6 yX6_useLaw yX6_useLaw ∈ rp_W0 := rp_ts (yX6_useLaw, 9) (lw_pin1 (List.mem_of_getElem? (i := 12) rfl)) rfl rfl
theorem ws_yX2_work : Cond.selects RX2 yX2_work yX2_work ∈ rp_W0 := rp_ts (yX2_work, 4) (lw_pin1 (List.mem_of_getElem? (i := 13) rfl)) rfl rfl
theorem ws_yX0_noteDanced : Cond.selects RX0 yX0_noteDanced yX0_noteDanced ∈ rp_W0 := rp_ts (yX0_noteDanced, 7) (lw_pin1 (List.mem_of_getElem? (i := 14) rfl)) rfl rfl
theorem ws_yX0_growRue : Cond.selects RX0 yX0_growRue yX0_growRue ∈ rp_W0 := rp_ts (yX0_growRue, 7) (lw_pin1 (List.mem_of_getElem? (i := 15) rfl)) rfl rfl
theorem ws_yX0_shiftNeighbours : Cond.selects RX0 yX0_shiftNeighbours yX0_shiftNeighbours ∈ rp_W0 := rp_ts (yX0_shiftNeighbours, 7) (lw_pin2 (List.mem_of_getElem? (i := 0) rfl)) rfl rfl
theorem ws_yX1_draw : Cond.selects RX1 yX1_draw yX1_draw ∈ rp_W0 := rp_ts (yX1_draw, 9) (lw_pin2 (List.mem_of_getElem? (i := 1) rfl)) rfl rfl
theorem ws_yX6_pegHavingDanced : Cond.selects RX6 yX6_pegHavingDanced yX6_pegHavingDanced ∈ rp_W0 := rp_ts (yX6_pegHavingDanced, 9) (lw_pin2 (List.mem_of_getElem? (i := 2) rfl)) rfl rfl
theorem ws_yX6_danceThatHelps : Cond.selects RX6 yX6_danceThatHelps yX6_danceThatHelps ∈ rp_W0 := rp_ts (yX6_danceThatHelps, 9) (lw_pin2 (List.mem_of_getElem? (i := 3) rfl)) rfl rfl
theorem ws_yX6_firstOfTwoThatHelp : Cond.selects RX6 yX6_firstOfTwoThatHelp yX6_firstOfTwoThatHelp ∈ rp_W0 := rp_ts (yX6_firstOfTwoThatHelp, 9) (lw_pin2 (List.mem_of_getElem? (i := 4) rfl)) rfl rfl
theorem ws_yX5_speak : Cond.selects RX5 yX5_speak yX5_speak ∈ rp_W0 := rp_ts (yX5_speak, 5) (lw_pin2 (List.mem_of_getElem? (i := 5) rfl)) rfl rfl
theorem ws_yX5_note : Cond.selects RX5 yX5_note yX5_note ∈ rp_W0 := rp_ts (yX5_note, 5) (lw_pin2 (List.mem_of_getElem? (i := 6) rfl)) rfl rfl
theorem ws_yX5_answer : Cond.selects RX5 yX5_answer yX5_answer ∈ rp_W0 := rp_ts (yX5_answer, 5) (lw_pin2 (List.mem_of_getElem? (i := 7) rfl)) rfl rfl
theorem ws_yX7_finding : Cond.selects RX7 yX7_finding yX7_finding ∈ rp_W0 := rp_ts (yX7_finding, 24) (lw_pin2 (List.mem_of_getElem? (i := 8) rfl)) rfl rfl
theorem ws_yX7_either : Cond.selects RX7 yX7_either yX7_either ∈ rp_W0 := rp_ts (yX7_either, 24) (lw_pin2 (List.mem_of_getElem? (i := 9) rfl)) rfl rfl
theorem ws_yX7_both : Cond.selects RX7 yX7_both yX7_both ∈ rp_W0 := rp_ts (yX7_both, 24) (lw_pin2 (List.mem_of_getElem? (i := 10) rfl)) rfl rfl
theorem ws_yX7_compared : Cond.selects RX7 yX7_compared yX7_compared ∈ rp_W0 := rp_ts (yX7_compared, 24) (lw_pin2 (List.mem_of_getElem? (i := 11) rfl)) rfl rfl
theorem ws_yX7_sum : Cond.selects RX7 yX7_sum yX7_sum ∈ rp_W0 := rp_ts (yX7_sum, 24) (lw_pin2 (List.mem_of_getElem? (i := 12) rfl)) rfl rfl
theorem ws_yX7_product : Cond.selects RX7 yX7_product yX7_product ∈ rp_W0 := rp_ts (yX7_product, 24) (lw_pin2 (List.mem_of_getElem? (i := 13) rfl)) rfl rfl
theorem ws_yX7_one : Cond.selects RX7 yX7_one yX7_one ∈ rp_W0 := rp_ts (yX7_one, 24) (lw_pin2 (List.mem_of_getElem? (i := 14) rfl)) rfl rfl
theorem ws_yX7_here : Cond.selects RX7 yX7_here yX7_here ∈ rp_W0 := rp_ts (yX7_here, 24) (lw_pin2 (List.mem_of_getElem? (i := 15) rfl)) rfl rfl
theorem ws_yX7_codes : Cond.selects RX7 yX7_codes yX7_codes ∈ rp_W0 := rp_ts (yX7_codes, 24) (lw_pin3 (List.mem_of_getElem? (i := 0) rfl)) rfl rfl
theorem ws_yX7_takes : Cond.selects RX7 yX7_takes yX7_takes ∈ rp_W0 := rp_ts (yX7_takes, 24) (lw_pin3 (List.mem_of_getElem? (i := 1) rfl)) rfl rfl
theorem ws_yX7_nameOf : Cond.selects RX7 yX7_nameOf yX7_nameOf ∈ rp_W0 := rp_ts (yX7_nameOf, 24) (lw_pin3 (List.mem_of_getElem? (i := 2) rfl)) rfl rfl
theorem ws_yX7_given : Cond.selects RX7 yX7_given yX7_given ∈ rp_W0 := rp_ts (yX7_given, 24) (lw_pin3 (List.mem_of_getElem? (i := 3) rfl)) rfl rfl
theorem ws_yX7_hasText : Cond.selects RX7 yX7_hasText yX7_hasText ∈ rp_W0 := rp_ts (yX7_hasText, 24) (lw_pin3 (List.mem_of_getElem? (i := 4) rfl)) rfl rfl
theorem ws_yX7_worked : Cond.selects RX7 yX7_worked yX7_worked ∈ rp_W0 := rp_ts (yX7_worked, 24) (lw_pin3 (List.mem_of_getElem? (i := 5) rfl)) rfl rfl
theorem ws_yX7_comes : Cond.selects RX7 yX7_comes yX7_comes ∈ rp_W0 := rp_ts (yX7_comes, 24) (lw_pin3 (List.mem_of_getElem? (i := 6) rfl)) rfl rfl
theorem ws_yX7_isGuest : Cond.selects RX7 yX7_isGuest yX7_isGuest ∈ rp_W0 := rp_ts (yX7_isGuest, 24) (lw_pin3 (List.mem_of_getElem? (i := 7) rfl)) rfl rfl
theorem ws_yX7_guestIs : Cond.selects RX7 yX7_guestIs yX7_guestIs ∈ rp_W0 := rp_ts (yX7_guestIs, 24) (lw_pin3 (List.mem_of_getElem? (i := 8) rfl)) rfl rfl
theorem ws_yX7_pegOf : Cond.selects RX7 yX7_pegOf yX7_pegOf ∈ rp_W0 := rp_ts (yX7_pegOf, 24) (lw_pin3 (List.mem_of_getElem? (i := 9) rfl)) rfl rfl
theorem ws_yX7_growsNow : Cond.selects RX7 yX7_growsNow yX7_growsNow ∈ rp_W0 := rp_ts (yX7_growsNow, 24) (lw_pin3 (List.mem_of_getElem? (i := 10) rfl)) rfl rfl
theorem ws_yX7_turn : Cond.selects RX7 yX7_turn yX7_turn ∈ rp_W0 := rp_ts (yX7_turn, 24) (lw_pin3 (List.mem_of_getElem? (i := 11) rfl)) rfl rfl
theorem ws_yX7_hangs : Cond.selects RX7 yX7_hangs yX7_hangs ∈ rp_W0 := rp_ts (yX7_hangs, 24) (lw_pin3 (List.mem_of_getElem? (i := 12) rfl)) rfl rfl
theorem ws_yX7_areTwo : Cond.selects RX7 yX7_areTwo yX7_areTwo ∈ rp_W0 := rp_ts (yX7_areTwo, 24) (lw_pin3 (List.mem_of_getElem? (i := 13) rfl)) rfl rfl
theorem ws_yX7_dancing : Cond.selects RX7 yX7_dancing yX7_dancing ∈ rp_W0 := rp_ts (yX7_dancing, 24) (lw_pin3 (List.mem_of_getElem? (i := 14) rfl)) rfl rfl
theorem ws_yX7_rue : Cond.selects RX7 yX7_rue yX7_rue ∈ rp_W0 := rp_ts (yX7_rue, 24) (lw_pin3 (List.mem_of_getElem? (i := 15) rfl)) rfl rfl
theorem ws_yX7_hasDanced : Cond.selects RX7 yX7_hasDanced yX7_hasDanced ∈ rp_W0 := rp_ts (yX7_hasDanced, 24) (lw_pin4 (List.mem_of_getElem? (i := 0) rfl)) rfl rfl
theorem ws_yX7_hoursGo : Cond.selects RX7 yX7_hoursGo yX7_hoursGo ∈ rp_W0 := rp_ts (yX7_hoursGo, 24) (lw_pin4 (List.mem_of_getElem? (i := 1) rfl)) rfl rfl
theorem ws_yX7_hour : Cond.selects RX7 yX7_hour yX7_hour ∈ rp_W0 := rp_ts (yX7_hour, 24) (lw_pin4 (List.mem_of_getElem? (i := 2) rfl)) rfl rfl
theorem ws_yX7_isWrongAt : Cond.selects RX7 yX7_isWrongAt yX7_isWrongAt ∈ rp_W0 := rp_ts (yX7_isWrongAt, 24) (lw_pin4 (List.mem_of_getElem? (i := 3) rfl)) rfl rfl
theorem ws_yX7_sumOf : Cond.selects RX7 yX7_sumOf yX7_sumOf ∈ rp_W0 := rp_ts (yX7_sumOf, 24) (lw_pin4 (List.mem_of_getElem? (i := 4) rfl)) rfl rfl
theorem ws_yX7_dancesByDraws : Cond.selects RX7 yX7_dancesByDraws yX7_dancesByDraws ∈ rp_W0 := rp_ts (yX7_dancesByDraws, 24) (lw_pin4 (List.mem_of_getElem? (i := 5) rfl)) rfl rfl
theorem ws_yX7_drawn : Cond.selects RX7 yX7_drawn yX7_drawn ∈ rp_W0 := rp_ts (yX7_drawn, 24) (lw_pin4 (List.mem_of_getElem? (i := 6) rfl)) rfl rfl
theorem ws_yX7_putBack : Cond.selects RX7 yX7_putBack yX7_putBack ∈ rp_W0 := rp_ts (yX7_putBack, 24) (lw_pin4 (List.mem_of_getElem? (i := 7) rfl)) rfl rfl
theorem ws_yX7_pegWith : Cond.selects RX7 yX7_pegWith yX7_pegWith ∈ rp_W0 := rp_ts (yX7_pegWith, 24) (lw_pin4 (List.mem_of_getElem? (i := 8) rfl)) rfl rfl
theorem ws_yX7_hangsBy : Cond.selects RX7 yX7_hangsBy yX7_hangsBy ∈ rp_W0 := rp_ts (yX7_hangsBy, 24) (lw_pin4 (List.mem_of_getElem? (i := 9) rfl)) rfl rfl
theorem ws_yX7_isPair : Cond.selects RX7 yX7_isPair yX7_isPair ∈ rp_W0 := rp_ts (yX7_isPair, 24) (lw_pin4 (List.mem_of_getElem? (i := 10) rfl)) rfl rfl
theorem ws_yX7_isSoDanced : Cond.selects RX7 yX7_isSoDanced yX7_isSoDanced ∈ rp_W0 := rp_ts (yX7_isSoDanced, 24) (lw_pin4 (List.mem_of_getElem? (i := 11) rfl)) rfl rfl
theorem ws_yX7_isRight : Cond.selects RX7 yX7_isRight yX7_isRight ∈ rp_W0 := rp_ts (yX7_isRight, 24) (lw_pin4 (List.mem_of_getElem? (i := 12) rfl)) rfl rfl
theorem ws_yX7_dancesOf : Cond.selects RX7 yX7_dancesOf yX7_dancesOf ∈ rp_W0 := rp_ts (yX7_dancesOf, 24) (lw_pin4 (List.mem_of_getElem? (i := 13) rfl)) rfl rfl
theorem ws_yX7_ran : Cond.selects RX7 yX7_ran yX7_ran ∈ rp_W0 := rp_ts (yX7_ran, 24) (lw_pin4 (List.mem_of_getElem? (i := 14) rfl)) rfl rfl
theorem ws_yX7_sighsOf : Cond.selects RX7 yX7_sighsOf yX7_sighsOf ∈ rp_W0 := rp_ts (yX7_sighsOf, 24) (lw_pin4 (List.mem_of_getElem? (i := 15) rfl)) rfl rfl
theorem ws_yX7_looksOf : Cond.selects RX7 yX7_looksOf yX7_looksOf ∈ rp_W0 := rp_ts (yX7_looksOf, 24) (lw_pin5 (List.mem_of_getElem? (i := 0) rfl)) rfl rfl
theorem ws_yX7_tellsOf : Cond.selects RX7 yX7_tellsOf yX7_tellsOf ∈ rp_W0 := rp_ts (yX7_tellsOf, 24) (lw_pin5 (List.mem_of_getElem? (i := 1) rfl)) rfl rfl
theorem ws_yX7_plainTells : Cond.selects RX7 yX7_plainTells yX7_plainTells ∈ rp_W0 := rp_ts (yX7_plainTells, 24) (lw_pin5 (List.mem_of_getElem? (i := 2) rfl)) rfl rfl
theorem ws_yX7_idleOnes : Cond.selects RX7 yX7_idleOnes yX7_idleOnes ∈ rp_W0 := rp_ts (yX7_idleOnes, 24) (lw_pin5 (List.mem_of_getElem? (i := 3) rfl)) rfl rfl
